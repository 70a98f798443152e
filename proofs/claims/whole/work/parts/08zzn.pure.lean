/-! ===== the stepper: all choices of parts for a place and a rule ===== -/
abbrev LIR := Option (Int32 × (Nat → Nat → Int32) × (Nat → Nat → Int32) × (Nat → Nat → Int32) × (Nat → Nat → Int32) × (Nat → Nat → Int64))
/-- no search takes too many moves -/
def MVA (so ma : Nat → Nat) (un : Nat → Option Nat) (las : Nat → Bool) (nv : Nat) : Prop := ∀ P T : List Nat, tok so un ma nv P → tok so un ma nv T → ∃ d MM : Nat, MV so un las P d [(P, 63, T)] (fun _ => none) MM ∧ MM < 100000000
theorem Xo_key {so ma : Nat → Nat} {un : Nat → Option Nat} {nv pl oth : Nat} {l right w tg : List Nat} {pv : Int32} {f sg : Sbs} (hl : tok so un ma nv l) (hr : tok so un ma nv right) (hp : pvs pv l) (hvs : ∀ c ∈ right, c < 512 → c ∈ l) (h1 : MTG so un l tg f) (h2 : MTG so un l tg sg) (e : key pv f = key pv sg) : Xo so un right w pl oth f = Xo so un right w pl oth sg := by
  have hin := keyF_inj (pv := pv) (s1 := f) (s2 := sg) (von_pv hp h1.1) (von_pv hp h2.1) 5 0 (by omega) e
  have ef : fil so un f right = fil so un sg right := fil_congr hr.1.1.1 (tok_len hr) (fun c hc h5 => by
    have c5 : c < 5 := by rcases hr.1.1.2.1 c hc with z | z <;> omega
    exact hin c (Nat.zero_le _) (by omega) ((hp c c5).mpr (hvs c hc h5)))
  unfold Xo Bo
  rw [ef]
theorem lx_84_c {n no nv hd a c e ro pl ru wh bits K : Nat} {ga vr : Nat → Nat → Int32} {las : Nat → Bool} {so ma : Nat → Nat} {un : Nat → Option Nat} {nmL : Nat → List Nat} {N : List (List Nat)} {w l right : List Nat} {pv P0 P1 : Int32} {rn : Nat} {S0 : List StpE} {Pr : List Nat → Prop} {k44 : Int32 → Int32 → (Nat → Nat → Int32) → (Nat → Nat → Int32) → (Nat → Nat → Int32) → (Nat → Nat → Int32) → (Nat → Nat → Int64) → LIR} {k56 : Int32 → Int32 → Int32 → (Nat → Nat → Int32) → (Nat → Nat → Int32) → (Nat → Nat → Int32) → (Nat → Nat → Int32) → (Nat → Nat → Int64) → LIR}
    (hn : 100000000 ≤ n) (he : ENV ga las so ma un no nv nmL) (hmv : MVA so ma un las nv) (hhd : hd ≤ 80) (hN : N.length ≤ 600) (hw : tok so un ma nv w) (hK : K ≤ 20) (hpl : pl < K) (hplw : pl < w.length) (hru : ru < 8) (ha : a < N.length) (ha2 : nth N a = sbt w pl) (hro : ro < N.length) (hro2 : nth N ro = w) (hc : c < N.length) (hc2 : nth N c = l) (hee : e < N.length) (he2 : nth N e = right) (hb9 : bits < 256) (hbr : bits.testBit ru = true) (h5l : 512 ≤ hd0 l) (hp : pvs pv l) (hvs : ∀ z ∈ right, z < 512 → z ∈ l) (hwh : whF so l (sbt w pl) wh) :
    ∀ (j m : Nat) (sp rf u v : Nat → Nat → Int32) (w8 : Nat → Nat → Int64), j ≤ wh + 1 → j < m → TBK v w8 las so ma un nv N → v 0 1 = nI hd → PND sp N w K → sp 6 pl = nI a → sp 6 0 = nI ro → sp 4 ru = nI c → sp 5 ru = nI e → sp 0 0 = nI bits → sp 0 3 = nI S0.length → OFI so un sp rf S0 pl ru (fun x => Pr x ∨ ∃ b : Nat, j ≤ b ∧ b ≤ wh ∧ QB so un l right w pl wh b x) → (∀ b : Nat, j ≤ b → b ≤ wh → ∀ tg : List Nat, TGR so un l (sbt w pl) b tg → ¬ TMm so un l tg) →
      ∃ (sp' rf' u' v' : Nat → Nat → Int32) (w' : Nat → Nat → Int64), (∀ z : Nat, z ≠ 1 → z ≠ 2 → z ≠ 3 → sp' z = sp z) ∧
        ((lx_X7_list_84 n ga rn vr P0 P1 k44 k56 m (nI N.length) (nI pl) (nI ru) (nI j - 1) sp rf u v w8 = k56 (nI N.length) (nI pl) (nI (ru + 1)) sp' rf' u' v' w' ∧ TBK v' w' las so ma un nv N ∧ v' 0 1 = nI hd ∧ OFI so un sp' rf' S0 pl ru (fun x => Pr x ∨ ∃ b : Nat, b ≤ wh ∧ QB so un l right w pl wh b x) ∧ ∀ b : Nat, b ≤ wh → ∀ tg : List Nat, TGR so un l (sbt w pl) b tg → ¬ TMm so un l tg) ∨
         (lx_X7_list_84 n ga rn vr P0 P1 k44 k56 m (nI N.length) (nI pl) (nI ru) (nI j - 1) sp rf u v w8 = some (0, sp', rf', u', v', w') ∧ (∃ N' : List (List Nat), TB v' w' las N') ∧ ((∃ (b : Nat) (tg : List Nat), b ≤ wh ∧ TGR so un l (sbt w pl) b tg ∧ TMm so un l tg) ∨ OVR S0 (fun x => Pr x ∨ ∃ b : Nat, b ≤ wh ∧ QB so un l right w pl wh b x))))
  | 0, m + 1, sp, rf, u, v, w8, _, _, hT, hst, _, _, _, _, _, _, _, hO, hno => by
    refine ⟨sp, rf, u, v, w8, fun _ _ _ _ => rfl, Or.inl ⟨?_, hT, hst, ?_, fun b hb' tg => hno b (Nat.zero_le _) hb' tg⟩⟩
    · show bx_X7_list_84 n ga rn vr P0 P1 k44 k56 (lx_X7_list_84 n ga rn vr P0 P1 k44 k56 m) (nI N.length) (nI pl) (nI ru) (nI 0 - 1) sp rf u v w8 = _
      unfold bx_X7_list_84
      rw [if_pos (by decide), xl_eq, nI_1]
    · obtain ⟨A, D, o1, o2, o3, o4, o5, o6⟩ := hO
      exact ⟨A, D, o1, o2, o3, o4, o5, fun x => (o6 x).trans ⟨fun h => h.imp id (fun ⟨b, _, k2⟩ => ⟨b, k2⟩), fun h => h.imp id (fun ⟨b, k2⟩ => ⟨b, Nat.zero_le _, k2⟩)⟩⟩
  | j + 1, m + 1, sp, rf, u, v, w8, hj, hm, hT, hst, hP, h6, h60, h4, h5, h0, h3, hO, hno => by
    have hs2 := fun (o : Nat) (h : so o ≠ 3) => (ENV_op he h).2.2
    have tl : tok so un ma nv l := by rw [← hc2]; exact hT.2 _ (nth_mem hc)
    have tr : tok so un ma nv right := by rw [← he2]; exact hT.2 _ (nth_mem hee)
    have ts := (sbt_tokl hw hplw).1
    have hn5 : 100000 ≤ n := by omega
    have s6 : (pts (sbt w pl)).length ≤ 6 := by
      rw [pts_len ts.1.1.1]
      exact (tok_ar he.2.1 hs2 ts _ (hd0_mem ts.1.1.1)).1
    have p6 := pow64 s6
    have p2m : 0 < 2 ^ (pts (sbt w pl)).length := Nat.pow_pos (by decide)
    have wh64 : wh < 64 := by rcases hwh with ⟨_, z⟩ | ⟨_, z⟩ <;> omega
    have hsh : lx_X7_list_84 n ga rn vr P0 P1 k44 k56 (m + 1) (nI N.length) (nI pl) (nI ru) (nI (j + 1) - 1) sp rf u v w8 = bx_X7_list_84 n ga rn vr P0 P1 k44 k56 (lx_X7_list_84 n ga rn vr P0 P1 k44 k56 m) (nI N.length) (nI pl) (nI ru) (nI j) sp rf u v w8 := by
      have e1 : nI (j + 1) - (1 : Int32) = nI j := by rw [i1, nI_sub (by omega)]; rfl
      rw [e1]; rfl
    have ez : nI j + (-1 : Int32) = nI j - 1 := by rw [Int32.sub_eq_add_neg]
    obtain ⟨r7, v1, w1, E, t1, t2, t3, t4, t5⟩ := fx_targetOf_c (n := n) (bits := j) hn5 he hT (by omega) (show pl < 20 by omega) hru ha h6 hc h4 (by rw [hc2]; exact h5l) (fun hS => by
      rw [hc2, ha2] at hS
      rw [ha2]
      rcases hwh with ⟨_, z⟩ | ⟨z, _⟩
      · omega
      · exact absurd hS z)
    rw [hc2, ha2] at t5
    have El : (N ++ E).length = N.length + E.length := List.length_append
    -- on, with the next choice
    have next : ∀ (sp1 rf1 u1 v2 : Nat → Nat → Int32) (w2 : Nat → Nat → Int64) (F : List (List Nat)), TB v2 w2 las (N ++ F) → v2 0 1 = nI hd → (∀ z : Nat, z ≠ 1 → z ≠ 2 → z ≠ 3 → sp1 z = sp z) → OFI so un sp1 rf1 S0 pl ru (fun x => Pr x ∨ ∃ b : Nat, j ≤ b ∧ b ≤ wh ∧ QB so un l right w pl wh b x) → (∀ tg : List Nat, TGR so un l (sbt w pl) j tg → ¬ TMm so un l tg) →
        ∃ v3 : Nat → Nat → Int32, fx_X8_giveBack n v2 (nI N.length) = some v3 ∧ ∃ (sp' rf' u' v' : Nat → Nat → Int32) (w' : Nat → Nat → Int64), (∀ z : Nat, z ≠ 1 → z ≠ 2 → z ≠ 3 → sp' z = sp z) ∧
        ((lx_X7_list_84 n ga rn vr P0 P1 k44 k56 m (nI N.length) (nI pl) (nI ru) (nI j - 1) sp1 rf1 u1 v3 w2 = k56 (nI N.length) (nI pl) (nI (ru + 1)) sp' rf' u' v' w' ∧ TBK v' w' las so ma un nv N ∧ v' 0 1 = nI hd ∧ OFI so un sp' rf' S0 pl ru (fun x => Pr x ∨ ∃ b : Nat, b ≤ wh ∧ QB so un l right w pl wh b x) ∧ ∀ b : Nat, b ≤ wh → ∀ tg : List Nat, TGR so un l (sbt w pl) b tg → ¬ TMm so un l tg) ∨
         (lx_X7_list_84 n ga rn vr P0 P1 k44 k56 m (nI N.length) (nI pl) (nI ru) (nI j - 1) sp1 rf1 u1 v3 w2 = some (0, sp', rf', u', v', w') ∧ (∃ N' : List (List Nat), TB v' w' las N') ∧ ((∃ (b : Nat) (tg : List Nat), b ≤ wh ∧ TGR so un l (sbt w pl) b tg ∧ TMm so un l tg) ∨ OVR S0 (fun x => Pr x ∨ ∃ b : Nat, b ≤ wh ∧ QB so un l right w pl wh b x)))) := fun sp1 rf1 u1 v2 w2 F q1 q2 q3 q4 q5 => by
      obtain ⟨v3, z1, z2, z3, z4⟩ := fx_giveBack_c (n := n) (f0 := N.length) hn5 q1 (by rw [List.length_append]; omega)
      rw [take_app] at z2
      have sm1 : ∀ z : Nat, z ≠ 1 → z ≠ 2 → z ≠ 3 → sp1 z = sp z := q3
      obtain ⟨sp', rf', u', v', w', y1, y2⟩ := lx_84_c hn he hmv hhd hN hw hK hpl hplw hru ha ha2 hro hro2 hc hc2 hee he2 hb9 hbr h5l hp hvs hwh j m sp1 rf1 u1 v3 w2 (by omega) (by omega) ⟨z2, hT.2⟩ (by rw [z4 1 (by decide)]; exact q2) (fun z hz => by rw [sm1 6 (by decide) (by decide) (by decide), sm1 7 (by decide) (by decide) (by decide), sm1 8 (by decide) (by decide) (by decide)]; exact hP z hz) (by rw [sm1 6 (by decide) (by decide) (by decide)]; exact h6) (by rw [sm1 6 (by decide) (by decide) (by decide)]; exact h60) (by rw [sm1 4 (by decide) (by decide) (by decide)]; exact h4) (by rw [sm1 5 (by decide) (by decide) (by decide)]; exact h5) (by rw [sm1 0 (by decide) (by decide) (by decide)]; exact h0) (by rw [sm1 0 (by decide) (by decide) (by decide)]; exact h3) q4 (fun b h1 h2 tg => by
        by_cases eb : b = j
        · rw [eb]; exact q5 tg
        · exact hno b (by omega) h2 tg)
      exact ⟨v3, z1, sp', rf', u', v', w', fun z x1 x2 x3 => (y1 z x1 x2 x3).trans (q3 z x1 x2 x3), y2⟩
    have grow : ∀ (sp1 rf1 : Nat → Nat → Int32), OFI so un sp1 rf1 S0 pl ru (fun x => Pr x ∨ ∃ b : Nat, j + 1 ≤ b ∧ b ≤ wh ∧ QB so un l right w pl wh b x) → (∀ x : List Nat, ¬ QB so un l right w pl wh j x) → OFI so un sp1 rf1 S0 pl ru (fun x => Pr x ∨ ∃ b : Nat, j ≤ b ∧ b ≤ wh ∧ QB so un l right w pl wh b x) := fun sp1 rf1 hO1 hnq => by
      obtain ⟨A, D, o1, o2, o3, o4, o5, o6⟩ := hO1
      refine ⟨A, D, o1, o2, o3, o4, o5, fun x => (o6 x).trans ⟨fun h => h.imp id (fun ⟨b, k1, k2⟩ => ⟨b, by omega, k2⟩), fun h => h.imp id (fun ⟨b, k1, k2, k3⟩ => ⟨b, ?_, k2, k3⟩)⟩⟩
      have : b ≠ j := fun eb => by rw [eb] at k3; exact hnq x k3
      omega
    rw [hsh]
    unfold bx_X7_list_84
    rw [if_neg (by rw [show (0 : Int32) = nI 0 from rfl, nI_lt_iff (by omega) (by decide)]; omega), t1, xb3_s]
    rcases t5 with ⟨g1, g2⟩ | ⟨y, g1, g2, g3⟩
    · rw [if_pos (by rw [g1]; decide)]
      obtain ⟨v3, z1, z2⟩ := next sp rf u v1 w1 E t2.1 (t4.trans hst) (fun _ _ _ _ => rfl) (grow sp rf hO (fun x hq => by
        obtain ⟨tg, sg, q1, _⟩ := hq
        exact g2 tg q1)) (fun tg ht => absurd ht (g2 tg))
      rw [z1, xb1_s, xl_eq, ez]
      exact z2
    · have nl := t2.1.1
      have ho9 := (tl.1.1.2.2 _ (hd0_mem tl.1.1.1) h5l).1
      rw [g2, if_neg (by rw [show (0 : Int32) = nI 0 from rfl, nI_lt_iff (by omega) (by decide)]; omega), xr_n hru (by decide), h4]
      have cE := nth_pre (B := E) hc
      generalize htg : nth (N ++ E) y = tg at *
      have ttg : tok so un ma nv tg := by rw [← htg]; exact t2.2 _ (nth_mem g1)
      obtain ⟨dm, MM, mv1, mv2⟩ := hmv l tg tl ttg
      have rc : RCX n ga las so ma un no nv nmL (fun z => z ∈ ALL so un tg) hd (N ++ E) c y l tg pv := ⟨hn5, he, fun t ht q hq => ALL_pts he.2.1 ttg ht q hq, fun t op b _ ht _ h2 hu => ALL_SS he.2.1 ttg ht h2 hu, hhd, fun F f1 f2 => by have := ALL_room he.2.1 hs2 ttg f1 f2; omega, ⟨cE.1, by rw [cE.2]; exact hc2⟩, ⟨g1, htg⟩, hp⟩
      obtain ⟨r, u2, v2, w2, E2, d1, d2, d3, d4, d5⟩ := fx_run_c (u := u) rc t2 (t4.trans hst) (ALL_self (so := so) (ma := ma) (un := un) (nv := nv)) mv1 (by omega) mv2
      rw [d1, xb4_s]
      have uniq : ∀ tg' : List Nat, TGR so un l (sbt w pl) j tg' → tg' = tg := fun tg' h' => by
        rcases h' with ⟨a1, a2, a3, a4⟩ | ⟨a1, a2, a3⟩ | ⟨a1, a2, a3, a4, a5⟩ <;> rcases g3 with ⟨b1, b2, b3, b4⟩ | ⟨b1, b2, b3⟩ | ⟨b1, b2, b3, b4, b5⟩
        · rw [a4, b4]
        · rw [a4, b3]
        · rw [a1] at b1; exact nomatch b1
        · rw [a3, b4]
        · rw [a3, b3]
        · exact absurd b2 a2
        · rw [a1] at b1; exact nomatch b1
        · exact absurd a2 b2
        · rw [a5, b5]
      rcases d5 with ⟨f1, Fs, f2, f3, f4⟩ | ⟨f1, f2⟩
      · rw [f1, if_neg (by decide)]
        have El2 : (N ++ E ++ E2).length ≤ N.length + 261 := by
          have := ALL_room he.2.1 hs2 ttg d2.1.2.2.1 d4
          omega
        have ext : ∀ {i : Nat}, i < N.length → i < (N ++ E ++ E2).length ∧ nth (N ++ E ++ E2) i = nth N i := fun {i} hi => by
          rw [List.append_assoc]; exact nth_pre hi
        have notm := TMm_not hp f2.2.1 f4
        -- the others
        obtain ⟨oth, hoth, hof, ho64, hobb, hok⟩ : ∃ oth : Nat, fx_X7_offerAll n sp rf u2 v2 w2 ga (nI pl) (nI ru) (nI j) = lx_X7_offerAll_37 n u2 ga (nI pl) (nI ru) (nI j) n (nI oth) (nI 0) sp rf v2 w2 ∧ oth = wh - j ∧ oth < 64 ∧ (∀ z : Nat, (pts (sbt w pl)).length ≤ z → oth.testBit z = false) ∧ (oth ≠ 0 → kd so (sbt w pl) = 2) := by
          have wo := fx_wholeOf_c (n := n) (i := pl) (r := ru) (a := a) (c := c) (bits := bits) (sp := sp) he d2 (by omega) hru hb9 h0 (ext ha).1 h6 (fun _ => ⟨(ext hc).1, h4, by rw [(ext hc).2, hc2]; exact h5l⟩)
          rw [(ext hc).2, (ext ha).2, hc2, ha2] at wo
          rcases wo with ⟨z, _⟩ | ⟨_, z, z2⟩ | ⟨_, z, z2⟩
          · rw [hbr] at z; exact nomatch z
          · rcases hwh with ⟨_, ew⟩ | ⟨y9, _⟩
            · have ob := oth_bits s6 (show j < 2 ^ (pts (sbt w pl)).length by omega)
              refine ⟨2 ^ (pts (sbt w pl)).length - 1 - j, fx_offerAll_e (by omega) hru z2 ob.1, by rw [ew], ob.2.1, ob.2.2.1, fun _ => ?_⟩
              have ih := (isop_hd ts.1.1.1).mp z.2
              have k2 := z.1
              have := (sum_ar tl k2).2.1
              unfold kd
              rw [if_neg (by omega), ih.2]; exact this
            · exact absurd z y9
          · rcases hwh with ⟨y9, _⟩ | ⟨_, ew⟩
            · exact absurd y9 z
            · have j0 : j = 0 := by omega
              refine ⟨0, fx_offerAll_e (by omega) hru z2 (by rw [j0]; decide), by omega, by decide, fun z _ => Nat.zero_testBit z, fun h => absurd rfl h⟩
        rw [hoth]
        have off := lx_off_c (n := n) (e := e) (oth := oth) (P2 := nI j) (Pr := fun x => Pr x ∨ ∃ b : Nat, j + 1 ≤ b ∧ b ≤ wh ∧ QB so un l right w pl wh b x) (right := right) hn5 he hhd (by omega) hw f2 hK hpl hru (ext ha).1 ((ext ha).2.trans ha2) (ext hro).1 ((ext hro).2.trans hro2) (ext hee).1 ((ext hee).2.trans he2) (fun z hz h5z => (hp z (by rcases tr.1.1.2.1 z hz with q | q <;> omega)).mpr (hvs z hz h5z)) ho64 hobb hok Fs.length 0 n sp rf v2 w2 (by omega) (by have := f2.2.1; omega) d2 d3 (by rw [List.append_assoc]; exact PND_ext hP) h6 h60 h5 h3 (by
          obtain ⟨A, D, o1, o2, o3, o4, o5, o6⟩ := hO
          exact ⟨A, D, o1, o2, o3, o4, o5, fun x => (o6 x).trans ⟨fun h => Or.inl h, fun h => h.elim id (fun ⟨k', k1, _⟩ => absurd k1 (Nat.not_lt_zero _))⟩⟩)
        have qj : ∀ x : List Nat, (∃ k' : Nat, k' < Fs.length ∧ x = Xo so un right w pl oth (fnt Fs k') ∧ good so w x) ↔ QB so un l right w pl wh j x := fun x => by
          constructor
          · rintro ⟨k', k1, k2, k3⟩
            exact ⟨tg, fnt Fs k', g3, f3 _ (fnt_in k1), by rw [← hof]; exact k2, k3⟩
          · rintro ⟨tg', sg, q1, q2, q3, q4⟩
            have et := uniq tg' q1
            rw [et] at q2
            obtain ⟨f, x1, x2⟩ := f4 sg q2
            obtain ⟨i, i1, i2⟩ := List.mem_iff_getElem.mp x1
            have ei : fnt Fs i = f := by
              unfold fnt
              rw [List.getD_eq_getElem?_getD, List.getElem?_eq_getElem i1, ← i2]; rfl
            refine ⟨i, i1, ?_, q4⟩
            rw [q3, ← hof, ei]
            exact (Xo_key tl tr hp hvs (f3 f x1) q2 x2).symm
        have qq : ∀ x : List Nat, ((Pr x ∨ ∃ b : Nat, j + 1 ≤ b ∧ b ≤ wh ∧ QB so un l right w pl wh b x) ∨ ∃ k' : Nat, k' < Fs.length ∧ x = Xo so un right w pl oth (fnt Fs k') ∧ good so w x) ↔ (Pr x ∨ ∃ b : Nat, j ≤ b ∧ b ≤ wh ∧ QB so un l right w pl wh b x) := fun x => by
          rw [qj]
          constructor
          · rintro ((h | ⟨b, b1, b2⟩) | h)
            · exact Or.inl h
            · exact Or.inr ⟨b, by omega, b2⟩
            · exact Or.inr ⟨j, Nat.le_refl _, by omega, h⟩
          · rintro (h | ⟨b, b1, b2, b3⟩)
            · exact Or.inl (Or.inl h)
            · by_cases eb : b = j
              · rw [eb] at b3; exact Or.inr b3
              · exact Or.inl (Or.inr ⟨b, by omega, b2, b3⟩)
        obtain ⟨r9, sp1, rf1, v4, w4, x1, x2, x3⟩ := off
        rw [x1, xb5_s]
        rcases x3 with ⟨y1, y2, y3, y4⟩ | ⟨y1, y2, y3⟩
        · rw [y1, if_neg (by decide)]
          have Tn : TB v4 w4 las (N ++ (E ++ E2)) := by rw [← List.append_assoc]; exact y2.1
          obtain ⟨v3, z1, z2⟩ := next sp1 rf1 u2 v4 w4 (E ++ E2) Tn y3 x2 (by
            obtain ⟨A, D, o1, o2, o3, o4, o5, o6⟩ := y4
            exact ⟨A, D, o1, o2, o3, o4, o5, fun x => (o6 x).trans (qq x)⟩) (fun tg' ht => by rw [uniq tg' ht]; exact notm)
          rw [z1, xb1_s, xl_eq, ez]
          exact z2
        · rw [y1, if_pos rfl]
          refine ⟨sp1, rf1, u2, v4, w4, x2, Or.inr ⟨rfl, y2, Or.inr ?_⟩⟩
          obtain ⟨L, l1, l2, l3⟩ := y3
          exact ⟨L, l1, l2, fun x hx => ((qq x).mp (l3 x hx)).imp id (fun ⟨b, _, k2⟩ => ⟨b, k2⟩)⟩
      · rw [f1, if_pos rfl]
        exact ⟨sp, rf, u2, v2, w2, fun _ _ _ _ => rfl, Or.inr ⟨rfl, ⟨_, d2.1⟩, Or.inl ⟨j, tg, by omega, g3, TMm_of hp f2⟩⟩⟩
