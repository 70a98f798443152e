/-! ===== the stepper: all that was found is offered ===== -/
def Bo (so : Nat → Nat) (un : Nat → Option Nat) (right s : List Nat) (oth : Nat) (sg : Sbs) : List Nat := if oth = 0 then fil so un sg right else stand so un (opn s) (fil so un sg right :: sl oth (pts s))
def Xo (so : Nat → Nat) (un : Nat → Option Nat) (right w : List Nat) (pl oth : Nat) (sg : Sbs) : List Nat := reb so un pl (Bo so un right (sbt w pl) oth sg) w
/-- the steps so far, of one place and rule -/
def OFI (so : Nat → Nat) (un : Nat → Option Nat) (sp rf : Nat → Nat → Int32) (S0 : List StpE) (pl ru : Nat) (Q : List Nat → Prop) : Prop :=
  ∃ (A D : List (List Nat)), RWS 201 rf A ∧ A.length ≤ 200 ∧ STT sp A (S0 ++ grpS pl ru D) ∧ D.Pairwise klt ∧ (∀ r ∈ D, wf 1 r) ∧ ∀ x : List Nat, x ∈ D ↔ Q x
def OVR (S0 : List StpE) (Q : List Nat → Prop) : Prop := ∃ L : List (List Nat), L.Nodup ∧ 200 < S0.length + L.length ∧ ∀ x ∈ L, Q x
abbrev OFR := Option (Int32 × (Nat → Nat → Int32) × (Nat → Nat → Int32) × (Nat → Nat → Int32) × (Nat → Nat → Int64))
/-- what offering gives -/
def OFO (las : Nat → Bool) (so ma : Nat → Nat) (un : Nat → Option Nat) (nv hd : Nat) (N : List (List Nat)) (sp : Nat → Nat → Int32) (S0 : List StpE) (pl ru : Nat) (Q : List Nat → Prop) (o : OFR) : Prop :=
  ∃ (r : Int32) (sp' rf' v' : Nat → Nat → Int32) (w' : Nat → Nat → Int64), o = some (r, sp', rf', v', w') ∧ (∀ a : Nat, a ≠ 1 → a ≠ 2 → a ≠ 3 → sp' a = sp a) ∧
    ((r = 1 ∧ TBK v' w' las so ma un nv N ∧ v' 0 1 = nI hd ∧ OFI so un sp' rf' S0 pl ru Q) ∨ (r = 0 ∧ (∃ N' : List (List Nat), TB v' w' las N') ∧ OVR S0 Q))
theorem fx_baseOf_c {n k s : Nat} {u : Nat → Nat → Int32} {N : List (List Nat)} {pv : Int32} {Fs : List Sbs} (hF : FND u N pv Fs) (hk : k < Fs.length) (hs : s < Fs.length) (h13 : u 13 k = nI s) : fx_X0_baseOf n u (nI k) = some (nI (5 * s)) := by
  have f1 := hF.1
  have f2 := hF.2.1
  unfold fx_X0_baseOf
  rw [f1, if_neg (by rw [show (0 : Int32) = nI 0 from rfl, nI_lt_iff (by omega) (by decide)]; omega), if_neg (by rw [nI_le_iff (by omega) (by omega)]; omega), if_neg (by rw [show (300 : Int32) = nI 300 from rfl, nI_lt_iff (by decide) (by omega)]; omega), xr_n (by omega) (by decide), h13, xl_eq, show (5 : Int32) = nI 5 from rfl, nI_mul (by omega) (by omega) (by decide), show s * 5 = 5 * s by omega]
theorem lx_off_c {n K no nv hd a e ro pl ru oth : Nat} {ga u : Nat → Nat → Int32} {las : Nat → Bool} {so ma : Nat → Nat} {un : Nat → Option Nat} {nmL : Nat → List Nat} {N : List (List Nat)} {w right : List Nat} {pv P2 : Int32} {Fs : List Sbs} {S0 : List StpE} {Pr : List Nat → Prop} (hn : 100000 ≤ n) (he : ENV ga las so ma un no nv nmL) (hhd : hd ≤ 80) (hN : N.length + 50 ≤ 1024) (hw : tok so un ma nv w) (hF : FND u N pv Fs) (hK : K ≤ 20) (hpl : pl < K) (hru : ru < 8) (ha : a < N.length) (ha2 : nth N a = sbt w pl) (hro : ro < N.length) (hro2 : nth N ro = w) (hee : e < N.length) (he2 : nth N e = right) (hvs : ∀ c ∈ right, c < 512 → hb pv c = true) (h64 : oth < 64) (hob : ∀ z : Nat, (pts (sbt w pl)).length ≤ z → oth.testBit z = false) (hok : oth ≠ 0 → kd so (sbt w pl) = 2) :
    ∀ (d k m : Nat) (sp rf v : Nat → Nat → Int32) (w8 : Nat → Nat → Int64), k + d = Fs.length → d < m → TBK v w8 las so ma un nv N → v 0 1 = nI hd → PND sp N w K → sp 6 pl = nI a → sp 6 0 = nI ro → sp 5 ru = nI e → sp 0 3 = nI S0.length → OFI so un sp rf S0 pl ru (fun x => Pr x ∨ ∃ k' : Nat, k' < k ∧ x = Xo so un right w pl oth (fnt Fs k') ∧ good so w x) →
      OFO las so ma un nv hd N sp S0 pl ru (fun x => Pr x ∨ ∃ k' : Nat, k' < Fs.length ∧ x = Xo so un right w pl oth (fnt Fs k') ∧ good so w x) (lx_X7_offerAll_37 n u ga (nI pl) (nI ru) P2 m (nI oth) (nI k) sp rf v w8)
  | 0, k, m + 1, sp, rf, v, w8, hk, _, hT, hst, _, _, _, _, _, hO => by
    have ek : k = Fs.length := by omega
    subst ek
    refine ⟨1, sp, rf, v, w8, ?_, fun _ _ _ _ => rfl, Or.inl ⟨rfl, hT, hst, hO⟩⟩
    show bx_X7_offerAll_37 n u ga (nI pl) (nI ru) P2 (lx_X7_offerAll_37 n u ga (nI pl) (nI ru) P2 m) (nI oth) (nI Fs.length) sp rf v w8 = _
    unfold bx_X7_offerAll_37
    rw [hF.1, if_pos (Int32.le_refl _)]
  | d + 1, k, m + 1, sp, rf, v, w8, hk, hm, hT, hst, hP, h6, h60, h5, h3, hO => by
    have hsh : lx_X7_offerAll_37 n u ga (nI pl) (nI ru) P2 (m + 1) (nI oth) (nI k) sp rf v w8 = bx_X7_offerAll_37 n u ga (nI pl) (nI ru) P2 (lx_X7_offerAll_37 n u ga (nI pl) (nI ru) P2 m) (nI oth) (nI k) sp rf v w8 := rfl
    have f2 := hF.2.1
    have hkl : k < Fs.length := by omega
    have hsu := SV_SU he.2.1
    obtain ⟨s, s1, s2, s3⟩ := hF.2.2.2 k hkl
    have tkr : tok so un ma nv right := by rw [← he2]; exact hT.2 _ (nth_mem hee)
    have r20 := tok_len tkr
    have bnc : BNC N (u 12) 1505 (5 * s) (fnt Fs k) (nth N e) := fun c hc h5c => by
      rw [he2] at hc
      have c5 : c < 5 := by rcases tkr.1.1.2.1 c hc with z | z <;> omega
      refine ⟨by omega, Or.inr ?_⟩
      rcases s3 c c5 with ⟨_, y, y1, y2, y3⟩ | ⟨z, _⟩
      · exact ⟨y, y1, y3, y2⟩
      · rw [hvs c hc h5c] at z; exact nomatch z
    obtain ⟨r1, v1, w1, E1, p1, p2, p3, p4, p5, p6⟩ := fx_put8_c (sg := fnt Fs k) (b := 5 * s) (fb := u 12) (bn := 1505) (n := n) hn he (by decide) 23 e 0 hd N v w8 hee (by rw [he2]; omega) (by rw [he2]; omega) hst (by rw [he2]; omega) (by rw [he2]; omega) hT bnc
    obtain ⟨hv1, hv2⟩ := tok_von (sg := fnt Fs k) he.2.1.1 hT.2 (by rw [he2]; exact tkr.2.2) bnc
    rw [he2] at p3 p4 hv1 hv2
    obtain ⟨b1, b3⟩ := fil_nok2 hsu tkr.1.1 r20 hv1
    have b2 : sS so ma nv (fil so un (fnt Fs k) right) := filT_S he.2.1 21 right tkr.1.1 (by omega) (by omega) (von_vok hv1) tkr.2.2 hv2
    have e0 : (0 : Int32) = nI 0 := rfl
    -- what stands when the whole term is to be rebuilt
    have mid : ∀ (r2 : Int32) (v2 : Nat → Nat → Int32) (w2 : Nat → Nat → Int64) (E : List (List Nat)), TBK v2 w2 las so ma un nv (N ++ E) → E.length ≤ 21 → v2 0 1 = nI hd → VAL (N ++ E) so r2 (Bo so un right (sbt w pl) oth (fnt Fs k)) → nok so un (Bo so un right (sbt w pl) oth (fnt Fs k)) → sS so ma nv (Bo so un right (sbt w pl) oth (fnt Fs k)) → (Bo so un right (sbt w pl) oth (fnt Fs k)).length ≤ 450 →
        OFO las so ma un nv hd N sp S0 pl ru (fun x => Pr x ∨ ∃ k' : Nat, k' < Fs.length ∧ x = Xo so un right w pl oth (fnt Fs k') ∧ good so w x) (jx_X7_offerAll_111 n u ga (nI pl) (nI ru) P2 (lx_X7_offerAll_37 n u ga (nI pl) (nI ru) P2 m) (nI oth) (nI k) (nI N.length) r2 sp rf v2 w2) := fun r2 v2 w2 E t1 t2 t3 t4 t5 t6 t7 => by
      have El : (N ++ E).length = N.length + E.length := List.length_append
      obtain ⟨r', v3, w3, E3, d1, d2, d3, d4, d5, d6⟩ := fx_rebuild_c (n := n) hn he hw hK hpl (PND_ext hP) t1 (by omega) t4 t5 t6 t7
      have d3 : VAL (N ++ E ++ E3) so r' (Xo so un right w pl oth (fnt Fs k)) := d3
      have st3 : v3 0 1 = nI hd := d5.trans t3
      unfold jx_X7_offerAll_111
      rw [d1, xb3_s]
      -- back to the mark, on
      have back : ∀ (sp1 rf1 v4 : Nat → Nat → Int32), TB v4 w3 las (N ++ E ++ E3) → v4 0 1 = nI hd → (∀ a : Nat, a ≠ 1 → a ≠ 2 → a ≠ 3 → sp1 a = sp a) → OFI so un sp1 rf1 S0 pl ru (fun x => Pr x ∨ ∃ k' : Nat, k' < k + 1 ∧ x = Xo so un right w pl oth (fnt Fs k') ∧ good so w x) →
          ∃ v5 : Nat → Nat → Int32, fx_X8_giveBack n v4 (nI N.length) = some v5 ∧ OFO las so ma un nv hd N sp S0 pl ru (fun x => Pr x ∨ ∃ k' : Nat, k' < Fs.length ∧ x = Xo so un right w pl oth (fnt Fs k') ∧ good so w x) (lx_X7_offerAll_37 n u ga (nI pl) (nI ru) P2 m (nI oth) (nI (k + 1)) sp1 rf1 v5 w3) := fun sp1 rf1 v4 q1 q2 q3 q4 => by
        obtain ⟨v5, z1, z2, z3, z4⟩ := fx_giveBack_c (n := n) (f0 := N.length) hn q1 (by rw [List.length_append, List.length_append]; omega)
        rw [List.append_assoc, take_app] at z2
        refine ⟨v5, z1, ?_⟩
        have hP1 : PND sp1 N w K := fun z hz => by
          rw [q3 6 (by decide) (by decide) (by decide), q3 7 (by decide) (by decide) (by decide), q3 8 (by decide) (by decide) (by decide)]; exact hP z hz
        obtain ⟨r, sp', rf', v', w', y1, y2, y3⟩ := lx_off_c hn he hhd hN hw hF hK hpl hru ha ha2 hro hro2 hee he2 hvs h64 hob hok d (k + 1) m sp1 rf1 v5 w3 (by omega) (by omega) ⟨z2, hT.2⟩ (by rw [z4 1 (by decide)]; exact q2) hP1 (by rw [q3 6 (by decide) (by decide) (by decide)]; exact h6) (by rw [q3 6 (by decide) (by decide) (by decide)]; exact h60) (by rw [q3 5 (by decide) (by decide) (by decide)]; exact h5) (by rw [q3 0 (by decide) (by decide) (by decide)]; exact h3) q4
        exact ⟨r, sp', rf', v', w', y1, fun z z1 z2 z3 => (y2 z z1 z2 z3).trans (q3 z z1 z2 z3), y3⟩
      have same : ¬ good so w (Xo so un right w pl oth (fnt Fs k)) → OFI so un sp rf S0 pl ru (fun x => Pr x ∨ ∃ k' : Nat, k' < k + 1 ∧ x = Xo so un right w pl oth (fnt Fs k') ∧ good so w x) := fun ng => by
        obtain ⟨A, D, o1, o2, o3, o4, o5, o6⟩ := hO
        refine ⟨A, D, o1, o2, o3, o4, o5, fun x => (o6 x).trans ⟨fun h => h.imp id (fun ⟨k', k1, k2⟩ => ⟨k', by omega, k2⟩), fun h => h.imp id (fun ⟨k', k1, k2⟩ => ⟨k', ?_, k2⟩)⟩⟩
        have : k' ≠ k := fun ee => by rw [ee] at k2; rw [k2.1] at k2; exact ng k2.2
        omega
      rcases d3 with ⟨g1, g2⟩ | ⟨g1, i, i1, i2, i3⟩
      · rw [if_pos (by rw [g2]; decide)]
        obtain ⟨v5, z1, z2⟩ := back sp rf v3 d2.1 st3 (fun _ _ _ _ => rfl) (same (fun h => by rw [h.1] at g1; exact nomatch g1))
        rw [z1, xb1_s, xl_eq, nI_1]
        exact z2
      · have nl := d2.1.1
        have x60 : ∀ kk : Int32 → OFR, xr 20 (sp 6) 0 kk = kk (sp 6 0) := fun kk => xr_n (i := 0) (by decide) (by decide)
        rw [i3, if_neg (by rw [e0, nI_lt_iff (by omega) (by decide)]; omega), x60, h60]
        have hroE := nth_pre (B := E ++ E3) hro
        rw [← List.append_assoc] at hroE
        by_cases eq : i = ro
        · rw [if_pos (by rw [eq])]
          obtain ⟨v5, z1, z2⟩ := back sp rf v3 d2.1 st3 (fun _ _ _ _ => rfl) (same (fun h => h.2 (by rw [← i2, eq, hroE.2, hro2])))
          rw [z1, xb1_s, xl_eq, nI_1]
          exact z2
        · rw [if_neg (by rw [nI_inj (by omega) (by omega)]; exact eq)]
          have gd : good so w (Xo so un right w pl oth (fnt Fs k)) := ⟨g1, fun h => eq (nth_inj d2.1.2.2.1 i1 hroE.1 (by rw [i2, hroE.2, hro2, h]))⟩
          obtain ⟨A, D, o1, o2, o3, o4, o5, o6⟩ := hO
          obtain ⟨r9, sp1, rf1, v4, q1, q2, q3, q4, q5⟩ := fx_insert_c (n := n) (pl := pl) (ru := ru) (held := hd) hn (by omega) d2.1 st3 i1 o1 o2 o3 h3 o5 o4
          rw [q1, xb4_s]
          have T4 : TB v4 w3 las (N ++ E ++ E3) := TB_FRS d2.1 q2
          rw [i2] at q5
          have wX : wf 1 (Xo so un right w pl oth (fnt Fs k)) := by rw [← i2]; exact (TB_get d2.1 i1).1.1
          have newQ : ∀ D' : List (List Nat), (∀ x : List Nat, x ∈ D' ↔ x ∈ D ∨ x = Xo so un right w pl oth (fnt Fs k)) → ∀ x : List Nat, x ∈ D' ↔ (Pr x ∨ ∃ k' : Nat, k' < k + 1 ∧ x = Xo so un right w pl oth (fnt Fs k') ∧ good so w x) := fun D' hD' x => by
            rw [hD', o6]
            constructor
            · rintro ((h | ⟨k', k1, k2⟩) | h)
              · exact Or.inl h
              · exact Or.inr ⟨k', by omega, k2⟩
              · exact Or.inr ⟨k, by omega, h, by rw [h]; exact gd⟩
            · rintro (h | ⟨k', k1, k2, k3⟩)
              · exact Or.inl (Or.inl h)
              · by_cases ee : k' = k
                · rw [ee] at k2; exact Or.inr k2
                · exact Or.inl (Or.inr ⟨k', by omega, k2, k3⟩)
          rcases q5 with ⟨y1, y2, y3, y4⟩ | ⟨y1, D1, D2, y2, y3, y4, y5, y6⟩ | ⟨y1, y2, y3, y4⟩
          · rw [y1, if_neg (by decide)]
            obtain ⟨v5, z1, z2⟩ := back sp1 rf1 v4 T4 q3 q4 ⟨A, D, y3, o2, y4, o4, o5, newQ D (fun x => ⟨fun h => Or.inl h, fun h => h.elim id (fun z => by rw [z]; exact y2)⟩)⟩
            rw [z1, xb1_s, xl_eq, nI_1]
            exact z2
          · rw [y1, if_neg (by decide)]
            obtain ⟨v5, z1, z2⟩ := back sp1 rf1 v4 T4 q3 q4 ⟨A ++ [Xo so un right w pl oth (fnt Fs k)], D1 ++ Xo so un right w pl oth (fnt Fs k) :: D2, y5, by rw [List.length_append, List.length_singleton]; omega, y6, y3, fun z hz => by
                rcases List.mem_append.mp hz with g | g
                · exact o5 z (by rw [y2]; exact List.mem_append_left _ g)
                · rcases List.mem_cons.mp g with g | g
                  · rw [g]; exact wX
                  · exact o5 z (by rw [y2]; exact List.mem_append_right _ g), newQ _ (fun x => by
                rw [y2, List.mem_append, List.mem_append, List.mem_cons]
                constructor
                · rintro (h | h | h)
                  · exact Or.inl (Or.inl h)
                  · exact Or.inr h
                  · exact Or.inl (Or.inr h)
                · rintro ((h | h) | h)
                  · exact Or.inl h
                  · exact Or.inr (Or.inr h)
                  · exact Or.inr (Or.inl h))⟩
            rw [z1, xb1_s, xl_eq, nI_1]
            exact z2
          · rw [y1, if_pos rfl]
            refine ⟨0, sp1, rf1, v4, w3, rfl, q4, Or.inr ⟨rfl, ⟨_, T4⟩, Xo so un right w pl oth (fnt Fs k) :: D, List.nodup_cons.mpr ⟨y2, klt_nodup o4⟩, ?_, fun x hx => ?_⟩⟩
            · have sl := o3.1
              unfold grpS at sl
              rw [List.length_append, List.length_map] at sl
              rw [List.length_cons]; omega
            · rcases List.mem_cons.mp hx with h | h
              · exact Or.inr ⟨k, hkl, h, by rw [h]; exact gd⟩
              · exact ((o6 x).mp h).imp id (fun ⟨k', k1, k2⟩ => ⟨k', by omega, k2⟩)
    rw [hsh]
    unfold bx_X7_offerAll_37
    rw [hF.1, if_neg (by rw [nI_le_iff (by omega) (by omega)]; omega), xr_n hru (by decide), h5, fx_baseOf_c hF hkl s1 s2, xb1_s, e0, p1, xb3_s, ← e0, hT.1.2.1]
    by_cases o0 : oth = 0
    · rw [if_pos (by rw [o0]; decide)]
      refine mid r1 v1 w1 E1 p2 (by omega) p5 ?_ ?_ ?_ ?_
      · unfold Bo; rw [if_pos o0]; exact p3
      · unfold Bo; rw [if_pos o0]; exact b1
      · unfold Bo; rw [if_pos o0]; exact b2
      · unfold Bo; rw [if_pos o0]; omega
    · rw [if_neg (by rw [e0, nI_le_iff (by omega) (by decide)]; omega), xr_n (by omega) (by decide), h6]
      have haE := nth_pre (B := E1) ha
      obtain ⟨⟨r2, v2, w2, E2, t1, t2, t3, t4, t5, t6⟩, x1, x2, x3⟩ := fx_withOthers_c (n := n) (oth := oth) hn he p2 (by rw [List.length_append]; omega) haE.1 (haE.2.trans ha2) (hok o0) h64 hob p3 b1 b2 b3
      rw [t1, xb3_s]
      refine mid r2 v2 w2 (E1 ++ E2) (by rw [← List.append_assoc]; exact t2) (by rw [List.length_append]; omega) (t5.trans p5) ?_ ?_ ?_ ?_
      · unfold Bo; rw [if_neg o0, ← List.append_assoc]; exact t3
      · unfold Bo; rw [if_neg o0]; exact x1
      · unfold Bo; rw [if_neg o0]; exact x2
      · unfold Bo; rw [if_neg o0]; omega
