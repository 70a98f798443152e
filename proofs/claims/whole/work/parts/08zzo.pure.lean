/-! ===== the stepper: all rules at a place ===== -/
def rl (R : List (List Nat)) (r : Nat) : List Nat := nth R (2 * r)
def rr (R : List (List Nat)) (r : Nat) : List Nat := nth R (2 * r + 1)
/-- a step of a term, by the rules whose bits are set -/
def isB (so : Nat → Nat) (un : Nat → Option Nat) (R : List (List Nat)) (bits K : Nat) (w : List Nat) (s : StpE) : Prop := s.1 < K ∧ s.2.1 < 8 ∧ bits.testBit s.2.1 = true ∧ stG so un (rl R s.2.1) (rr R s.2.1) w s.1 s.2.2
/-- steps so far -/
def STS (so : Nat → Nat) (un : Nat → Option Nat) (R : List (List Nat)) (bits K : Nat) (w : List Nat) (sp rf : Nat → Nat → Int32) (pl ru : Nat) : Prop :=
  ∃ (A : List (List Nat)) (S : List StpE), RWS 201 rf A ∧ A.length ≤ 200 ∧ STT sp A S ∧ S.Pairwise slt ∧ ∀ s : StpE, s ∈ S ↔ isB so un R bits K w s ∧ befo pl ru s
/-- too much -/
def TMB (so : Nat → Nat) (un : Nat → Option Nat) (R : List (List Nat)) (bits K : Nat) (w : List Nat) : Prop := (∃ pl r : Nat, pl < K ∧ r < 8 ∧ bits.testBit r = true ∧ TMg so un (rl R r) w pl) ∨ ∃ L : List StpE, L.Nodup ∧ 200 < L.length ∧ ∀ s ∈ L, isB so un R bits K w s
/-- rules as they may be -/
def RLK (so ma : Nat → Nat) (un : Nat → Option Nat) (nv : Nat) (R : List (List Nat)) (bits : Nat) : Prop := ∀ r : Nat, r < 8 → bits.testBit r = true → tok so un ma nv (rl R r) ∧ tok so un ma nv (rr R r) ∧ 512 ≤ hd0 (rl R r) ∧ (∀ z ∈ rr R r, z < 512 → z ∈ rl R r) ∧ ∃ pv : Int32, pvs pv (rl R r)
theorem OFI_STS {so : Nat → Nat} {un : Nat → Option Nat} {R : List (List Nat)} {bits K pl ru : Nat} {w : List Nat} {sp rf : Nat → Nat → Int32} {S : List StpE} {Q : List Nat → Prop} (hpl : pl < K) (hru : ru < 8) (hb9 : bits.testBit ru = true) (hS : S.Pairwise slt) (hc : ∀ s : StpE, s ∈ S ↔ isB so un R bits K w s ∧ befo pl ru s) (hO : OFI so un sp rf S pl ru Q) (hQ : ∀ x : List Nat, Q x ↔ stG so un (rl R ru) (rr R ru) w pl x) : STS so un R bits K w sp rf pl (ru + 1) := by
  obtain ⟨A, D, o1, o2, o3, o4, o5, o6⟩ := hO
  refine ⟨A, S ++ grpS pl ru D, o1, o2, o3, List.pairwise_append.mpr ⟨hS, ?_, ?_⟩, fun s => ?_⟩
  · unfold grpS
    exact List.pairwise_map.mpr (o4.imp (fun {x y} h => Or.inr ⟨rfl, Or.inr ⟨rfl, h⟩⟩))
  · intro s hs t ht
    obtain ⟨x, _, x2⟩ := List.mem_map.mp ht
    rw [← x2]
    rcases ((hc s).mp hs).2 with h | ⟨h1, h2⟩
    · exact Or.inl h
    · exact Or.inr ⟨h1, Or.inl h2⟩
  · rw [List.mem_append, hc]
    constructor
    · rintro (⟨h1, h2⟩ | h)
      · refine ⟨h1, ?_⟩
        rcases h2 with h | ⟨h3, h4⟩
        · exact Or.inl h
        · exact Or.inr ⟨h3, by omega⟩
      · obtain ⟨x, x1, x2⟩ := List.mem_map.mp h
        rw [← x2]
        exact ⟨⟨hpl, hru, hb9, (hQ x).mp ((o6 x).mp x1)⟩, Or.inr ⟨rfl, Nat.lt_succ_self _⟩⟩
    · rintro ⟨h1, h2⟩
      by_cases e : s.1 = pl ∧ s.2.1 = ru
      · right
        obtain ⟨s1, s2, s3⟩ := s
        obtain ⟨e1, e2⟩ := e
        have e1 : s1 = pl := e1
        have e2 : s2 = ru := e2
        subst e1
        subst e2
        exact List.mem_map.mpr ⟨s3, (o6 s3).mpr ((hQ s3).mpr h1.2.2.2), rfl⟩
      · left
        refine ⟨h1, ?_⟩
        rcases h2 with h | ⟨h3, h4⟩
        · exact Or.inl h
        · exact Or.inr ⟨h3, by
            have : s.2.1 ≠ ru := fun e2 => e ⟨h3, e2⟩
            omega⟩
theorem lx_56_c {n no nv hd a ro pl bits K : Nat} {ga vr : Nat → Nat → Int32} {las : Nat → Bool} {so ma : Nat → Nat} {un : Nat → Option Nat} {nmL : Nat → List Nat} {N R : List (List Nat)} {w : List Nat} {P0 P1 : Int32} {rn : Nat} {k44 : Int32 → Int32 → (Nat → Nat → Int32) → (Nat → Nat → Int32) → (Nat → Nat → Int32) → (Nat → Nat → Int32) → (Nat → Nat → Int64) → LIR}
    (hn : 100000000 ≤ n) (he : ENV ga las so ma un no nv nmL) (hmv : MVA so ma un las nv) (hhd : hd ≤ 80) (hN : N.length ≤ 600) (hw : tok so un ma nv w) (hK : K ≤ 20) (hpl : pl < K) (hplw : pl < w.length) (ha : a < N.length) (ha2 : nth N a = sbt w pl) (hro : ro < N.length) (hro2 : nth N ro = w) (hb9 : bits < 256) (hR : RLK so ma un nv R bits) :
    ∀ (d r m : Nat) (sp rf u v : Nat → Nat → Int32) (w8 : Nat → Nat → Int64), r + d = 8 → d < m → TBK v w8 las so ma un nv N → v 0 1 = nI hd → PND sp N w K → sp 6 pl = nI a → sp 6 0 = nI ro → LRN sp N R bits 8 → sp 0 0 = nI bits → STS so un R bits K w sp rf pl r → (∀ p q : Nat, befo pl r (p, q, []) → p < K → q < 8 → bits.testBit q = true → ¬ TMg so un (rl R q) w p) →
      ∃ (sp' rf' u' v' : Nat → Nat → Int32) (w' : Nat → Nat → Int64), (∀ z : Nat, z ≠ 0 → z ≠ 1 → z ≠ 2 → z ≠ 3 → sp' z = sp z) ∧ (∀ z : Nat, z ≠ 3 → sp' 0 z = sp 0 z) ∧
        ((lx_X7_list_56 n ga rn vr P0 P1 k44 m (nI N.length) (nI pl) (nI r) sp rf u v w8 = k44 (nI N.length) (nI (pl + 1)) sp' rf' u' v' w' ∧ TBK v' w' las so ma un nv N ∧ v' 0 1 = nI hd ∧ STS so un R bits K w sp' rf' pl 8 ∧ ∀ p q : Nat, befo pl 8 (p, q, []) → p < K → q < 8 → bits.testBit q = true → ¬ TMg so un (rl R q) w p) ∨
         (lx_X7_list_56 n ga rn vr P0 P1 k44 m (nI N.length) (nI pl) (nI r) sp rf u v w8 = some (0, sp', rf', u', v', w') ∧ (∃ N' : List (List Nat), TB v' w' las N') ∧ TMB so un R bits K w))
  | 0, r, m + 1, sp, rf, u, v, w8, hr, _, hT, hst, _, _, _, _, _, hS, hno => by
    have er : r = 8 := by omega
    subst er
    refine ⟨sp, rf, u, v, w8, fun _ _ _ _ _ => rfl, fun _ _ => rfl, Or.inl ⟨?_, hT, hst, hS, hno⟩⟩
    show bx_X7_list_56 n ga rn vr P0 P1 k44 (lx_X7_list_56 n ga rn vr P0 P1 k44 m) (nI N.length) (nI pl) (nI 8) sp rf u v w8 = _
    unfold bx_X7_list_56
    rw [if_pos (by decide), xl_eq, nI_1]
  | d + 1, r, m + 1, sp, rf, u, v, w8, hr, hm, hT, hst, hP, h6, h60, hL, h0, hS, hno => by
    have hs2 := fun (o : Nat) (h : so o ≠ 3) => (ENV_op he h).2.2
    have hn5 : 100000 ≤ n := by omega
    have hsh : lx_X7_list_56 n ga rn vr P0 P1 k44 (m + 1) (nI N.length) (nI pl) (nI r) sp rf u v w8 = bx_X7_list_56 n ga rn vr P0 P1 k44 (lx_X7_list_56 n ga rn vr P0 P1 k44 m) (nI N.length) (nI pl) (nI r) sp rf u v w8 := rfl
    obtain ⟨A, S, b1, b2, b3, b4, b5⟩ := hS
    have sl := b3.1
    rw [hsh]
    unfold bx_X7_list_56
    rw [if_neg (by rw [show (8 : Int32) = nI 8 from rfl, nI_le_iff (by decide) (by omega)]; omega), xl_eq, b1.2.1]
    generalize hsp : mu sp 0 3 (nI A.length) = sp1
    have m1 : ∀ z : Nat, z ≠ 0 → sp1 z = sp z := fun z hz => by rw [← hsp, mu_ne hz]
    have m0 : ∀ z : Nat, z ≠ 3 → sp1 0 z = sp 0 z := fun z hz => by rw [← hsp, mu_eq, upd_ne hz]
    have m3 : sp1 0 3 = nI S.length := by rw [← hsp, mu_eq, upd_eq, sl]
    have b3' : STT sp1 A S := ⟨sl, fun k hk => by rw [m1 1 (by decide), m1 2 (by decide), m1 3 (by decide)]; exact b3.2 k hk⟩
    have P1' : PND sp1 N w K := fun z hz => by rw [m1 6 (by decide), m1 7 (by decide), m1 8 (by decide)]; exact hP z hz
    have L1 : LRN sp1 N R bits 8 := fun j hj hbj => by rw [m1 4 (by decide), m1 5 (by decide)]; exact hL j hj hbj
    have go : ∀ (sp2 rf2 u2 v2 : Nat → Nat → Int32) (w2 : Nat → Nat → Int64), (∀ z : Nat, z ≠ 1 → z ≠ 2 → z ≠ 3 → sp2 z = sp1 z) → TBK v2 w2 las so ma un nv N → v2 0 1 = nI hd → STS so un R bits K w sp2 rf2 pl (r + 1) → (bits.testBit r = true → ¬ TMg so un (rl R r) w pl) →
        ∃ (sp' rf' u' v' : Nat → Nat → Int32) (w' : Nat → Nat → Int64), (∀ z : Nat, z ≠ 0 → z ≠ 1 → z ≠ 2 → z ≠ 3 → sp' z = sp z) ∧ (∀ z : Nat, z ≠ 3 → sp' 0 z = sp 0 z) ∧
        ((lx_X7_list_56 n ga rn vr P0 P1 k44 m (nI N.length) (nI pl) (nI (r + 1)) sp2 rf2 u2 v2 w2 = k44 (nI N.length) (nI (pl + 1)) sp' rf' u' v' w' ∧ TBK v' w' las so ma un nv N ∧ v' 0 1 = nI hd ∧ STS so un R bits K w sp' rf' pl 8 ∧ ∀ p q : Nat, befo pl 8 (p, q, []) → p < K → q < 8 → bits.testBit q = true → ¬ TMg so un (rl R q) w p) ∨
         (lx_X7_list_56 n ga rn vr P0 P1 k44 m (nI N.length) (nI pl) (nI (r + 1)) sp2 rf2 u2 v2 w2 = some (0, sp', rf', u', v', w') ∧ (∃ N' : List (List Nat), TB v' w' las N') ∧ TMB so un R bits K w)) := fun sp2 rf2 u2 v2 w2 e1 e2 e3 e4 e5 => by
      obtain ⟨sp', rf', u', v', w', y1, y2, y3⟩ := lx_56_c (P0 := P0) (P1 := P1) (rn := rn) (vr := vr) (k44 := k44) hn he hmv hhd hN hw hK hpl hplw ha ha2 hro hro2 hb9 hR d (r + 1) m sp2 rf2 u2 v2 w2 (by omega) (by omega) e2 e3 (fun z hz => by rw [e1 6 (by decide) (by decide) (by decide), e1 7 (by decide) (by decide) (by decide), e1 8 (by decide) (by decide) (by decide)]; exact P1' z hz) (by rw [e1 6 (by decide) (by decide) (by decide), m1 6 (by decide)]; exact h6) (by rw [e1 6 (by decide) (by decide) (by decide), m1 6 (by decide)]; exact h60) (fun j hj hbj => by rw [e1 4 (by decide) (by decide) (by decide), e1 5 (by decide) (by decide) (by decide)]; exact L1 j hj hbj) (by rw [e1 0 (by decide) (by decide) (by decide), m0 0 (by decide)]; exact h0) e4 (fun p q hbf hp9 hq hbq => by
        by_cases e : p = pl ∧ q = r
        · rw [e.1, e.2]; rw [e.2] at hbq; exact e5 hbq
        · refine hno p q ?_ hp9 hq hbq
          rcases hbf with h | ⟨h3, h4⟩
          · exact Or.inl h
          · have h3 : p = pl := h3
            have h4 : q < r + 1 := h4
            exact Or.inr ⟨h3, by
              have : q ≠ r := fun e2 => e ⟨h3, e2⟩
              show q < r
              omega⟩)
      exact ⟨sp', rf', u', v', w', fun z z0 z1 z2 z3 => ((y1 z z0 z1 z2 z3).trans (e1 z z1 z2 z3)).trans (m1 z z0), fun z hz => ((y2 z hz).trans (by rw [e1 0 (by decide) (by decide) (by decide)])).trans (m0 z hz), y3⟩
    by_cases q : bits.testBit r = true
    · obtain ⟨r1, r2, r3, r4, pv, r5⟩ := hR r (by omega) q
      obtain ⟨⟨c, c1, c2, c3⟩, ⟨e, e1, e2, e3⟩⟩ := L1 r (by omega) q
      have c2 : nth N c = rl R r := c2
      have e2 : nth N e = rr R r := e2
      have ho9 := (r1.1.1.2.2 _ (hd0_mem r1.1.1.1) r3).1
      obtain ⟨p1, p2, p3⟩ := ENV_op he (op := opn (rl R r)) ho9
      have wo := fx_wholeOf_c (n := n) (i := pl) (r := r) (a := a) (c := c) (bits := bits) (sp := sp1) he hT (by omega) (by omega) hb9 (by rw [m0 0 (by decide)]; exact h0) ha (by rw [m1 6 (by decide)]; exact h6) (fun _ => ⟨c1, c3, by rw [c2]; exact r3⟩)
      rw [c2, ha2] at wo
      obtain ⟨wh, w1, w2⟩ : ∃ wh : Nat, fx_X7_wholeOf n sp1 v ga (nI pl) (nI r) = some (nI wh) ∧ whF so (rl R r) (sbt w pl) wh := by
        rcases wo with ⟨z, _⟩ | ⟨_, z, z2⟩ | ⟨_, z, z2⟩
        · rw [q] at z; exact nomatch z
        · exact ⟨_, z2, Or.inl ⟨z, rfl⟩⟩
        · exact ⟨_, z2, Or.inr ⟨z, rfl⟩⟩
      have wh64 : wh < 64 := by
        have ts := (sbt_tokl hw hplw).1
        have s6 : (pts (sbt w pl)).length ≤ 6 := by
          rw [pts_len ts.1.1.1]
          exact (tok_ar he.2.1 hs2 ts _ (hd0_mem ts.1.1.1)).1
        have p6 := pow64 s6
        have p2m : 0 < 2 ^ (pts (sbt w pl)).length := Nat.pow_pos (by decide)
        rcases w2 with ⟨_, z⟩ | ⟨_, z⟩ <;> omega
      have qi : ∀ x : List Nat, (False ∨ ∃ b : Nat, b ≤ wh ∧ QB so un (rl R r) (rr R r) w pl wh b x) ↔ stG so un (rl R r) (rr R r) w pl x := fun x => by
        rw [← QB_iff he.2.1 hs2 r1 hw hplw r3 ⟨p2, ho9⟩ w2]
        exact ⟨fun h => h.elim False.elim id, fun h => Or.inr h⟩
      have tg := TMg_iff (wh := wh) he.2.1 hs2 r1 hw hplw r3 ⟨p2, ho9⟩ w2
      obtain ⟨sp2, rf2, u2, v2, w3, y1, y2⟩ := lx_84_c (n := n) (rn := rn) (vr := vr) (P0 := P0) (P1 := P1) (k44 := k44) (k56 := lx_X7_list_56 n ga rn vr P0 P1 k44 m) (S0 := S) (Pr := fun _ => False) hn he hmv hhd hN hw hK hpl hplw (show r < 8 by omega) ha ha2 hro hro2 c1 c2 e1 e2 hb9 q r3 r5 r4 w2 (wh + 1) n sp1 rf u v w8 (Nat.le_refl _) (by omega) hT hst P1' (by rw [m1 6 (by decide)]; exact h6) (by rw [m1 6 (by decide)]; exact h60) c3 e3 (by rw [m0 0 (by decide)]; exact h0) m3 ⟨A, [], b1, b2, by show STT sp1 A (S ++ []); rw [List.append_nil]; exact b3', List.Pairwise.nil, fun x hx => absurd hx List.not_mem_nil, fun x => ⟨fun h => absurd h List.not_mem_nil, fun h => h.elim False.elim (fun ⟨b, k1, k2, _⟩ => absurd k1 (by omega))⟩⟩ (fun b k1 k2 => absurd k1 (by omega))
      rw [w1, xb1_s]
      have ewh : nI (wh + 1) - (1 : Int32) = nI wh := by rw [i1, nI_sub (by omega)]; rfl
      rw [ewh] at y2
      rcases y2 with ⟨g1, g2, g3, g4, g5⟩ | ⟨g1, g2, g3⟩
      · rw [g1]
        exact go sp2 rf2 u2 v2 w3 y1 g2 g3 (OFI_STS hpl (by omega) q b4 b5 g4 qi) (fun _ ht => by
          obtain ⟨b, t, k1, k2, k3⟩ := tg.mpr ht
          exact g5 b k1 t k2 k3)
      · rw [g1]
        refine ⟨sp2, rf2, u2, v2, w3, fun z z0 z1 z2 z3 => (y1 z z1 z2 z3).trans (m1 z z0), fun z hz => by rw [y1 0 (by decide) (by decide) (by decide)]; exact m0 z hz, Or.inr ⟨rfl, g2, ?_⟩⟩
        rcases g3 with h | ⟨L, l1, l2, l3⟩
        · exact Or.inl ⟨pl, r, hpl, by omega, q, tg.mp h⟩
        · refine Or.inr ⟨S ++ grpS pl r L, List.nodup_append.mpr ⟨slt_nodup b4, grpS_nodup l1, fun x hx y hy e => ?_⟩, by rw [List.length_append]; unfold grpS; rw [List.length_map]; exact l2, fun s hs => ?_⟩
          · obtain ⟨z, _, z2⟩ := List.mem_map.mp hy
            have h := ((b5 x).mp hx).2
            rw [e, ← z2] at h
            rcases h with h | ⟨_, h⟩
            · exact absurd h (Nat.lt_irrefl _)
            · exact absurd h (Nat.lt_irrefl _)
          · rcases List.mem_append.mp hs with h | h
            · exact ((b5 s).mp h).1
            · obtain ⟨z, z1, z2⟩ := List.mem_map.mp h
              rw [← z2]
              exact ⟨hpl, by show r < 8; omega, q, (qi z).mp (l3 z z1)⟩
    · have qf : bits.testBit r = false := by simpa using q
      have wo := fx_wholeOf_c (n := n) (i := pl) (r := r) (a := a) (c := 0) (bits := bits) (sp := sp1) he hT (by omega) (by omega) hb9 (by rw [m0 0 (by decide)]; exact h0) ha (by rw [m1 6 (by decide)]; exact h6) (fun h => absurd h q)
      have w1 : fx_X7_wholeOf n sp1 v ga (nI pl) (nI r) = some (-1) := by
        rcases wo with ⟨_, z⟩ | ⟨z, _⟩ | ⟨z, _⟩
        · exact z
        · exact absurd z q
        · exact absurd z q
      rw [w1, xb1_s]
      obtain ⟨n', rfl⟩ : ∃ n' : Nat, n = n' + 1 := ⟨n - 1, by omega⟩
      have e84 : lx_X7_list_84 (n' + 1) ga rn vr P0 P1 k44 (lx_X7_list_56 (n' + 1) ga rn vr P0 P1 k44 m) (n' + 1) (nI N.length) (nI pl) (nI r) (-1) sp1 rf u v w8 = lx_X7_list_56 (n' + 1) ga rn vr P0 P1 k44 m (nI N.length) (nI pl) (nI (r + 1)) sp1 rf u v w8 := by
        show bx_X7_list_84 (n' + 1) ga rn vr P0 P1 k44 (lx_X7_list_56 (n' + 1) ga rn vr P0 P1 k44 m) _ (nI N.length) (nI pl) (nI r) (-1) sp1 rf u v w8 = _
        unfold bx_X7_list_84
        rw [if_pos (by decide), xl_eq, nI_1]
      rw [e84]
      refine go sp1 rf u v w8 (fun _ _ _ _ => rfl) hT hst ⟨A, S, b1, b2, b3', b4, fun s => (b5 s).trans ⟨fun h => ⟨h.1, ?_⟩, fun h => ⟨h.1, ?_⟩⟩⟩ (fun h => absurd h q)
      · rcases h.2 with h | ⟨h3, h4⟩
        · exact Or.inl h
        · exact Or.inr ⟨h3, by omega⟩
      · rcases h.2 with h2 | ⟨h3, h4⟩
        · exact Or.inl h2
        · refine Or.inr ⟨h3, ?_⟩
          have : s.2.1 ≠ r := fun e => by
            have := h.1.2.2.1
            rw [e, qf] at this; exact nomatch this
          omega
