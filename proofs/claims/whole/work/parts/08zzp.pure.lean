/-! ===== the stepper: list ===== -/
theorem STS_next {so : Nat → Nat} {un : Nat → Option Nat} {R : List (List Nat)} {bits K pl : Nat} {w : List Nat} {sp rf : Nat → Nat → Int32} (h : STS so un R bits K w sp rf pl 8) : STS so un R bits K w sp rf (pl + 1) 0 := by
  obtain ⟨A, S, b1, b2, b3, b4, b5⟩ := h
  refine ⟨A, S, b1, b2, b3, b4, fun s => (b5 s).trans ⟨fun h => ⟨h.1, Or.inl ?_⟩, fun h => ⟨h.1, ?_⟩⟩⟩
  · rcases h.2 with z | ⟨z, _⟩ <;> omega
  · have := h.1.2.1
    rcases h.2 with z | ⟨_, z⟩
    · by_cases e : s.1 = pl
      · exact Or.inr ⟨e, this⟩
      · exact Or.inl (by omega)
    · omega
theorem lx_44_c {n no nv hd ro bits K : Nat} {ga vr : Nat → Nat → Int32} {las : Nat → Bool} {so ma : Nat → Nat} {un : Nat → Option Nat} {nmL : Nat → List Nat} {N R : List (List Nat)} {w : List Nat} {P0 P1 : Int32} {rn : Nat}
    (hn : 100000000 ≤ n) (he : ENV ga las so ma un no nv nmL) (hmv : MVA so ma un las nv) (hhd : hd ≤ 80) (hN : N.length ≤ 600) (hw : tok so un ma nv w) (hK : K ≤ 20) (hKw : K ≤ w.length) (hro : ro < N.length) (hro2 : nth N ro = w) (hb9 : bits < 256) (hR : RLK so ma un nv R bits) :
    ∀ (d pl m : Nat) (sp rf u v : Nat → Nat → Int32) (w8 : Nat → Nat → Int64), pl + d = K → d < m → TBK v w8 las so ma un nv N → v 0 1 = nI hd → PND sp N w K → (0 < K → sp 6 0 = nI ro) → LRN sp N R bits 8 → sp 0 0 = nI bits → sp 0 2 = nI K → STS so un R bits K w sp rf pl 0 → (∀ p q : Nat, p < pl → p < K → q < 8 → bits.testBit q = true → ¬ TMg so un (rl R q) w p) →
      ∃ (r : Int32) (sp' rf' u' v' : Nat → Nat → Int32) (w' : Nat → Nat → Int64), lx_X7_list_44 n ga rn vr P0 P1 m (nI N.length) (nI pl) sp rf u v w8 = some (r, sp', rf', u', v', w') ∧ (∀ z : Nat, z ≠ 0 → z ≠ 1 → z ≠ 2 → z ≠ 3 → sp' z = sp z) ∧ (∀ z : Nat, z ≠ 3 → sp' 0 z = sp 0 z) ∧
        ((r = 1 ∧ TBK v' w' las so ma un nv N ∧ v' 0 1 = nI hd ∧ STS so un R bits K w sp' rf' K 0 ∧ ∀ p q : Nat, p < K → q < 8 → bits.testBit q = true → ¬ TMg so un (rl R q) w p) ∨
         (r = 0 ∧ (∃ N' : List (List Nat), TB v' w' las N') ∧ TMB so un R bits K w))
  | 0, pl, m + 1, sp, rf, u, v, w8, hp, _, hT, hst, _, _, _, _, h2, hS, hno => by
    have e : pl = K := by omega
    subst e
    refine ⟨1, sp, rf, u, v, w8, ?_, fun _ _ _ _ _ => rfl, fun _ _ => rfl, Or.inl ⟨rfl, hT, hst, hS, fun p q h => hno p q h h⟩⟩
    show bx_X7_list_44 n ga rn vr P0 P1 (lx_X7_list_44 n ga rn vr P0 P1 m) (nI N.length) (nI pl) sp rf u v w8 = _
    unfold bx_X7_list_44
    rw [h2, if_pos (Int32.le_refl _)]
  | d + 1, pl, m + 1, sp, rf, u, v, w8, hp, hm, hT, hst, hP, h60, hL, h0, h2, hS, hno => by
    have hsh : lx_X7_list_44 n ga rn vr P0 P1 (m + 1) (nI N.length) (nI pl) sp rf u v w8 = bx_X7_list_44 n ga rn vr P0 P1 (lx_X7_list_44 n ga rn vr P0 P1 m) (nI N.length) (nI pl) sp rf u v w8 := rfl
    rw [hsh]
    unfold bx_X7_list_44
    rw [h2, if_neg (by rw [nI_le_iff (by omega) (by omega)]; omega)]
    obtain ⟨⟨a, a1, a2, a3⟩, _⟩ := hP pl (by omega)
    obtain ⟨sp1, rf1, u1, v1, w1, y1, y2, y3⟩ := lx_56_c (n := n) (rn := rn) (vr := vr) (P0 := P0) (P1 := P1) (k44 := lx_X7_list_44 n ga rn vr P0 P1 m) hn he hmv hhd hN hw hK (show pl < K by omega) (by omega) a1 a2 hro hro2 hb9 hR 8 0 n sp rf u v w8 rfl (by omega) hT hst hP a3 (h60 (by omega)) hL h0 hS (fun p q hbf hpK hq hbq => hno p q (by
      rcases hbf with h | ⟨_, h⟩
      · exact h
      · exact absurd h (Nat.not_lt_zero _)) hpK hq hbq)
    have e0 : nI 0 = (0 : Int32) := rfl
    rw [e0] at y3
    rcases y3 with ⟨g1, g2, g3, g4, g5⟩ | ⟨g1, g2, g3⟩
    · rw [g1]
      obtain ⟨r, sp', rf', u', v', w', z1, z2, z3, z4⟩ := lx_44_c (P0 := P0) (P1 := P1) (rn := rn) (vr := vr) hn he hmv hhd hN hw hK hKw hro hro2 hb9 hR d (pl + 1) m sp1 rf1 u1 v1 w1 (by omega) (by omega) g2 g3 (fun z hz => by rw [y1 6 (by decide) (by decide) (by decide) (by decide), y1 7 (by decide) (by decide) (by decide) (by decide), y1 8 (by decide) (by decide) (by decide) (by decide)]; exact hP z hz) (fun hK0 => by rw [y1 6 (by decide) (by decide) (by decide) (by decide)]; exact h60 hK0) (fun j hj hbj => by rw [y1 4 (by decide) (by decide) (by decide) (by decide), y1 5 (by decide) (by decide) (by decide) (by decide)]; exact hL j hj hbj) (by rw [y2 0 (by decide)]; exact h0) (by rw [y2 2 (by decide)]; exact h2) (STS_next g4) (fun p q hp1 hpK hq hbq => g5 p q (by
        by_cases e : p = pl
        · exact Or.inr ⟨e, hq⟩
        · exact Or.inl (show p < pl by omega)) hpK hq hbq)
      exact ⟨r, sp', rf', u', v', w', z1, fun z x0 x1 x2 x3 => (z2 z x0 x1 x2 x3).trans (y1 z x0 x1 x2 x3), fun z hz => (z3 z hz).trans (y2 z hz), z4⟩
    · exact ⟨0, sp1, rf1, u1, v1, w1, g1, y1, y2, Or.inr ⟨rfl, g2, g3⟩⟩
/-- list: all steps in their order, or too much -/
theorem fx_list_c {n no nv rn i most bits : Nat} {ga vr sp rf u v : Nat → Nat → Int32} {w8 : Nat → Nat → Int64} {las : Nat → Bool} {so ma : Nat → Nat} {un : Nat → Option Nat} {nmL : Nat → List Nat} {Nb F R Tm : List (List Nat)} (hn : 100000000 ≤ n) (he : ENV ga las so ma un no nv nmL) (hmv : MVA so ma un las nv) (hr : rn ≤ 1000) (hT : TB v w8 las (Nb ++ F)) (hTb : ∀ t ∈ Nb, tok so un ma nv t) (hNb : Nb.length ≤ 400) (hst : v 0 1 = nI 0) (hb1 : sp 0 1 = nI Nb.length) (hb0 : sp 0 0 = nI bits) (hb9 : bits < 256) (hL : LRN sp Nb R bits 8) (hR : RLK so ma un nv R bits) (hRW : RWS rn vr Tm) (hi : i < Tm.length) (hw : tok so un ma nv (nth Tm i)) (hm1 : 1 ≤ most) (hm20 : most ≤ 20) :
    ∃ (r : Int32) (sp' rf' u' v' : Nat → Nat → Int32) (w' : Nat → Nat → Int64) (K : Nat), fx_X7_list n sp rf u v w8 ga rn vr (nI i) (nI most) = some (r, sp', rf', u', v', w') ∧ K ≤ (nth Tm i).length ∧ K ≤ most ∧ (K = (nth Tm i).length ∨ K = most) ∧ sp' 0 0 = nI bits ∧ sp' 0 1 = nI Nb.length ∧ sp' 4 = sp 4 ∧ sp' 5 = sp 5 ∧
      ((r = 1 ∧ (∃ E : List (List Nat), TBK v' w' las so ma un nv (Nb ++ E)) ∧ v' 0 1 = nI 0 ∧ STS so un R bits K (nth Tm i) sp' rf' K 0 ∧ ∀ p q : Nat, p < K → q < 8 → bits.testBit q = true → ¬ TMg so un (rl R q) (nth Tm i) p) ∨
       (r = 0 ∧ (∃ N' : List (List Nat), TB v' w' las N') ∧ TMB so un R bits K (nth Tm i))) := by
  have hn5 : 100000 ≤ n := by omega
  obtain ⟨rf0, c1, c2⟩ := fx_clear_c (n := n) (rn := 201) (v := rf)
  obtain ⟨v1, z1, z2, z3, z4⟩ := fx_giveBack_c (n := n) (f0 := Nb.length) hn5 hT (by rw [List.length_append]; omega)
  rw [take_app] at z2
  obtain ⟨x, v2, w2, E, a1, a2, a3, a4, a5, a6, a7⟩ := fx_fromRow_k (n := n) (held := 0) hn5 he hr hRW hi hw (by decide) ⟨z2, hTb⟩ (by omega) (by rw [z4 1 (by decide)]; exact hst)
  obtain ⟨sp1, K, g1, g2, g3, g4, g5, g6, g7⟩ := fx_layPlaces_c (n := n) (u := sp) (most := most) hn5 hw a2.1 a3 a4 hm20
  have El : (Nb ++ E).length = Nb.length + E.length := List.length_append
  have wp := wf_pos hw.1.1.1
  have x6 : 0 < K → sp1 6 0 = nI x := fun hK => by
    obtain ⟨⟨y, y1, y2, y3⟩, _⟩ := g2 0 hK
    rw [sbt_0 hw] at y2
    rw [y3, nth_inj a2.1.2.2.1 y1 a3 (by rw [y2, a4])]
  obtain ⟨r, sp', rf', u', v', w', q1, q2, q3, q4⟩ := lx_44_c (n := n) (rn := rn) (vr := vr) (P0 := nI i) (P1 := nI most) (ga := ga) hn he hmv (show 0 ≤ 80 by decide) (by omega) hw (by omega) g4 a3 a4 hb9 hR K 0 n sp1 rf0 u v2 w2 (by omega) (by omega) a2 a6 g2 x6 (fun j hj hbj => by
    rw [g7.1 4 (by decide) (by decide) (by decide) (by decide) (by decide), g7.1 5 (by decide) (by decide) (by decide) (by decide) (by decide)]
    exact LRN_ext hL j hj hbj) (by rw [g7.2 0 (by decide)]; exact hb0) g3 ⟨[], [], c2, Nat.zero_le _, ⟨rfl, fun k hk => absurd hk (Nat.not_lt_zero k)⟩, List.Pairwise.nil, fun s => ⟨fun h => absurd h List.not_mem_nil, fun h => by
      rcases h.2 with z | ⟨_, z⟩
      · exact absurd z (Nat.not_lt_zero _)
      · exact absurd z (Nat.not_lt_zero _)⟩⟩ (fun p q h => absurd h (Nat.not_lt_zero _))
  refine ⟨r, sp', rf', u', v', w', K, ?_, g4, g5, g6, by rw [q3 0 (by decide), g7.2 0 (by decide)]; exact hb0, by rw [q3 1 (by decide), g7.2 1 (by decide)]; exact hb1, by rw [q2 4 (by decide) (by decide) (by decide) (by decide), g7.1 4 (by decide) (by decide) (by decide) (by decide) (by decide)], by rw [q2 5 (by decide) (by decide) (by decide) (by decide), g7.1 5 (by decide) (by decide) (by decide) (by decide) (by decide)], ?_⟩
  · unfold fx_X7_list
    rw [c1, xb1_s, hb1, z1, xb1_s, a1, xb3_s, g1, xb1_s, a2.1.2.1]
    exact q1
  · rcases q4 with ⟨h1, h2, h3, h4, h5⟩ | h
    · exact Or.inl ⟨h1, ⟨E, h2⟩, h3, h4, h5⟩
    · exact Or.inr h
