/-! ===== addsStep: a step comes to its group, in order ===== -/
def strw (fr : Nat → Int32) : Nat → List (List Nat) → Prop
  | _, [] => True
  | i, r :: rs => la fr (21 * i) r ∧ strw fr (i + 1) rs
theorem strw_app {fr : Nat → Int32} : ∀ {l r : List (List Nat)} {i : Nat}, strw fr i (l ++ r) ↔ strw fr i l ∧ strw fr (i + l.length) r
  | [], r, i => by simp [strw]
  | c :: l, r, i => by
    show (la fr (21 * i) c ∧ strw fr (i + 1) (l ++ r)) ↔ (la fr (21 * i) c ∧ strw fr (i + 1) l) ∧ strw fr (i + (l.length + 1)) r
    rw [strw_app, show i + (l.length + 1) = i + 1 + l.length by omega, and_assoc]
theorem strw_congr {fr fr' : Nat → Int32} : ∀ {l : List (List Nat)} {i j : Nat}, (∀ r ∈ l, r.length ≤ 21) → (∀ z : Nat, z < 21 * l.length → fr' (21 * j + z) = fr (21 * i + z)) → strw fr i l → strw fr' j l
  | [], _, _, _, _, _ => trivial
  | r :: l, i, j, hl, h, hs => by
    have hr := hl r (List.mem_cons_self ..)
    refine ⟨la_congr (fun z hz => h z (by simp only [List.length_cons]; omega)) hs.1, strw_congr (fun q hq => hl q (List.mem_cons_of_mem _ hq)) (fun z hz => ?_) hs.2⟩
    have := h (21 + z) (by simp only [List.length_cons]; omega)
    rw [show 21 * (j + 1) + z = 21 * j + (21 + z) by omega, show 21 * (i + 1) + z = 21 * i + (21 + z) by omega]; exact this
abbrev StpE := Nat × Nat × List Nat
/-- steps as they lie: places, rules, rows -/
def SL (fpl fru fr : Nat → Int32) (S : List StpE) : Prop := la fpl 0 (S.map (fun s => s.1)) ∧ la fru 0 (S.map (fun s => s.2.1)) ∧ strw fr 0 (S.map (fun s => s.2.2))
theorem SL_get {fpl fru fr : Nat → Int32} {A B : List StpE} {s : StpE} (h : SL fpl fru fr (A ++ s :: B)) : fpl A.length = nI s.1 ∧ fru A.length = nI s.2.1 ∧ la fr (21 * A.length) s.2.2 := by
  obtain ⟨h1, h2, h3⟩ := h
  rw [List.map_append, List.map_cons] at h1 h2 h3
  have g1 := (la_app.mp h1).2.1
  have g2 := (la_app.mp h2).2.1
  have g3 := (strw_app.mp h3).2.1
  rw [List.length_map, Nat.zero_add] at g1 g2 g3
  exact ⟨g1, g2, g3⟩
/-- rows of one group -/
def grpS (pl ru : Nat) (D : List (List Nat)) : List StpE := D.map (fun r => (pl, ru, r))
def sok (so : Nat → Nat) (r : List Nat) : Prop := okt so r ∧ r.length ≤ 20
theorem lx_addsStep_25_ok {n : Nat} {fs fp fpl fru fr : Nat → Int32} {so : Nat → Nat} {p3 tm fm : Int32} {a pl ru : Nat} {q : List Nat} {S0 : List StpE} (hn : 100000 ≤ n) (hq : la fp a q) (hqo : sok so q) (ha : a + 21 ≤ 60000) (hpl : pl < 1000) (hru : ru < 1000) (hS0 : ∀ s ∈ S0, s.1 < 1000 ∧ s.2.1 < 1000) (hlast : ∀ (A : List StpE) (s : StpE), S0 = A ++ [s] → ¬ (s.1 = pl ∧ s.2.1 = ru)) :
    ∀ (R B : List (List Nat)) (m : Nat), (∀ r ∈ R, sok so r) → SL fpl fru fr (S0 ++ grpS pl ru (R.reverse ++ B)) → S0.length + R.length ≤ 200 → (∀ b ∈ B, cmpL b q = 1) → R.length < m →
      ∃ R' B' : List (List Nat), R'.reverse ++ B' = R.reverse ++ B ∧ (∀ b ∈ B', cmpL b q = 1) ∧ (∀ (y : List Nat) (r : List (List Nat)), R' = y :: r → cmpL y q ≠ 1) ∧ (∀ r ∈ R', sok so r) ∧ S0.length + R'.length ≤ 200 ∧
        lx_addsStep_25 n fs fp (nI pl) (nI ru) (nI a) p3 m (nI (S0.length + R.length)) tm fpl fru fr fm = jx_addsStep_74 n fs fp (nI pl) (nI ru) (nI a) p3 (nI (S0.length + R'.length)) tm fpl fru fr fm
  | [], B, m + 1, _, hSL, hb', hB, _ => by
    refine ⟨[], B, rfl, hB, fun _ _ h => by simp at h, fun _ h => absurd h List.not_mem_nil, hb', ?_⟩
    simp only [List.length_nil, Nat.add_zero] at hb' ⊢
    show bx_addsStep_25 n fs fp (nI pl) (nI ru) (nI a) p3 (lx_addsStep_25 n fs fp (nI pl) (nI ru) (nI a) p3 m) _ _ _ _ _ _ = _
    unfold bx_addsStep_25
    rcases List.eq_nil_or_concat S0 with e | ⟨A, s, e⟩
    · rw [e, if_pos (show nI ([] : List StpE).length ≤ (0 : Int32) by decide)]
    · have e' : S0 = A ++ [s] := by rw [e]; simp
      have hl : S0.length = A.length + 1 := by rw [e']; simp
      have hs := hS0 s (by rw [e']; simp)
      rw [e', List.append_assoc] at hSL
      obtain ⟨g1, g2, _⟩ := SL_get hSL
      rw [hl, if_neg (nI_nle (by omega) (by omega)), xl_eq, nI_pred, xr_n (by omega) (by decide), g1]
      by_cases w1 : s.1 = pl
      · rw [if_pos (by rw [w1]), xl_eq, xr_n (by omega) (by decide), g2, if_neg (by rw [nI_inj (by omega) (by omega)]; exact fun w2 => hlast A s e' ⟨w1, w2⟩)]
      · rw [if_neg (by rw [nI_inj (by omega) (by omega)]; exact w1)]
  | y :: R, B, m + 1, hR, hSL, hb', hB, hm => by
    simp only [List.length_cons] at hb' hm
    have hy := hR y (List.mem_cons_self ..)
    have e1 : (y :: R).reverse ++ B = R.reverse ++ y :: B := by simp
    have eS : S0 ++ grpS pl ru ((y :: R).reverse ++ B) = (S0 ++ grpS pl ru R.reverse) ++ (pl, ru, y) :: grpS pl ru B := by rw [e1]; simp [grpS]
    have hSL2 := hSL
    rw [eS] at hSL2
    obtain ⟨g1, g2, g3⟩ := SL_get hSL2
    have hl9 : (S0 ++ grpS pl ru R.reverse).length = S0.length + R.length := by simp [grpS]
    rw [hl9] at g1 g2 g3
    have hcs := fx_comparesStep_ok (n := n) (s := S0.length + R.length) (by omega) hn g3 hq hy.1.1 hqo.1.1 hy.1.2.1 hqo.1.2.1 hy.2 hqo.2 ha
    have eL : lx_addsStep_25 n fs fp (nI pl) (nI ru) (nI a) p3 (m + 1) (nI (S0.length + (R.length + 1))) tm fpl fru fr fm = bx_addsStep_25 n fs fp (nI pl) (nI ru) (nI a) p3 (lx_addsStep_25 n fs fp (nI pl) (nI ru) (nI a) p3 m) (nI (S0.length + (R.length + 1))) tm fpl fru fr fm := rfl
    by_cases w : cmpL y q = 1
    · obtain ⟨R', B', r1, r2, r3, r4, r5, r6⟩ := lx_addsStep_25_ok (fs := fs) (p3 := p3) (tm := tm) (fm := fm) hn hq hqo ha hpl hru hS0 hlast R (y :: B) m (fun z hz => hR z (List.mem_cons_of_mem _ hz)) (by rw [← e1]; exact hSL) (by omega) (fun b hb9 => by
          rcases List.mem_cons.mp hb9 with z | z
          · rw [z]; exact w
          · exact hB b z) (by omega)
      refine ⟨R', B', by rw [r1, e1], r2, r3, r4, r5, ?_⟩
      rw [List.length_cons, eL]
      unfold bx_addsStep_25
      rw [← Nat.add_assoc, if_neg (nI_nle (by omega) (by omega)), xl_eq, nI_pred, xr_n (by omega) (by decide), g1, if_pos rfl, xl_eq, xr_n (by omega) (by decide), g2, if_pos rfl, xl_eq, hcs, xb1_s, if_neg (by rw [w]; decide), xl_eq, nI_dec]
      exact r6
    · refine ⟨y :: R, B, rfl, hB, fun z r h => by rw [← (List.cons.inj h).1]; exact w, hR, by simp only [List.length_cons]; omega, ?_⟩
      rw [List.length_cons, eL]
      unfold bx_addsStep_25
      rw [← Nat.add_assoc, if_neg (nI_nle (by omega) (by omega)), xl_eq, nI_pred, xr_n (by omega) (by decide), g1, if_pos rfl, xl_eq, xr_n (by omega) (by decide), g2, if_pos rfl, xl_eq, hcs, xb1_s, if_pos (by
        rcases cmpL_vals y q with z | z | z
        · rw [z]; decide
        · rw [z]; decide
        · exact absurd z w)]
