/-! ===== operator of the class: as the reference's ===== -/
theorem fx_operator_c {n : Nat} {v vt : Nat → Nat → Int32} {so ma : Nat → Nat} {un : Nat → Option Nat} {no nv : Nat} {nmL : Nat → List Nat} {A : List (List Nat)} {x y : Int32} (hn : 100000 ≤ n) (h : SGC v so ma un no nv nmL) (hA : RWS 30 vt A) :
    (∃ o w : Nat, (o < no ∧ x = nI o) ∧ (w < 4 ∧ y = nI w) ∧ fx_X9_operator n v vt x y = some (0, opr so un ma A o w)) ∨ (isn x no ∧ ¬ isn y 4 ∧ fx_X9_operator n v vt x y = some (4, 0)) ∨ (¬ isn x no ∧ fx_X9_operator n v vt x y = some (3, 0)) := by
  have h10 := h.1
  have ck : fx_X9_checkOperator n v x = some (if isn x no then 0 else 3) := by
    unfold fx_X9_checkOperator
    rw [h.2.2.1]
    exact chk_is (by omega)
  unfold fx_X9_operator
  rw [ck, xb1_s]
  by_cases h1 : isn x no
  · rw [if_pos h1, if_pos rfl]
    by_cases h2 : isn y 4
    · obtain ⟨o, i1, i2⟩ := isn_of (by omega) h1
      obtain ⟨w, w1, w2⟩ := isn_of (by decide) h2
      rw [i2, w2, nI_toInt (by omega)]
      refine Or.inl ⟨o, w, ⟨i1, rfl⟩, ⟨w1, rfl⟩, ?_⟩
      have hw9 : w = 0 ∨ w = 1 ∨ w = 2 ∨ w = 3 := by omega
      rcases hw9 with rfl | rfl | rfl | rfl
      · rw [if_neg (by decide), if_pos (by decide), fx_kindOf_c h i1, xb1_s]; rfl
      · rw [if_neg (by decide), if_neg (by decide), if_pos (by decide), fx_partsOf_c h i1, xb1_s]; rfl
      · rw [if_neg (by decide), if_neg (by decide), if_neg (by decide), if_pos (by decide), fx_unitOf_c h i1, xb1_s]
        have e : opr so un ma A o 2 = oI (un o) := by
          unfold opr
          cases un o <;> rfl
        rw [e]
      · rw [if_neg (by decide), if_neg (by decide), if_neg (by decide), if_neg (by decide), if_pos (by decide), fx_termsWith_c hn hA, xb1_s]; rfl
    · have : y.toInt < 0 ∨ 3 < y.toInt := by
        unfold isn at h2
        omega
      rw [if_pos this]
      exact Or.inr (Or.inl ⟨h1, h2, rfl⟩)
  · rw [if_neg h1, if_neg (by decide)]
    exact Or.inr (Or.inr ⟨h1, rfl⟩)
