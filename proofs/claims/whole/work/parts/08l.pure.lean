/-! ===== the class's checks; order, tell, terms with an operator, greatest ===== -/
theorem chk_is {k : Nat} {x e : Int32} (hk : k < 2147483648) : (if x < (0 : Int32) then some e else (if x < nI k then some (0 : Int32) else some e)) = some (if isn x k then 0 else e) := by
  have z : (0 : Int32).toInt = 0 := rfl
  have c := nI_toInt (n := k) hk
  by_cases q : isn x k
  · have q1 := q.1
    have q2 := q.2
    rw [if_pos q, if_neg (fun h => by have := Int32.lt_iff_toInt_lt.mp h; omega), if_pos (Int32.lt_iff_toInt_lt.mpr (by omega))]
  · rw [if_neg q]
    by_cases h : x < 0
    · rw [if_pos h]
    · rw [if_neg h, if_neg (fun g => q ⟨by
        have h1 : ¬ x.toInt < (0 : Int32).toInt := fun y => h (Int32.lt_iff_toInt_lt.mpr y)
        omega, by have := Int32.lt_iff_toInt_lt.mp g; omega⟩)]
theorem fx_checkTerm_c {n : Nat} {v : Nat → Nat → Int32} {A : List (List Nat)} {x : Int32} (h : RWS 30 v A) : fx_X9_checkTerm n v x = some (if isn x A.length then 0 else 3) := by
  have hA := h.1
  unfold fx_X9_checkTerm
  rw [h.2.1]
  exact chk_is (by omega)
theorem sr1 : ∀ k : Fin 17, nI k.val >>> ((1 : Int32) &&& 31) = nI (k.val / 2) := by decide +kernel
theorem fx_rules_c {n r : Nat} {v : Nat → Nat → Int32} {A : List (List Nat)} (h : RWS 16 v A) (hr : A.length = 2 * r) : fx_X9_rules n v = some (nI r) := by
  have hA := h.1
  have k := sr1 ⟨A.length, by omega⟩
  have k' : nI A.length >>> ((1 : Int32) &&& 31) = nI (A.length / 2) := k
  unfold fx_X9_rules
  rw [h.2.1, xl_eq, k', show A.length / 2 = r by omega]
theorem fx_checkRule_c {n r : Nat} {v : Nat → Nat → Int32} {A : List (List Nat)} {x : Int32} (h : RWS 16 v A) (hr : A.length = 2 * r) : fx_X9_checkRule n v x = some (if isn x r then 0 else 3) := by
  have hA := h.1
  have e := chk_is (k := r) (x := x) (e := 3) (by omega)
  unfold fx_X9_checkRule
  rw [fx_rules_c h hr, xb1_s]
  exact e
theorem fx_checkDistance_c {n : Nat} {x : Int32} : fx_X9_checkDistance n x = some (if isn x 5 then 0 else 1) := by
  have e := chk_is (k := 5) (x := x) (e := 1) (by decide)
  rw [← e]
  unfold fx_X9_checkDistance
  have z : (x ≤ (4 : Int32)) ↔ (x < nI 5) := by
    have e4 : (4 : Int32).toInt = 4 := rfl
    rw [Int32.le_iff_toInt_le, Int32.lt_iff_toInt_lt, e4, nI_toInt (by decide)]; omega
  by_cases q : x ≤ (4 : Int32)
  · rw [if_pos q, if_pos (z.mp q)]
  · rw [if_neg q, if_neg (fun g => q (z.mpr g))]
theorem fx_order_c {n : Nat} {v : Nat → Nat → Int32} {A : List (List Nat)} {x y : Int32} (hn : 100000 ≤ n) (h : RWS 30 v A) (hw : ∀ t ∈ A, wf 1 t) :
    (∃ i j : Nat, (i < A.length ∧ x = nI i) ∧ (j < A.length ∧ y = nI j) ∧ fx_X9_order n v x y = some (0, cmpL (nth A i) (nth A j))) ∨ (¬ (isn x A.length ∧ isn y A.length) ∧ fx_X9_order n v x y = some (3, 0)) := by
  have hA := h.1
  unfold fx_X9_order
  rw [fx_checkTerm_c h, xb1_s]
  by_cases h1 : isn x A.length
  · rw [if_pos h1, if_pos rfl, fx_checkTerm_c h, xb1_s]
    by_cases h2 : isn y A.length
    · obtain ⟨i, i1, i2⟩ := isn_of (by omega) h1
      obtain ⟨j, j1, j2⟩ := isn_of (by omega) h2
      rw [if_pos h2, if_pos rfl, i2, j2, fx_compare_cs hn (by decide) h i1 j1 (hw _ (nth_mem i1)) (hw _ (nth_mem j1)), xb1_s]
      exact Or.inl ⟨i, j, ⟨i1, rfl⟩, ⟨j1, rfl⟩, rfl⟩
    · rw [if_neg h2, if_neg (by decide)]
      exact Or.inr ⟨fun q => h2 q.2, rfl⟩
  · rw [if_neg h1, if_neg (by decide)]
    exact Or.inr ⟨fun q => h1 q.1, rfl⟩
theorem fx_tell_c {n : Nat} {v vc : Nat → Nat → Int32} {A : List (List Nat)} {x : List Nat} (hn : 100000 ≤ n) (h : RWS 30 v A) (hc : RWS 1 vc [x]) (hw : ∀ t ∈ A, wf 1 t) (hx : wf 1 x) :
    (∃ j : Nat, j < A.length ∧ nth A j = x ∧ fx_X9_tell n v vc = some (0, nI j, v)) ∨ (x ∉ A ∧ A.length = 30 ∧ fx_X9_tell n v vc = some (2, 0, v)) ∨ (x ∉ A ∧ A.length < 30 ∧ ∃ v' : Nat → Nat → Int32, fx_X9_tell n v vc = some (0, nI A.length, v') ∧ RWS 30 v' (A ++ [x])) := by
  have hA := h.1
  have e0 : nI 0 = (0 : Int32) := rfl
  have ix := fx_indexOf_c (n := n) (j := 0) hn (by decide) (by decide) h hc (by simp) hw hx
  have ex : nth [x] 0 = x := rfl
  rw [ex, e0] at ix
  unfold fx_X9_tell
  rcases ix with ⟨q1, q2⟩ | ⟨j, q1, q2, q3⟩
  · rw [q2, xb1_s, if_pos (by decide), h.2.1, show (30 : Int32) = nI 30 from rfl]
    by_cases z : A.length = 30
    · rw [if_neg (by rw [nI_lt_iff (by omega) (by decide)]; omega)]
      exact Or.inr (Or.inl ⟨q1, z, rfl⟩)
    · obtain ⟨v', z1, z2⟩ := fx_copy_c (n := n) (i := 0) hn (by decide) (by decide) h (by omega) hc (by simp)
      rw [e0] at z1
      rw [ex] at z2
      rw [if_pos (by rw [nI_lt_iff (by omega) (by decide)]; omega), z1, xb1_s]
      exact Or.inr (Or.inr ⟨q1, by omega, v', rfl, z2⟩)
  · rw [q3, xb1_s, if_neg (by rw [show (0 : Int32) = nI 0 from rfl, nI_lt_iff (by omega) (by decide)]; omega)]
    exact Or.inl ⟨j, q1, q2, rfl⟩
