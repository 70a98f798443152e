/-! ===== the stepper: what a step is ===== -/
theorem fx_slotOf_c {n k : Nat} {sp rf : Nat → Nat → Int32} {A : List (List Nat)} {S : List StpE} (hR : RWS 201 rf A) (hA : A.length ≤ 200) (hS : STT sp A S) (hk : k < S.length) :
    ∃ s : Nat, s < A.length ∧ fx_X7_slotOf n sp rf (nI k) = some (nI s) ∧ nth A s = (stq S k).2.2 ∧ sp 2 s = nI (stq S k).1 ∧ sp 3 s = nI (stq S k).2.1 := by
  obtain ⟨s, s1, s2, s3, s4, s5⟩ := hS.2 k hk
  have sl := hS.1
  refine ⟨s, s1, ?_, s3, s4, s5⟩
  unfold fx_X7_slotOf
  rw [if_neg (by rw [show (0 : Int32) = nI 0 from rfl, nI_lt_iff (by omega) (by decide)]; omega), hR.2.1, if_neg (by rw [nI_le_iff (by omega) (by omega)]; omega), if_neg (by rw [show (200 : Int32) = nI 200 from rfl, nI_lt_iff (by decide) (by omega)]; omega), xr_n (by omega) (by decide), s2]
theorem fx_placeOf_c {n k : Nat} {sp rf : Nat → Nat → Int32} {A : List (List Nat)} {S : List StpE} (hR : RWS 201 rf A) (hA : A.length ≤ 200) (hS : STT sp A S) (hk : k < S.length) : fx_X7_placeOf n sp rf (nI k) = some (nI (stq S k).1) := by
  obtain ⟨s, s1, s2, s3, s4, s5⟩ := fx_slotOf_c (n := n) hR hA hS hk
  unfold fx_X7_placeOf
  rw [s2, xb1_s, if_neg (by rw [show (0 : Int32) = nI 0 from rfl, nI_lt_iff (by omega) (by decide)]; omega), if_neg (by rw [show (200 : Int32) = nI 200 from rfl, nI_lt_iff (by decide) (by omega)]; omega), xr_n (by omega) (by decide), s4]
theorem fx_ruleOf_c {n k : Nat} {sp rf : Nat → Nat → Int32} {A : List (List Nat)} {S : List StpE} (hR : RWS 201 rf A) (hA : A.length ≤ 200) (hS : STT sp A S) (hk : k < S.length) : fx_X7_ruleOf n sp rf (nI k) = some (nI (stq S k).2.1) := by
  obtain ⟨s, s1, s2, s3, s4, s5⟩ := fx_slotOf_c (n := n) hR hA hS hk
  unfold fx_X7_ruleOf
  rw [s2, xb1_s, if_neg (by rw [show (0 : Int32) = nI 0 from rfl, nI_lt_iff (by omega) (by decide)]; omega), if_neg (by rw [show (200 : Int32) = nI 200 from rfl, nI_lt_iff (by decide) (by omega)]; omega), xr_n (by omega) (by decide), s5]
theorem fx_used7_c {n : Nat} {sp rf : Nat → Nat → Int32} {A : List (List Nat)} {S : List StpE} (hR : RWS 201 rf A) (hS : STT sp A S) : fx_X7_used n rf = some (nI S.length) := by
  unfold fx_X7_used
  rw [hR.2.1, hS.1]
