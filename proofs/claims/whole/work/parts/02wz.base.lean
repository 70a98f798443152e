/-! ===== rows that are kept ===== -/
def krow (Pk : Int32 → Prop) (f : Nat → Int32) (row : Nat) : Prop := ∃ k : Nat, fo f (21 * row) 1 k ∧ k ≤ 20 ∧ okr Pk f (21 * row) k
theorem krow_congr {Pk : Int32 → Prop} {f g : Nat → Int32} {row : Nat} (h : ∀ j : Nat, 21 * row ≤ j → j < 21 * row + 21 → g j = f j) (hk : krow Pk f row) : krow Pk g row := by
  obtain ⟨k, h1, h2, h3⟩ := hk
  exact ⟨k, fo_congr (fun i hi => (h _ (by omega) (by omega)).symm) h1, h2, okr_congr (fun i hi => (h _ (by omega) (by omega)).symm) h3⟩
/-- a term in the pool that may be kept, all of it below a bound -/
def ktm (Pk : Int32 → Prop) (f : Nat → Int32) (a : Int32) (hi : Int) : Prop := 0 ≤ a.toInt ∧ ∃ k : Nat, fo f a.toNatClampNeg 1 k ∧ k ≤ 20 ∧ okr Pk f a.toNatClampNeg k ∧ a.toInt + k ≤ hi
theorem krow_of {Pk : Int32 → Prop} {f p : Nat → Int32} {row a k : Nat} (h1 : fo p a 1 k) (h2 : k ≤ 20) (h3 : okr Pk p a k) (h : ∀ i : Nat, i < k → f (21 * row + i) = p (a + i)) : krow Pk f row :=
  ⟨k, fo_congr (fun i hi => (h i hi).symm) h1, h2, okr_congr (fun i hi => (h i hi).symm) h3⟩
/-- the rows of the terms behind a new one -/
theorem krow_new {Pk : Int32 → Prop} {f g p : Nat → Int32} {n n' a k : Nat} (hk : ∀ t : Nat, t < n → krow Pk f t) (h1 : fo p a 1 k) (h2 : k ≤ 20) (h3 : okr Pk p a k) (h : ∀ i : Nat, i < k → g (21 * n + i) = p (a + i)) (ho : ∀ j : Nat, (j < 21 * n ∨ 21 * n + 21 ≤ j) → g j = f j) (hn : n' = n + 1) : ∀ t : Nat, t < n' → krow Pk g t := by
  intro t ht
  by_cases q : t = n
  · rw [q]; exact krow_of h1 h2 h3 h
  · exact krow_congr (fun j _ hj2 => ho j (Or.inl (by omega))) (hk t (by omega))
