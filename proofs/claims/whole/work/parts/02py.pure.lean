/-! ===== the rows of a match that was found ===== -/
theorem la_keyF {f : Nat → Int32} {pv : Int32} {sg : Nat → List Nat} (h : ∀ v : Nat, v < 5 → hb pv v = true → (sg v).length ≤ 20) : ∀ (k v b : Nat), v + k ≤ 5 → la f b (keyF pv sg k v) → ∀ w : Nat, v ≤ w → w < v + k → hb pv w = true → la f (b + 21 * (w - v)) (sg w)
  | 0, v, b, _, _, w, h1, h2, _ => by omega
  | k + 1, v, b, hv, hl, w, h1, h2, hw => by
    have hl' : la f b (pad (if hb pv v then sg v else []) ++ keyF pv sg k (v + 1)) := hl
    obtain ⟨l1, l2⟩ := la_app.mp hl'
    by_cases q : w = v
    · subst q
      rw [if_pos hw] at l1
      unfold pad at l1
      rw [Nat.sub_self, Nat.mul_zero, Nat.add_zero]
      exact (la_app.mp l1).1
    · have hp : (if hb pv v then sg v else []).length ≤ 21 := by
        split
        · rename_i g; have := h v (by omega) g; omega
        · simp
      rw [pad_len hp] at l2
      have := la_keyF h k (v + 1) (b + 21) (by omega) l2 w (by omega) (by omega) hw
      rw [show b + 21 + 21 * (w - (v + 1)) = b + 21 * (w - v) by omega] at this
      exact this
/-- where what a variable has in the m-th match lies -/
theorem found_row {f : Nat → Int32} {pv : Int32} {sg : Nat → List Nat} {A B : List (List Nat)} (h : ∀ v : Nat, v < 5 → hb pv v = true → (sg v).length ≤ 20) (hA : ∀ q ∈ A, kok q) (hl : la f 0 (A ++ key pv sg :: B).flatten) : ∀ v : Nat, v < 5 → hb pv v = true → la f (21 * (5 * A.length + v)) (sg v) := fun v hv hw => by
  have h1 := kat hA hl
  have := la_keyF h 5 0 (105 * A.length) (by omega) h1 v (Nat.zero_le _) (by omega) hw
  rw [show 105 * A.length + 21 * (v - 0) = 21 * (5 * A.length + v) by omega] at this
  exact this
