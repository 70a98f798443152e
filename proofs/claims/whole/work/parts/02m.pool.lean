/-! ===== rows of codes, each with how many parts come behind it: balances and forests ===== -/
theorem ti_div {x y z : Int32} {k : Int} (h : z = x / y) (hy : y.toInt = k) (hk : 0 < k) (h0 : 0 ≤ x.toInt) : z.toInt = x.toInt / k := by
  have hne : y ≠ -1 := fun q => by rw [q] at hy; have : (-1 : Int32).toInt = -1 := rfl; omega
  rw [h, Int32.toInt_div_of_ne_right _ _ hne, hy, Int.tdiv_eq_ediv_of_nonneg h0]
theorem ti_rem {x y z : Int32} {k : Int} (h : z = x - x / y * y) (hy : y.toInt = k) (hk : 0 < k) (h0 : 0 ≤ x.toInt) : z.toInt = x.toInt % k := by
  obtain ⟨q, hq⟩ : ∃ q, q = x / y := ⟨_, rfl⟩
  rw [← hq] at h
  have e1 := ti_div hq hy hk h0
  obtain ⟨w, hw⟩ : ∃ w, w = q * y := ⟨_, rfl⟩
  rw [← hw] at h
  have r := ti_rng x
  have m1 : x.toInt / k * k ≤ x.toInt := Int.ediv_mul_le x.toInt (by omega)
  have m2 : 0 ≤ x.toInt / k := Int.ediv_nonneg h0 (by omega)
  have m3 : 0 ≤ x.toInt / k * k := Int.mul_nonneg m2 (by omega)
  have e2 : w.toInt = x.toInt / k * k := ti_mul2 hw e1 hy (by omega) (by omega)
  have e3 : z.toInt = x.toInt - x.toInt / k * k := ti_sub2 h rfl e2 (by omega) (by omega)
  have e4 := Int.emod_add_mul_ediv x.toInt k
  have e5 : k * (x.toInt / k) = x.toInt / k * k := Int.mul_comm _ _
  omega
/-- how many parts come behind a code -/
def pcs (c : Int32) : Nat := if c.toInt < 512 then 0 else (c.toInt % 512).toNat
theorem pcs_lt (c : Int32) : pcs c < 512 := by
  unfold pcs
  split <;> omega
/-- what is still awaited behind k cells from a on, if n terms are awaited at first -/
def bl (f : Nat → Int32) (a : Nat) (n : Int) : Nat → Int
  | 0 => n
  | k + 1 => bl f a n k + (pcs (f (a + k)) : Int) - 1
/-- n terms, one behind another, of k cells -/
def fo (f : Nat → Int32) (a : Nat) (n : Int) (k : Nat) : Prop := bl f a n k = 0 ∧ ∀ j, j < k → 0 < bl f a n j
theorem bl_0 (f : Nat → Int32) (a : Nat) (n : Int) : bl f a n 0 = n := rfl
theorem bl_s (f : Nat → Int32) (a : Nat) (n : Int) (k : Nat) : bl f a n (k + 1) = bl f a n k + (pcs (f (a + k)) : Int) - 1 := rfl
theorem bl_add (f : Nat → Int32) (a : Nat) (n : Int) (i j : Nat) : bl f a n (i + j) = bl f (a + i) (bl f a n i) j := by
  induction j with
  | zero => rfl
  | succ j ih => rw [← Nat.add_assoc, bl_s, bl_s, ih, Nat.add_assoc]
theorem bl_lin (f : Nat → Int32) (a : Nat) (n m : Int) (k : Nat) : bl f a (n + m) k = bl f a n k + m := by
  induction k with
  | zero => rfl
  | succ k ih => rw [bl_s, bl_s, ih]; omega
theorem bl_congr {f g : Nat → Int32} {a b : Nat} {n : Int} {k : Nat} (h : ∀ i, i < k → f (a + i) = g (b + i)) : bl f a n k = bl g b n k := by
  induction k with
  | zero => rfl
  | succ k ih => rw [bl_s, bl_s, ih (fun i hi => h i (Nat.lt_succ_of_lt hi)), h k (Nat.lt_succ_self k)]
theorem bl_le (f : Nat → Int32) (a : Nat) (n : Int) (k : Nat) : bl f a n k ≤ n + 511 * (k : Int) := by
  induction k with
  | zero => rw [bl_0]; omega
  | succ k ih =>
    have := pcs_lt (f (a + k))
    rw [bl_s]
    omega
theorem fo_congr {f g : Nat → Int32} {a b : Nat} {n : Int} {k : Nat} (h : ∀ i, i < k → f (a + i) = g (b + i)) (hf : fo f a n k) : fo g b n k :=
  ⟨(bl_congr h).symm.trans hf.1, fun j hj => by rw [← bl_congr (f := f) (a := a) (fun i hi => h i (Nat.lt_trans hi hj))]; exact hf.2 j hj⟩
theorem fo_uniq {f : Nat → Int32} {a : Nat} {n : Int} {k l : Nat} (h : fo f a n k) (h' : fo f a n l) : k = l := by
  rcases Nat.lt_trichotomy k l with q | q | q
  · have := h'.2 k q; rw [h.1] at this; omega
  · exact q
  · have := h.2 l q; rw [h'.1] at this; omega
theorem fo_zero (f : Nat → Int32) (a : Nat) : fo f a 0 0 := ⟨rfl, fun j h => absurd h (Nat.not_lt_zero j)⟩
theorem fo_pos {f : Nat → Int32} {a : Nat} {n : Int} {k : Nat} (h : fo f a n k) (hn : 0 < n) : 0 < k := by
  rcases Nat.eq_zero_or_pos k with q | q
  · have := h.1; rw [q, bl_0] at this; omega
  · exact q
theorem bl_first (f : Nat → Int32) (a : Nat) (n m : Int) (hm : m ≤ n) (k : Nat) (h : bl f a n k ≤ m) : ∃ j, j ≤ k ∧ bl f a n j = m ∧ ∀ i, i < j → m < bl f a n i := by
  induction k using Nat.strongRecOn with
  | ind k ih =>
    by_cases r : ∃ i, i < k ∧ bl f a n i ≤ m
    · obtain ⟨i, hi, hb⟩ := r
      obtain ⟨j, hj, e, l⟩ := ih i hi hb
      exact ⟨j, by omega, e, l⟩
    · have l : ∀ i, i < k → m < bl f a n i := fun i hi => Int.not_le.mp (fun q => r ⟨i, hi, q⟩)
      refine ⟨k, Nat.le_refl k, ?_, l⟩
      cases k with
      | zero => rw [bl_0] at h ⊢; omega
      | succ k =>
        have := l k (Nat.lt_succ_self k)
        rw [bl_s] at h ⊢
        omega
/-- at each place within, a term begins, and ends within -/
theorem fo_sub {f : Nat → Int32} {a : Nat} {n : Int} {k : Nat} (h : fo f a n k) {i : Nat} (hi : i < k) : ∃ j, 0 < j ∧ fo f (a + i) 1 j ∧ i + j ≤ k := by
  have hL := h.2 i hi
  obtain ⟨L, hLe⟩ : ∃ L, L = bl f a n i := ⟨_, rfl⟩
  rw [← hLe] at hL
  have e1 := bl_add f a n i (k - i)
  rw [show i + (k - i) = k by omega, h.1, ← hLe] at e1
  have e2 := bl_lin f (a + i) 1 (L - 1) (k - i)
  rw [show (1 : Int) + (L - 1) = L by omega] at e2
  obtain ⟨j, hj, e, l⟩ := bl_first f (a + i) 1 0 (by omega) (k - i) (by omega)
  have hfo : fo f (a + i) 1 j := ⟨e, l⟩
  exact ⟨j, fo_pos hfo (by omega), hfo, by omega⟩
/-- the first of some terms, and the others -/
theorem fo_split {f : Nat → Int32} {a : Nat} {n : Int} {k : Nat} (h : fo f a (n + 1) k) (hn : 0 ≤ n) : ∃ j, 0 < j ∧ j ≤ k ∧ fo f a 1 j ∧ fo f (a + j) n (k - j) := by
  have hk := fo_pos h (by omega)
  obtain ⟨j, hj0, hj, hle⟩ := fo_sub h hk
  rw [Nat.add_zero] at hj
  refine ⟨j, hj0, by omega, hj, ?_⟩
  have e0 : bl f a (n + 1) j = n := by
    have := bl_lin f a 1 n j
    rw [show (1 : Int) + n = n + 1 by omega, hj.1] at this
    omega
  have e1 : ∀ t, bl f a (n + 1) (j + t) = bl f (a + j) n t := fun t => by rw [bl_add, e0]
  refine ⟨?_, fun t ht => ?_⟩
  · rw [← e1, show j + (k - j) = k by omega]; exact h.1
  · rw [← e1]; exact h.2 _ (by omega)
theorem fo_join {f : Nat → Int32} {a : Nat} {n m : Int} {k l : Nat} (h : fo f a n k) (h' : fo f (a + k) m l) (hm : 0 ≤ m) : fo f a (n + m) (k + l) := by
  have e0 : bl f a (n + m) k = m := by rw [bl_lin, h.1]; omega
  refine ⟨by rw [bl_add, e0]; exact h'.1, fun j hj => ?_⟩
  rcases Nat.lt_or_ge j k with q | q
  · rw [bl_lin]; have := h.2 j q; omega
  · rw [show j = k + (j - k) by omega, bl_add, e0]; exact h'.2 _ (by omega)
theorem fo_node {f : Nat → Int32} {a k : Nat} (h : fo f (a + 1) (pcs (f a)) k) : fo f a 1 (k + 1) := by
  have e0 : bl f a 1 1 = (pcs (f a) : Int) := by
    rw [show (1 : Nat) = 0 + 1 from rfl, bl_s, bl_0, Nat.add_zero]; omega
  refine ⟨by rw [Nat.add_comm k 1, bl_add, e0]; exact h.1, fun j hj => ?_⟩
  rcases Nat.eq_zero_or_pos j with q | q
  · rw [q, bl_0]; omega
  · rw [show j = 1 + (j - 1) by omega, bl_add, e0]; exact h.2 _ (by omega)
theorem fo_unnode {f : Nat → Int32} {a k : Nat} (h : fo f a 1 (k + 1)) : fo f (a + 1) (pcs (f a)) k := by
  have e0 : bl f a 1 1 = (pcs (f a) : Int) := by
    rw [show (1 : Nat) = 0 + 1 from rfl, bl_s, bl_0, Nat.add_zero]; omega
  refine ⟨by have := h.1; rw [Nat.add_comm k 1, bl_add, e0] at this; exact this, fun j hj => ?_⟩
  have := h.2 (1 + j) (by omega)
  rw [bl_add, e0] at this
  exact this
