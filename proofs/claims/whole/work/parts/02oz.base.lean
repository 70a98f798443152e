/-! ===== codes that may stand, lengths, sums ===== -/
def okc (Pk : Int32 → Prop) (c : Int32) : Prop := ((0 ≤ c.toInt ∧ c.toInt ≤ 4) ∨ (512 ≤ c.toInt ∧ c.toInt ≤ 5631)) ∧ Pk c
def okr (Pk : Int32 → Prop) (f : Nat → Int32) (a k : Nat) : Prop := ∀ i : Nat, i < k → okc Pk (f (a + i))
theorem okr_congr {Pk : Int32 → Prop} {f g : Nat → Int32} {a b k : Nat} (h : ∀ i, i < k → f (a + i) = g (b + i)) (hf : okr Pk f a k) : okr Pk g b k := fun i hi => h i hi ▸ hf i hi
theorem okr_sub {Pk : Int32 → Prop} {f : Nat → Int32} {a k i j : Nat} (h : okr Pk f a k) (hij : i + j ≤ k) : okr Pk f (a + i) j := fun q hq => by rw [Nat.add_assoc]; exact h (i + q) (by omega)
theorem okr_le {Pk : Int32 → Prop} {f : Nat → Int32} {a k j : Nat} (h : okr Pk f a k) (hj : j ≤ k) : okr Pk f a j := fun q hq => h q (by omega)
theorem okr_join {Pk : Int32 → Prop} {f : Nat → Int32} {a k l : Nat} (h : okr Pk f a k) (h' : okr Pk f (a + k) l) : okr Pk f a (k + l) := fun i hi => by
  rcases Nat.lt_or_ge i k with q | q
  · exact h i q
  · have := h' (i - k) (by omega)
    rw [show a + k + (i - k) = a + i by omega] at this
    exact this
theorem okr_zero {Pk : Int32 → Prop} (f : Nat → Int32) (a : Nat) : okr Pk f a 0 := fun i hi => absurd hi (Nat.not_lt_zero i)
theorem okr_one {Pk : Int32 → Prop} {f : Nat → Int32} {a : Nat} (h : okc Pk (f a)) : okr Pk f a 1 := fun i hi => by
  rw [show a + i = a by omega]; exact h
theorem okr_cons {Pk : Int32 → Prop} {f : Nat → Int32} {a k : Nat} (h : okc Pk (f a)) (h' : okr Pk f (a + 1) k) : okr Pk f a (k + 1) := by
  have := okr_join (okr_one h) h'
  rw [Nat.add_comm 1 k] at this
  exact this
/-- the operator of a code that may stand -/
theorem okc_op {Pk : Int32 → Prop} {c : Int32} (h : okc Pk c) : -1 ≤ c.toInt / 512 - 1 ∧ c.toInt / 512 - 1 ≤ 9 ∧ 0 ≤ c.toInt ∧ (512 ≤ c.toInt → 0 ≤ c.toInt / 512 - 1) := by
  rcases h.1 with ⟨h1, h2⟩ | ⟨h1, h2⟩ <;> refine ⟨by omega, by omega, by omega, fun _ => by omega⟩
theorem okc_var {Pk : Int32 → Prop} {c : Int32} (h : okc Pk c) (hc : c.toInt < 512) : 0 ≤ c.toInt ∧ c.toInt ≤ 4 := by
  rcases h.1 with ⟨h1, h2⟩ | ⟨h1, h2⟩
  · exact ⟨h1, h2⟩
  · exfalso; omega
/-- one term at a place -/
theorem fo_leaf {f : Nat → Int32} {a : Nat} (h : pcs (f a) = 0) : fo f a 1 1 := by
  refine fo_node (k := 0) ?_
  rw [h]
  exact fo_zero f (a + 1)
theorem fo_append {f : Nat → Int32} {a k l : Nat} {n : Int} (h : fo f a n k) (h' : fo f (a + k) 1 l) : fo f a (n + 1) (k + l) := fo_join h h' (by omega)
theorem fo_nonneg {f : Nat → Int32} {a k : Nat} {n : Int} (h : fo f a n k) : 0 ≤ n := by
  rcases Nat.eq_zero_or_pos k with q | q
  · have := h.1; rw [q, bl_0] at this; omega
  · have := h.2 0 q; rw [bl_0] at this; omega
theorem fo_le {f : Nat → Int32} {a k : Nat} {n : Int} (h : fo f a n k) : n ≤ (k : Int) := by
  have key : ∀ j : Nat, n - (j : Int) ≤ bl f a n j := by
    intro j
    induction j with
    | zero => rw [bl_0]; omega
    | succ j ih => rw [bl_s]; omega
  have := key k
  rw [h.1] at this
  omega
/-- how long what stands at a place is -/
noncomputable def ln (f : Nat → Int32) (a : Nat) : Nat := @dite _ (∃ k : Nat, fo f a 1 k) (Classical.propDecidable _) (fun h => Classical.choose h) (fun _ => 0)
theorem ln_eq {f : Nat → Int32} {a k : Nat} (h : fo f a 1 k) : ln f a = k := by
  have hex : ∃ k : Nat, fo f a 1 k := ⟨k, h⟩
  unfold ln
  rw [dif_pos hex]
  exact fo_uniq (Classical.choose_spec hex) h
/-- sums -/
def sm (w : Nat → Nat) : Nat → Nat
  | 0 => 0
  | n + 1 => sm w n + w n
theorem sm_s (w : Nat → Nat) (n : Nat) : sm w (n + 1) = sm w n + w n := rfl
theorem sm_congr {w v : Nat → Nat} {n : Nat} (h : ∀ i, i < n → w i = v i) : sm w n = sm v n := by
  induction n with
  | zero => rfl
  | succ n ih => rw [sm_s, sm_s, ih (fun i hi => h i (by omega)), h n (by omega)]
theorem sm_upd {g : Int32 → Nat} {f : Nat → Int32} {v : Int32} {i n : Nat} (hi : i < n) : sm (fun j => g (upd f i v j)) n + g (f i) = sm (fun j => g (f j)) n + g v := by
  induction n with
  | zero => exact absurd hi (Nat.not_lt_zero i)
  | succ n ih =>
    rw [sm_s, sm_s]
    rcases Nat.lt_or_ge i n with q | q
    · have := ih q
      have e : upd f i v n = f n := by unfold upd; rw [if_neg (by omega)]
      rw [e]
      omega
    · have e0 : i = n := by omega
      subst e0
      have e : upd f i v i = v := by unfold upd; rw [if_pos rfl]
      have e2 : sm (fun j => g (upd f i v j)) i = sm (fun j => g (f j)) i := sm_congr (fun j hj => by unfold upd; rw [if_neg (by omega)])
      rw [e, e2]
      omega
theorem sm_ge {w : Nat → Nat} {n : Nat} (h : ∀ i, i < n → 0 < w i) : n ≤ sm w n := by
  induction n with
  | zero => exact Nat.zero_le _
  | succ n ih =>
    have := ih (fun i hi => h i (by omega))
    have := h n (by omega)
    rw [sm_s]
    omega
theorem sm_mono {w : Nat → Nat} {m n : Nat} (h : m ≤ n) : sm w m ≤ sm w n := by
  induction n with
  | zero => have : m = 0 := by omega
            rw [this]; exact Nat.le_refl _
  | succ n ih =>
    rcases Nat.lt_or_ge m (n + 1) with q | q
    · have := ih (by omega)
      rw [sm_s]
      omega
    · have : m = n + 1 := by omega
      rw [this]; exact Nat.le_refl _
/-- a place in the pool where a term stands, all of it below a bound -/
def gsp (f : Nat → Int32) (lo hi : Int) (v : Int32) : Prop := lo ≤ v.toInt ∧ ∃ k : Nat, fo f v.toNatClampNeg 1 k ∧ v.toInt + k ≤ hi
/-- the first of the terms from a place on -/
theorem fo_first {f : Nat → Int32} {a k : Nat} {n : Int} (h : fo f a n k) (hk : 0 < k) : ∃ j : Nat, 0 < j ∧ j ≤ k ∧ fo f a 1 j ∧ fo f (a + j) (n - 1) (k - j) := by
  have h0 := h.2 0 hk
  rw [bl_0] at h0
  have h' : fo f a (n - 1 + 1) k := by rw [show n - 1 + 1 = n by omega]; exact h
  exact fo_split h' (by omega)
/-- the parts behind a head -/
theorem fo_inner {f : Nat → Int32} {a k : Nat} (h : fo f a 1 k) : ∃ j : Nat, k = j + 1 ∧ fo f (a + 1) (pcs (f a)) j := by
  have := fo_pos h (by omega)
  obtain ⟨j, rfl⟩ : ∃ j, k = j + 1 := ⟨k - 1, by omega⟩
  exact ⟨j, rfl, fo_unnode h⟩
/-- a set of codes that holds what the tables of the operators ask: an operator that is known; two parts of one that does not mind order; units are not such -/
def clP (Pk : Int32 → Prop) (so un : Nat → Int32) (no : Int) : Prop := ((∀ c : Int32, 0 ≤ c.toInt → c.toInt ≤ 4 → Pk c) ∧ (∀ c : Int32, 512 ≤ c.toInt → c.toInt < 512 * (no + 1) → (so (c.toInt / 512 - 1).toNat = 1 → pcs c = 2) → Pk c)) ∧ (∀ c : Int32, Pk c → 512 ≤ c.toInt → c.toInt < 512 * (no + 1) ∧ (so (c.toInt / 512 - 1).toNat = 1 → pcs c = 2)) ∧ no ≤ 10 ∧ ∀ k : Nat, (k : Int) < no → (un k).toInt = -1 ∨ (0 ≤ (un k).toInt ∧ (un k).toInt < no ∧ ¬ so (un k).toNatClampNeg = 1)
theorem cl_hd {Pk : Int32 → Prop} {so un : Nat → Int32} {no : Int} {c op n : Int32} (h : clP Pk so un no) (hc : c.toInt = 512 * (op.toInt + 1) + n.toInt) (h0 : 0 ≤ op.toInt) (h1 : op.toInt < no) (hn : 0 ≤ n.toInt ∧ n.toInt ≤ 511) (h2 : so op.toNatClampNeg = 1 → n.toInt = 2) : Pk c := by
  have hop := cl_nat (x := op)
  refine h.1.2 c (by omega) (by omega) (fun q => ?_)
  rw [show (c.toInt / 512 - 1).toNat = op.toNatClampNeg by omega] at q
  have := h2 q
  unfold pcs; rw [if_neg (by omega)]; omega
theorem cl_un {Pk : Int32 → Prop} {so un : Nat → Int32} {no : Int} {c op u : Int32} (h : clP Pk so un no) (hc : c.toInt = 512 * (u.toInt + 1)) (hu : u = un op.toNatClampNeg) (h0 : 0 ≤ op.toInt) (h1 : op.toInt < no) : Pk c := by
  have hop := cl_nat (x := op)
  have huc := cl_nat (x := u)
  rcases h.2.2.2 op.toNatClampNeg (by omega) with q | ⟨q1, q2, q3⟩
  · rw [← hu] at q; exact h.1.1 c (by omega) (by omega)
  · rw [← hu] at q1 q2 q3
    refine h.1.2 c (by omega) (by omega) (fun q => ?_)
    rw [show (c.toInt / 512 - 1).toNat = u.toNatClampNeg by omega] at q
    exact absurd q q3
theorem cl_lf {Pk : Int32 → Prop} {so un : Nat → Int32} {no : Int} {c n : Int32} (h : clP Pk so un no) (hc : c.toInt = 512 * (n.toInt + 1)) (h0 : 0 ≤ n.toInt) (h1 : n.toInt < no) (h2 : ¬ so n.toNatClampNeg = 1) : Pk c := by
  have hop := cl_nat (x := n)
  refine h.1.2 c (by omega) (by omega) (fun q => ?_)
  rw [show (c.toInt / 512 - 1).toNat = n.toNatClampNeg by omega] at q
  exact absurd q h2
theorem cl_op {Pk : Int32 → Prop} {so un : Nat → Int32} {no : Int} {c r : Int32} (h : clP Pk so un no) (hc : okc Pk c) (h5 : 512 ≤ c.toInt) (hr : r.toInt = c.toInt / 512 - 1) : r.toInt < no ∧ (so r.toNatClampNeg = 1 → pcs c = 2) := by
  have hrc := cl_nat (x := r)
  obtain ⟨q1, q2⟩ := h.2.1 c hc.2 h5
  rw [show (c.toInt / 512 - 1).toNat = r.toNatClampNeg by omega] at q2
  exact ⟨by omega, q2⟩
theorem fo_nuniq {f : Nat → Int32} {a k : Nat} {n m : Int} (h : fo f a n k) (h' : fo f a m k) : n = m := by
  have e1 := bl_lin f a 0 n k
  have e2 := bl_lin f a 0 m k
  rw [Int.zero_add, h.1] at e1
  rw [Int.zero_add, h'.1] at e2
  omega
