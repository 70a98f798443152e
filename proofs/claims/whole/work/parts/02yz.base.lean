/-! ===== terms that were read, rows of rules ===== -/
theorem tm0 {Pk : Int32 → Prop} {f : Nat → Int32} {t mt a b : Int32} (ht : t = 0) (h : fo f t.toNatClampNeg 1 (mt.toInt - t.toInt).toNat ∧ okr Pk f t.toNatClampNeg (mt.toInt - t.toInt).toNat ∧ a.toInt < b.toInt) (hm : t.toInt ≤ mt.toInt) : ∃ k : Nat, fo f (0 : Int32).toNatClampNeg 1 k ∧ okr Pk f (0 : Int32).toNatClampNeg k ∧ mt.toInt = k := by
  subst ht
  exact ⟨_, h.1, h.2.1, by have := z32; omega⟩
def krul (Pk : Int32 → Prop) (f : Nat → Int32) (n : Nat) : Prop := ∀ r : Nat, r < n → (krow Pk f (30 + 2 * r) ∧ krow Pk f (31 + 2 * r)) ∧ 512 ≤ (f (21 * (30 + 2 * r))).toInt
theorem krul_congr {Pk : Int32 → Prop} {f g : Nat → Int32} {n : Nat} (h : ∀ j : Nat, 630 ≤ j → g j = f j) (hk : krul Pk f n) : krul Pk g n := fun r hr =>
  ⟨⟨krow_congr (fun j h1 _ => h j (by omega)) (hk r hr).1.1, krow_congr (fun j h1 _ => h j (by omega)) (hk r hr).1.2⟩, by rw [h _ (by omega)]; exact (hk r hr).2⟩
/-- two rows more -/
theorem krul_new {Pk : Int32 → Prop} {f g1 g2 p : Nat → Int32} {n n' a b k l : Nat} (hk : krul Pk f n) (h1 : fo p a 1 k) (h2 : k ≤ 20) (h3 : okr Pk p a k) (h4 : 512 ≤ (p a).toInt) (k1 : fo p b 1 l) (k2 : l ≤ 20) (k3 : okr Pk p b l)
    (h : ∀ i : Nat, i < k → g1 (21 * (30 + 2 * n) + i) = p (a + i)) (ho : ∀ j : Nat, (j < 21 * (30 + 2 * n) ∨ 21 * (30 + 2 * n) + 21 ≤ j) → g1 j = f j)
    (h' : ∀ i : Nat, i < l → g2 (21 * (31 + 2 * n) + i) = p (b + i)) (ho' : ∀ j : Nat, (j < 21 * (31 + 2 * n) ∨ 21 * (31 + 2 * n) + 21 ≤ j) → g2 j = g1 j) (hn : n' = n + 1) : krul Pk g2 n' := by
  intro r hr
  by_cases q : r = n
  · subst q
    refine ⟨⟨krow_congr (f := g1) (fun j _ hj2 => ho' j (Or.inl (by omega))) (krow_of h1 h2 h3 h), krow_of k1 k2 k3 h'⟩, ?_⟩
    have e0 := h 0 (fo_pos h1 (by omega))
    rw [Nat.add_zero, Nat.add_zero] at e0
    rw [ho' _ (Or.inl (by omega)), e0]
    exact h4
  · have hr' := hk r (by omega)
    refine ⟨⟨krow_congr (fun j _ hj2 => (ho' j (Or.inl (by omega))).trans (ho j (Or.inl (by omega)))) hr'.1.1, krow_congr (fun j _ hj2 => (ho' j (Or.inl (by omega))).trans (ho j (Or.inl (by omega)))) hr'.1.2⟩, ?_⟩
    rw [ho' _ (Or.inl (by omega)), ho _ (Or.inl (by omega))]
    exact hr'.2
theorem krow_low {Pk : Int32 → Prop} {f g1 g2 : Nat → Int32} {n : Nat} {m : Nat} (hk : ∀ t : Nat, t < m → krow Pk f t) (hm : m ≤ 30) (ho : ∀ j : Nat, (j < 21 * (30 + 2 * n) ∨ 21 * (30 + 2 * n) + 21 ≤ j) → g1 j = f j) (ho' : ∀ j : Nat, (j < 21 * (31 + 2 * n) ∨ 21 * (31 + 2 * n) + 21 ≤ j) → g2 j = g1 j) : ∀ t : Nat, t < m → krow Pk g2 t := fun t ht =>
  krow_congr (fun j _ hj2 => (ho' j (Or.inl (by omega))).trans (ho j (Or.inl (by omega)))) (hk t ht)
