/-! ===== steps of 'readsTerm' ===== -/
theorem rt_fo {f g : Nat → Int32} {t mt mt' : Int32} {n : Int} (h : fo f t.toNatClampNeg n (mt.toInt - t.toInt).toNat) (hb : ∀ i : Nat, i < mt.toNatClampNeg → g i = f i) (hn : fo g mt.toNatClampNeg 1 (mt'.toInt - mt.toInt).toNat) (h0 : 0 ≤ t.toInt) (h1 : t.toInt ≤ mt.toInt) (h2 : mt.toInt ≤ mt'.toInt) : fo g t.toNatClampNeg (n + 1) (mt'.toInt - t.toInt).toNat := by
  have c1 := cl_nat (x := t)
  have c2 := cl_nat (x := mt)
  have q1 : fo g t.toNatClampNeg n (mt.toInt - t.toInt).toNat := fo_congr (fun i hi => (hb _ (by omega)).symm) h
  have q2 : fo g (t.toNatClampNeg + (mt.toInt - t.toInt).toNat) 1 (mt'.toInt - mt.toInt).toNat := by
    rw [show t.toNatClampNeg + (mt.toInt - t.toInt).toNat = mt.toNatClampNeg by omega]; exact hn
  have q3 := fo_append q1 q2
  rw [show (mt.toInt - t.toInt).toNat + (mt'.toInt - mt.toInt).toNat = (mt'.toInt - t.toInt).toNat by omega] at q3
  exact q3
theorem rt_ok {Pk : Int32 → Prop} {f g : Nat → Int32} {t mt mt' : Int32} (h : okr Pk f t.toNatClampNeg (mt.toInt - t.toInt).toNat) (hb : ∀ i : Nat, i < mt.toNatClampNeg → g i = f i) (hn : okr Pk g mt.toNatClampNeg (mt'.toInt - mt.toInt).toNat) (h0 : 0 ≤ t.toInt) (h1 : t.toInt ≤ mt.toInt) (h2 : mt.toInt ≤ mt'.toInt) : okr Pk g t.toNatClampNeg (mt'.toInt - t.toInt).toNat := by
  have c1 := cl_nat (x := t)
  have c2 := cl_nat (x := mt)
  have q1 : okr Pk g t.toNatClampNeg (mt.toInt - t.toInt).toNat := okr_congr (fun i hi => (hb _ (by omega)).symm) h
  have q2 : okr Pk g (t.toNatClampNeg + (mt.toInt - t.toInt).toNat) (mt'.toInt - mt.toInt).toNat := by
    rw [show t.toNatClampNeg + (mt.toInt - t.toInt).toNat = mt.toNatClampNeg by omega]; exact hn
  have q3 := okr_join q1 q2
  rw [show (mt.toInt - t.toInt).toNat + (mt'.toInt - mt.toInt).toNat = (mt'.toInt - t.toInt).toNat by omega] at q3
  exact q3
theorem leaf1 {Pk : Int32 → Prop} {f g : Nat → Int32} {t mt c : Int32} {P : Prop} (hg : g = upd f t.toNatClampNeg c) (hm : mt.toInt = t.toInt + 1) (hc : (0 ≤ c.toInt ∧ c.toInt ≤ 4 ∧ pcs c = 0) ∨ (512 ≤ c.toInt ∧ c.toInt ≤ 5631 ∧ pcs c = 0)) (hPk : Pk c) (hp : P) : fo g t.toNatClampNeg 1 (mt.toInt - t.toInt).toNat ∧ okr Pk g t.toNatClampNeg (mt.toInt - t.toInt).toNat ∧ P := by
  have e : g t.toNatClampNeg = c := by rw [hg]; unfold upd; rw [if_pos rfl]
  rw [show (mt.toInt - t.toInt).toNat = 1 by omega]
  rcases hc with ⟨a, b, q⟩ | ⟨a, b, q⟩
  · exact ⟨fo_leaf (by rw [e]; exact q), okr_one (by rw [e]; exact ⟨Or.inl ⟨a, b⟩, hPk⟩), hp⟩
  · exact ⟨fo_leaf (by rw [e]; exact q), okr_one (by rw [e]; exact ⟨Or.inr ⟨a, b⟩, hPk⟩), hp⟩
