/-! ===== terms filled: which rows of what was found must be terms ===== -/
def fvok (Pk : Int32 → Prop) (p f : Nat → Int32) (a k m : Nat) : Prop := ∀ i : Nat, i < k → (p (a + i)).toInt < 512 → krow Pk f (5 * m + (p (a + i)).toNatClampNeg)
theorem fvok_sub {Pk : Int32 → Prop} {p f : Nat → Int32} {a k m i j : Nat} (h : fvok Pk p f a k m) (hij : i + j ≤ k) : fvok Pk p f (a + i) j m := fun q hq hc => by
  rw [Nat.add_assoc] at hc ⊢
  exact h (i + q) (by omega) hc
theorem fvok_congr {Pk : Int32 → Prop} {p p' f : Nat → Int32} {a k m : Nat} (h : ∀ i : Nat, i < k → p' (a + i) = p (a + i)) (hv : fvok Pk p f a k m) : fvok Pk p' f a k m := fun i hi hc => by
  rw [h i hi] at hc ⊢
  exact hv i hi hc
/-- one more, behind those that lie from t on -/
theorem fl_fo {f g : Nat → Int32} {t mt mt' : Int32} {n : Int} {l : Nat} (h : fo f t.toNatClampNeg n (mt.toInt - t.toInt).toNat) (hb : ∀ i : Nat, i < mt.toNatClampNeg → g i = f i) (hn : fo g mt.toNatClampNeg 1 l) (hm : mt'.toInt = mt.toInt + l) (h0 : 0 ≤ t.toInt) (h1 : t.toInt ≤ mt.toInt) : fo g t.toNatClampNeg (n + 1) (mt'.toInt - t.toInt).toNat :=
  rt_fo h hb (by rw [show (mt'.toInt - mt.toInt).toNat = l by omega]; exact hn) h0 h1 (by omega)
theorem fl_ok {Pk : Int32 → Prop} {f g : Nat → Int32} {t mt mt' : Int32} {l : Nat} (h : okr Pk f t.toNatClampNeg (mt.toInt - t.toInt).toNat) (hb : ∀ i : Nat, i < mt.toNatClampNeg → g i = f i) (hn : okr Pk g mt.toNatClampNeg l) (hm : mt'.toInt = mt.toInt + l) (h0 : 0 ≤ t.toInt) (h1 : t.toInt ≤ mt.toInt) : okr Pk g t.toNatClampNeg (mt'.toInt - t.toInt).toNat :=
  rt_ok h hb (by rw [show (mt'.toInt - mt.toInt).toNat = l by omega]; exact hn) h0 h1 (by omega)
theorem fl_leaf {Pk : Int32 → Prop} {f g : Nat → Int32} {t mt y : Int32} {a kk : Nat} (hkk : fo f a 1 kk) (hg : g = upd f t.toNatClampNeg y) (hm : mt.toInt = t.toInt + 1) (hc : okc Pk y) (hp : pcs y = 0) (hk : 1 ≤ kk) : ∃ l k : Nat, fo f a 1 k ∧ fo g t.toNatClampNeg 1 l ∧ okr Pk g t.toNatClampNeg l ∧ mt.toInt = t.toInt + l ∧ l ≤ 21 * k := by
  have e : g t.toNatClampNeg = y := by rw [hg]; unfold upd; rw [if_pos rfl]
  exact ⟨1, kk, hkk, fo_leaf (by rw [e]; exact hp), okr_one (by rw [e]; exact hc), by omega, by omega⟩
theorem pcs_ge {c : Int32} (h : ¬ (pcs c : Int) = 0) : 512 ≤ c.toInt := by
  unfold pcs at h
  split at h
  · exact absurd rfl h
  · omega
