/-! ===== steps of 'stands': a head, a part copied, the row moved down ===== -/
theorem z32 : (0 : Int32).toInt = 0 := rfl
theorem z32n : (0 : Int32).toNatClampNeg = 0 := rfl
theorem sm_0 (w : Nat → Nat) : sm w 0 = 0 := rfl
theorem hd250 {Pk : Int32 → Prop} {f g : Nat → Int32} {t mt c op n : Int32} {w : Nat → Nat} (hg : g = upd f t.toNatClampNeg c) (hm : mt.toInt = t.toInt + 1) (hc : c.toInt = 512 * (op.toInt + 1) + n.toInt) (ho : 0 ≤ op.toInt ∧ op.toInt ≤ 9) (hn : 0 ≤ n.toInt ∧ n.toInt ≤ 511) (h0 : 0 ≤ t.toInt) (hPk : Pk c) :
    ∃ h9 : Nat, h9 ≤ 1 ∧ fo g (t.toNatClampNeg + h9) (0 : Int32).toInt (mt.toInt - t.toInt - h9).toNat ∧ okr Pk g t.toNatClampNeg (mt.toInt - t.toInt).toNat ∧ mt.toInt = t.toInt + h9 + sm w (0 : Int32).toNatClampNeg ∧ (h9 = 1 → pcs (g t.toNatClampNeg) = n.toNatClampNeg) ∧ (h9 = 0 → n.toInt = 1) := by
  have e : g t.toNatClampNeg = c := by rw [hg]; unfold upd; rw [if_pos rfl]
  have hn9 := cl_nat (x := n)
  refine ⟨1, Nat.le_refl 1, ?_, ?_, ?_, fun _ => ?_, fun q => absurd q (by decide)⟩
  · rw [show (mt.toInt - t.toInt - (1 : Nat)).toNat = 0 by omega, z32]; exact fo_zero _ _
  · rw [show (mt.toInt - t.toInt).toNat = 1 by omega]; refine okr_one ?_; rw [e]; exact ⟨Or.inr ⟨by omega, by omega⟩, hPk⟩
  · rw [z32n, sm_0]; omega
  · rw [e]; unfold pcs; rw [if_neg (by omega)]; omega
theorem nh250 {Pk : Int32 → Prop} {g : Nat → Int32} {t mt n : Int32} {w : Nat → Nat} (hm : mt.toInt = t.toInt) (hn : n.toInt = 1) :
    ∃ h9 : Nat, h9 ≤ 1 ∧ fo g (t.toNatClampNeg + h9) (0 : Int32).toInt (mt.toInt - t.toInt - h9).toNat ∧ okr Pk g t.toNatClampNeg (mt.toInt - t.toInt).toNat ∧ mt.toInt = t.toInt + h9 + sm w (0 : Int32).toNatClampNeg ∧ (h9 = 1 → pcs (g t.toNatClampNeg) = n.toNatClampNeg) ∧ (h9 = 0 → n.toInt = 1) := by
  refine ⟨0, Nat.zero_le 1, ?_, ?_, ?_, fun q => absurd q (by decide), fun _ => hn⟩
  · rw [show (mt.toInt - t.toInt - (0 : Nat)).toNat = 0 by omega, z32]; exact fo_zero _ _
  · rw [show (mt.toInt - t.toInt).toNat = 0 by omega]; exact okr_zero _ _
  · rw [z32n, sm_0]; omega
theorem st250 {Pk : Int32 → Prop} {g g' : Nat → Int32} {t mt mt' v n x5 x5' : Int32} {w : Nat → Nat} {h kv : Nat} (hb : h ≤ 1) (hc : fo g (t.toNatClampNeg + h) x5.toInt (mt.toInt - t.toInt - h).toNat) (hd : okr Pk g t.toNatClampNeg (mt.toInt - t.toInt).toNat) (he : mt.toInt = t.toInt + h + sm w x5.toNatClampNeg) (hf : h = 1 → pcs (g t.toNatClampNeg) = n.toNatClampNeg) (hg : h = 0 → n.toInt = 1)
    (hk : fo g v.toNatClampNeg 1 kv) (ho : okr Pk g v.toNatClampNeg kv) (hcb : ∀ i : Nat, i < mt.toNatClampNeg → g' i = g i) (hcc : ∀ i : Nat, i < kv → g' (mt.toNatClampNeg + i) = g (v.toNatClampNeg + i)) (hm : mt'.toInt = mt.toInt + kv) (hw : w x5.toNatClampNeg = kv) (hx : x5'.toInt = x5.toInt + 1) (h0 : 0 ≤ t.toInt) (hx0 : 0 ≤ x5.toInt) :
    ∃ h9 : Nat, h9 ≤ 1 ∧ fo g' (t.toNatClampNeg + h9) x5'.toInt (mt'.toInt - t.toInt - h9).toNat ∧ okr Pk g' t.toNatClampNeg (mt'.toInt - t.toInt).toNat ∧ mt'.toInt = t.toInt + h9 + sm w x5'.toNatClampNeg ∧ (h9 = 1 → pcs (g' t.toNatClampNeg) = n.toNatClampNeg) ∧ (h9 = 0 → n.toInt = 1) := by
  have ht := cl_nat (x := t)
  have hmt := cl_nat (x := mt)
  have hx5 := cl_nat (x := x5)
  have hx6 := cl_nat (x := x5')
  refine ⟨h, hb, ?_, ?_, ?_, fun q => ?_, hg⟩
  · have q1 : fo g' (t.toNatClampNeg + h) x5.toInt (mt.toInt - t.toInt - h).toNat := fo_congr (fun i hi => (hcb _ (by omega)).symm) hc
    have q2 : fo g' (t.toNatClampNeg + h + (mt.toInt - t.toInt - h).toNat) 1 kv := by
      rw [show t.toNatClampNeg + h + (mt.toInt - t.toInt - h).toNat = mt.toNatClampNeg by omega]
      exact fo_congr (fun i hi => (hcc i hi).symm) hk
    have q3 := fo_join q1 q2 (by omega)
    rw [hx, show (mt'.toInt - t.toInt - h).toNat = (mt.toInt - t.toInt - h).toNat + kv by omega]
    exact q3
  · have q1 : okr Pk g' t.toNatClampNeg (mt.toInt - t.toInt).toNat := okr_congr (fun i hi => (hcb _ (by omega)).symm) hd
    have q2 : okr Pk g' (t.toNatClampNeg + (mt.toInt - t.toInt).toNat) kv := by
      rw [show t.toNatClampNeg + (mt.toInt - t.toInt).toNat = mt.toNatClampNeg by omega]
      exact okr_congr (fun i hi => (hcc i hi).symm) ho
    rw [show (mt'.toInt - t.toInt).toNat = (mt.toInt - t.toInt).toNat + kv by omega]
    exact okr_join q1 q2
  · rw [show x5'.toNatClampNeg = x5.toNatClampNeg + 1 by omega, sm_s, hw]; omega
  · rw [hcb _ (by omega)]; exact hf q
theorem en250 {Pk : Int32 → Prop} {g : Nat → Int32} {t mt n x5 : Int32} {w : Nat → Nat} {L : Nat} (h : ∃ h9 : Nat, h9 ≤ 1 ∧ fo g (t.toNatClampNeg + h9) x5.toInt (mt.toInt - t.toInt - h9).toNat ∧ okr Pk g t.toNatClampNeg (mt.toInt - t.toInt).toNat ∧ mt.toInt = t.toInt + h9 + sm w x5.toNatClampNeg ∧ (h9 = 1 → pcs (g t.toNatClampNeg) = n.toNatClampNeg) ∧ (h9 = 0 → n.toInt = 1))
    (hx : x5.toInt = n.toInt) (h0 : 0 ≤ x5.toInt) (hs : sm w n.toNatClampNeg ≤ L) : ∃ k9 : Nat, fo g t.toNatClampNeg 1 k9 ∧ okr Pk g t.toNatClampNeg k9 ∧ mt.toInt = t.toInt + k9 ∧ k9 ≤ L + 1 := by
  obtain ⟨h9, hb, hc, hd, he, hf, hg⟩ := h
  have hn := cl_nat (x := n)
  have hx5 := cl_nat (x := x5)
  have e5 : x5.toNatClampNeg = n.toNatClampNeg := by omega
  rw [e5] at he
  refine ⟨(mt.toInt - t.toInt).toNat, ?_, hd, by omega, by omega⟩
  rcases Nat.lt_or_ge h9 1 with q | q
  · have q0 : h9 = 0 := by omega
    subst q0
    have q1 := hg rfl
    rw [hx, q1, show (mt.toInt - t.toInt - (0 : Nat)).toNat = (mt.toInt - t.toInt).toNat by omega] at hc
    exact hc
  · have q0 : h9 = 1 := by omega
    subst q0
    have q1 := hf rfl
    rw [show x5.toInt = ((n.toNatClampNeg : Nat) : Int) by omega, ← q1] at hc
    have q2 := fo_node hc
    rw [show (mt.toInt - t.toInt - (1 : Nat)).toNat + 1 = (mt.toInt - t.toInt).toNat by omega] at q2
    exact q2
theorem un275 {Pk : Int32 → Prop} {f g : Nat → Int32} {t mt c : Int32} {u : Int} {L : Nat} (hg : g = upd f t.toNatClampNeg c) (hm : mt.toInt = t.toInt + 1) (hc : c.toInt = 512 * (u + 1)) (hu : -1 ≤ u ∧ u ≤ 9) (hPk : Pk c) : ∃ k9 : Nat, fo g t.toNatClampNeg 1 k9 ∧ okr Pk g t.toNatClampNeg k9 ∧ mt.toInt = t.toInt + k9 ∧ k9 ≤ L + 1 := by
  have e : g t.toNatClampNeg = c := by rw [hg]; unfold upd; rw [if_pos rfl]
  have hok : okc Pk c := by
    by_cases q : u = -1
    · exact ⟨Or.inl ⟨by omega, by omega⟩, hPk⟩
    · exact ⟨Or.inr ⟨by omega, by omega⟩, hPk⟩
  refine ⟨1, fo_leaf ?_, okr_one (by rw [e]; exact hok), by omega, by omega⟩
  rw [e]; unfold pcs
  split
  · rfl
  · omega
theorem mv287a {f g P : Nat → Int32} {a b k k' ia ib : Nat} {y : Int32} (hi : ∀ i : Nat, i < k → f (a + i) = P (b + i)) (hj : ∀ j : Nat, a + k ≤ j → f j = P j) (hg : g = upd f ia y) (hy : y = f ib) (e1 : ia = a + k) (e2 : ib = b + k) (e3 : k' = k + 1) (hab : a ≤ b) : ∀ i : Nat, i < k' → g (a + i) = P (b + i) := by
  intro i hik
  rw [hg]
  unfold upd
  by_cases q : i = k
  · rw [if_pos (by omega), hy, e2, q]; exact hj _ (by omega)
  · rw [if_neg (by omega)]; exact hi i (by omega)
theorem mv287b {f g P : Nat → Int32} {a k k' ia : Nat} {y : Int32} (hj : ∀ j : Nat, a + k ≤ j → f j = P j) (hg : g = upd f ia y) (e1 : ia = a + k) (e3 : k' = k + 1) : ∀ j : Nat, a + k' ≤ j → g j = P j := by
  intro j h
  rw [hg]
  unfold upd
  rw [if_neg (by omega)]
  exact hj j (by omega)
