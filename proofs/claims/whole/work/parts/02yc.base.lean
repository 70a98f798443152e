def hold (s : Int32) (v : Nat) : Prop := s.toBitVec.getLsbD v = true
theorem hold_or {x y z : Int32} (h : z = x ||| y) (v : Nat) : hold z v ↔ hold x v ∨ hold y v := by
  subst h; unfold hold; rw [Int32.toBitVec_or, BitVec.getLsbD_or, Bool.or_eq_true]
theorem hold_zero (v : Nat) : ¬ hold 0 v := by
  unfold hold; rw [show (0 : Int32).toBitVec = 0#32 from rfl, BitVec.getLsbD_zero]; decide
theorem c04 {c : Int32} (h0 : 0 ≤ c.toInt) (h1 : c.toInt ≤ 4) : c = 0 ∨ c = 1 ∨ c = 2 ∨ c = 3 ∨ c = 4 := by
  have e : ∀ k : Int32, c.toInt = k.toInt → c = k := fun k h => Int32.toInt_inj.mp h
  rcases (by omega : c.toInt = 0 ∨ c.toInt = 1 ∨ c.toInt = 2 ∨ c.toInt = 3 ∨ c.toInt = 4) with q | q | q | q | q
  · exact Or.inl (e 0 q)
  · exact Or.inr (Or.inl (e 1 q))
  · exact Or.inr (Or.inr (Or.inl (e 2 q)))
  · exact Or.inr (Or.inr (Or.inr (Or.inl (e 3 q))))
  · exact Or.inr (Or.inr (Or.inr (Or.inr (e 4 q))))
theorem hold_one (c : Int32) (h0 : 0 ≤ c.toInt) (h1 : c.toInt ≤ 4) {v : Nat} (hv : v < 5) : hold (1 <<< (c &&& 31)) v ↔ v = c.toNatClampNeg := by
  have key : ∀ v : Fin 5, ∀ k : Fin 5, ((1 <<< ((Int32.ofNat k.val) &&& 31) : Int32).toBitVec.getLsbD v.val = true ↔ v.val = (Int32.ofNat k.val).toNatClampNeg) := by decide
  unfold hold
  rcases c04 h0 h1 with q | q | q | q | q <;> subst q
  · exact key ⟨v, hv⟩ 0
  · exact key ⟨v, hv⟩ 1
  · exact key ⟨v, hv⟩ 2
  · exact key ⟨v, hv⟩ 3
  · exact key ⟨v, hv⟩ 4
theorem hold_bit {s : Int32} (n : Nat) (k : Int32) (hk : ∀ x : Int32, (x >>> (k &&& 31)).toBitVec = x.toBitVec.sshiftRight n) (hn : n < 32) : ((s >>> (k &&& 31)) &&& 1).toInt = 1 ↔ hold s n := by
  have e : ((s >>> (k &&& 31)) &&& 1).toBitVec = BitVec.setWidth 32 (BitVec.ofBool (s.toBitVec.getLsbD n)) := by
    show (s >>> (k &&& 31)).toBitVec &&& 1#32 = _
    rw [hk, BitVec.and_one_eq_setWidth_ofBool_getLsbD, BitVec.getLsbD_sshiftRight]
    simp [hn]
  have e2 : ((s >>> (k &&& 31)) &&& 1).toInt = (BitVec.setWidth 32 (BitVec.ofBool (s.toBitVec.getLsbD n))).toInt := by rw [← e]; rfl
  rw [e2]; unfold hold
  cases s.toBitVec.getLsbD n <;> decide
theorem hold_get {s k : Int32} (h0 : 0 ≤ k.toInt) (h1 : k.toInt ≤ 4) : ((s >>> (k &&& 31)) &&& 1).toInt = 1 ↔ hold s k.toNatClampNeg := by
  rcases c04 h0 h1 with q | q | q | q | q <;> subst q
  · exact hold_bit 0 0 (fun _ => rfl) (by decide)
  · exact hold_bit 1 1 (fun _ => rfl) (by decide)
  · exact hold_bit 2 2 (fun _ => rfl) (by decide)
  · exact hold_bit 3 3 (fun _ => rfl) (by decide)
  · exact hold_bit 4 4 (fun _ => rfl) (by decide)
theorem hold_sub {a b n z : Int32} (hn : n = b ^^^ (-1)) (hz : z = a &&& n) (h : z.toInt = 0) {v : Nat} (hv : v < 5) (ha : hold a v) : hold b v := by
  have hz0 : z = 0 := Int32.toInt_inj.mp h
  unfold hold at *
  have e : z.toBitVec.getLsbD v = false := by rw [hz0]; exact BitVec.getLsbD_zero
  rw [hz, Int32.toBitVec_and, BitVec.getLsbD_and, ha, hn, Int32.toBitVec_xor, BitVec.getLsbD_xor] at e
  have e1 : (-1 : Int32).toBitVec.getLsbD v = true := by
    have : ∀ v : Fin 5, (-1 : Int32).toBitVec.getLsbD v.val = true := by decide
    exact this ⟨v, hv⟩
  rw [e1] at e
  cases hq : b.toBitVec.getLsbD v
  · rw [hq] at e; exact absurd e (by decide)
  · rfl
def vocc (f : Nat → Int32) (a k v : Nat) : Prop := ∃ i : Nat, i < k ∧ (f (a + i)).toInt = v
theorem vocc_congr {f g : Nat → Int32} {a b k v : Nat} (h : ∀ i, i < k → f (a + i) = g (b + i)) (ho : vocc f a k v) : vocc g b k v := by
  obtain ⟨i, hi, e⟩ := ho; exact ⟨i, hi, by rw [← h i hi]; exact e⟩
theorem vs_0 {f : Nat → Int32} {a n : Nat} {x : Int32} (hx : x = 0) (hn : n = 0) : ∀ v : Nat, v < 5 → (hold x v ↔ vocc f a n v) := fun v _ => by
  subst hx; subst hn
  exact ⟨fun h => absurd h (hold_zero v), fun ⟨i, hi, _⟩ => absurd hi (Nat.not_lt_zero i)⟩
theorem vocc_s {f : Nat → Int32} {a n v : Nat} : vocc f a (n + 1) v ↔ vocc f a n v ∨ (f (a + n)).toInt = v := by
  constructor
  · rintro ⟨i, hi, e⟩
    rcases Nat.lt_or_ge i n with q | q
    · exact Or.inl ⟨i, q, e⟩
    · have : i = n := by omega
      subst this; exact Or.inr e
  · rintro (⟨i, hi, e⟩ | e)
    · exact ⟨i, by omega, e⟩
    · exact ⟨n, by omega, e⟩
theorem vs_no {f : Nat → Int32} {a n n' : Nat} {x c : Int32} (h : ∀ v : Nat, v < 5 → (hold x v ↔ vocc f a n v)) (hn : n' = n + 1) (hc : c = f (a + n)) (h5 : 512 ≤ c.toInt) : ∀ v : Nat, v < 5 → (hold x v ↔ vocc f a n' v) := fun v hv => by
  subst hn; rw [vocc_s, h v hv, ← hc]
  exact ⟨Or.inl, fun q => q.elim id (fun e => by omega)⟩
theorem vs_yes {f : Nat → Int32} {a n n' : Nat} {x c y z : Int32} (h : ∀ v : Nat, v < 5 → (hold x v ↔ vocc f a n v)) (hn : n' = n + 1) (hc : c = f (a + n)) (hy : y = 1 <<< (c &&& 31)) (hz : z = x ||| y) (h0 : 0 ≤ c.toInt ∧ c.toInt ≤ 4) : ∀ v : Nat, v < 5 → (hold z v ↔ vocc f a n' v) := fun v hv => by
  have hcl := cl_nat (x := c)
  subst hn; rw [vocc_s, hold_or hz v, h v hv, ← hc, hy, hold_one c h0.1 h0.2 hv]
  constructor <;> (rintro (q | q); exact Or.inl q; exact Or.inr (by omega))
def krv (f : Nat → Int32) (n : Nat) : Prop := ∀ r : Nat, r < n → ∀ v : Nat, v < 5 → ∀ l : Nat, l ≤ 20 → fo f (21 * (31 + 2 * r)) 1 l → vocc f (21 * (31 + 2 * r)) l v → ∃ k : Nat, k ≤ 20 ∧ fo f (21 * (30 + 2 * r)) 1 k ∧ vocc f (21 * (30 + 2 * r)) k v
theorem krv_zero (f : Nat → Int32) : krv f 0 := fun r hr => absurd hr (Nat.not_lt_zero r)
theorem krv_congr {f g : Nat → Int32} {n : Nat} (h : ∀ j : Nat, 630 ≤ j → g j = f j) (hk : krv f n) : krv g n := fun r hr v hv l hl h1 h2 => by
  obtain ⟨k, hk20, h3, h4⟩ := hk r hr v hv l hl (fo_congr (fun i _ => h _ (by omega)) h1) (vocc_congr (fun i _ => h _ (by omega)) h2)
  exact ⟨k, hk20, fo_congr (fun i _ => (h _ (by omega)).symm) h3, vocc_congr (fun i _ => (h _ (by omega)).symm) h4⟩
theorem krv_new {f g1 g2 p : Nat → Int32} {n n' a b k l : Nat} (hk : krv f n) (h1 : fo p a 1 k) (k1 : fo p b 1 l) (hk20 : k ≤ 20) (hl20 : l ≤ 20) (hcL : ∀ i : Nat, i < k → g1 (21 * (30 + 2 * n) + i) = p (a + i)) (hoL : ∀ j : Nat, (j < 21 * (30 + 2 * n) ∨ 21 * (30 + 2 * n) + 21 ≤ j) → g1 j = f j) (hcR : ∀ i : Nat, i < l → g2 (21 * (31 + 2 * n) + i) = p (b + i)) (hoR : ∀ j : Nat, (j < 21 * (31 + 2 * n) ∨ 21 * (31 + 2 * n) + 21 ≤ j) → g2 j = g1 j) (hv : ∀ v : Nat, v < 5 → vocc p b l v → vocc p a k v) (hn : n' = n + 1) : krv g2 n' := fun r hr v hv5 l' hl' f1 o1 => by
  rcases Nat.lt_or_ge r n with q | q
  · have e : ∀ j : Nat, j < 21 * (30 + 2 * n) → g2 j = f j := fun j hj => (hoR j (Or.inl (by omega))).trans (hoL j (Or.inl hj))
    obtain ⟨k', hk', f2, o2⟩ := hk r q v hv5 l' hl' (fo_congr (fun i _ => e _ (by omega)) f1) (vocc_congr (fun i _ => e _ (by omega)) o1)
    exact ⟨k', hk', fo_congr (fun i _ => (e _ (by omega)).symm) f2, vocc_congr (fun i _ => (e _ (by omega)).symm) o2⟩
  · have hr2 : r = n := by omega
    subst hr2
    have eL : ∀ i : Nat, i < k → p (a + i) = g2 (21 * (30 + 2 * r) + i) := fun i hi => by rw [hoR _ (Or.inl (by omega)), hcL i hi]
    have fR : fo g2 (21 * (31 + 2 * r)) 1 l := fo_congr (fun i hi => (hcR i hi).symm) k1
    obtain rfl := fo_uniq f1 fR
    exact ⟨k, hk20, fo_congr eL h1, vocc_congr eL (hv v hv5 (vocc_congr hcR o1))⟩
