/-! ===== feed, end, signs: the class ===== -/
theorem ush31 : ∀ j : Fin 32, ((nI j.val).toUInt32 &&& Int32.toUInt32 31) = UInt32.ofNat j.val := by decide +kernel
theorem ush_m {a s : Nat} (ha : a < 4294967296) (hs : s < 32) : ((nI a).toUInt32 >>> ((nI s).toUInt32 &&& Int32.toUInt32 31)).toInt32 = nI (a / 2 ^ s) := by
  rw [ush31 ⟨s, hs⟩]
  have e1 : (nI a).toUInt32 = UInt32.ofNat a := by
    unfold nI
    rfl
  rw [e1]
  have e2 : UInt32.ofNat a >>> UInt32.ofNat s = UInt32.ofNat (a / 2 ^ s) := by
    apply UInt32.toNat.inj
    have q : a / 2 ^ s ≤ a := Nat.div_le_self _ _
    rw [UInt32.toNat_shiftRight, UInt32.toNat_ofNat', UInt32.toNat_ofNat', UInt32.toNat_ofNat', Nat.mod_eq_of_lt (a := a) (by omega), Nat.mod_eq_of_lt (a := s) (by omega), Nat.mod_eq_of_lt (a := s) (by omega), Nat.shiftRight_eq_div_pow, Nat.mod_eq_of_lt (a := a / 2 ^ s) (by omega)]
  rw [e2]
  rfl
theorem i32_nI (x : Int32) : x = nI x.toBitVec.toNat := by
  apply Int32.toBitVec_inj.mp
  show x.toBitVec = BitVec.ofNat 32 x.toBitVec.toNat
  rw [BitVec.ofNat_toNat, BitVec.setWidth_eq]
theorem byt_ush {x : Int32} {k : Nat} (hk : k < 4) : (x.toUInt32 >>> ((nI (24 - 8 * k)).toUInt32 &&& Int32.toUInt32 31)).toInt32 &&& 255 = nI (byt x k) := by
  have hx := x.toBitVec.isLt
  have e := ush_m (a := x.toBitVec.toNat) (s := 24 - 8 * k) (by omega) (by omega)
  rw [← i32_nI x] at e
  rw [e, show (255 : Int32) = nI 255 from rfl, nI_and]
  unfold byt
  rw [BitVec.extractLsb'_toNat, Nat.shiftRight_eq_div_pow, show 255 = 2 ^ 8 - 1 from rfl, Nat.and_two_pow_sub_one_eq_mod]
/-- the four bytes of a number -/
def b4 (x : Int32) : List Nat := [byt x 0, byt x 1, byt x 2, byt x 3]
theorem wr_step {n k m : Nat} {x : Int32} {L : List Nat} {h : Nat → Nat → Int32} (hk : k < 4) (ht : TPC h L) (h0 : h 0 0 = nI L.length) (hL : L.length < 400) :
    ∃ h' : Nat → Nat → Int32, lx_X3_write_3 n x (m + 1) (nI (24 - 8 * k)) h = lx_X3_write_3 n x m (nI (24 - 8 * k) + -8) h' ∧ TPC h' (L ++ [byt x k]) ∧ h' 0 0 = nI (L ++ [byt x k]).length ∧ ∀ j : Nat, j ≠ 0 → h' 0 j = h 0 j := by
  refine ⟨mu (mu h 1 L.length (nI (byt x k))) 0 0 (nI (L.length + 1)), ?_, ⟨by rw [List.length_append]; exact hL, fun b hb2 => ?_, ?_⟩, by rw [mu0_eq, List.length_append]; rfl, fun j hj => by rw [mu0_ne hj, mu_ne (by decide)]⟩
  · show bx_X3_write_3 n x (lx_X3_write_3 n x m) _ h = _
    unfold bx_X3_write_3
    rw [if_neg (by rw [show (0 : Int32) = nI 0 from rfl, nI_lt_iff (by omega) (by decide)]; omega), h0, if_neg (by rw [show (0 : Int32) = nI 0 from rfl, nI_lt_iff (by omega) (by decide)]; omega), if_neg (by rw [show (400 : Int32) = nI 400 from rfl, nI_le_iff (by decide) (by omega)]; omega), xl_eq, xl_eq, byt_ush hk, xwp_n hL (by decide), mu_ne (by decide), h0]
    simp only [xl_eq, nI_1]
  · rcases List.mem_append.mp hb2 with g | g
    · exact ht.2.1 b g
    · rw [List.mem_singleton.mp g]; exact byt_lt
  · rw [mu_ne (by decide), mu_eq, la_app]
    refine ⟨la_upd (Or.inr (by omega)) ht.2.2, ?_⟩
    rw [Nat.zero_add]
    exact ⟨upd_eq _ _ _, trivial⟩
theorem fx_wr4_c {n : Nat} {x : Int32} {L : List Nat} {h : Nat → Nat → Int32} (hn : 100000 ≤ n) (ht : TPC h L) (h0 : h 0 0 = nI L.length) (hL : L.length + 4 ≤ 400) :
    ∃ h' : Nat → Nat → Int32, fx_X3_write n h x = some h' ∧ TPC h' (L ++ b4 x) ∧ h' 0 0 = nI (L ++ b4 x).length ∧ ∀ j : Nat, j ≠ 0 → h' 0 j = h 0 j := by
  obtain ⟨m, rfl⟩ : ∃ m, n = m + 5 := ⟨n - 5, by omega⟩
  obtain ⟨h1, a1, a2, a3, a4⟩ := wr_step (n := m + 5) (k := 0) (m := m + 4) (x := x) (by decide) ht h0 (by omega)
  obtain ⟨h2, b1, b2, b3, b4'⟩ := wr_step (n := m + 5) (k := 1) (m := m + 3) (x := x) (by decide) a2 a3 (by rw [List.length_append]; simp only [List.length_cons, List.length_nil]; omega)
  obtain ⟨h3, c1, c2, c3, c4⟩ := wr_step (n := m + 5) (k := 2) (m := m + 2) (x := x) (by decide) b2 b3 (by simp only [List.length_append, List.length_cons, List.length_nil]; omega)
  obtain ⟨h4, d1, d2, d3, d4⟩ := wr_step (n := m + 5) (k := 3) (m := m + 1) (x := x) (by decide) c2 c3 (by simp only [List.length_append, List.length_cons, List.length_nil]; omega)
  have e : L ++ [byt x 0] ++ [byt x 1] ++ [byt x 2] ++ [byt x 3] = L ++ b4 x := by unfold b4; simp
  rw [e] at d2 d3
  refine ⟨h4, ?_, d2, d3, fun j hj => by rw [d4 j hj, c4 j hj, b4' j hj, a4 j hj]⟩
  show lx_X3_write_3 (m + 5) x (m + 4 + 1) (nI (24 - 8 * 0)) h = _
  rw [a1]
  show lx_X3_write_3 (m + 5) x (m + 3 + 1) (nI (24 - 8 * 1)) h1 = _
  rw [b1]
  show lx_X3_write_3 (m + 5) x (m + 2 + 1) (nI (24 - 8 * 2)) h2 = _
  rw [c1]
  show lx_X3_write_3 (m + 5) x (m + 1 + 1) (nI (24 - 8 * 3)) h3 = _
  rw [d1]
  show bx_X3_write_3 (m + 5) x (lx_X3_write_3 (m + 5) x m) _ h4 = _
  unfold bx_X3_write_3
  rw [if_pos (by decide)]
theorem fed_b4 {a b c d e : Int32} : fed a b c d e = b4 a ++ (b4 b ++ (b4 c ++ (b4 d ++ b4 e))) := rfl
theorem b4_len {x : Int32} : (b4 x).length = 4 := rfl
theorem fx_feed_c {n : Nat} {L : List Nat} {h : Nat → Nat → Int32} {a b c d e : Int32} (hn : 100000 ≤ n) (ht : TPC h L) (h0 : h 0 0 = nI L.length) :
    (L.length + 20 ≤ 400 ∧ ∃ h' : Nat → Nat → Int32, fx_X9_feed n h a b c d e = some (nI (L.length + 20), h') ∧ TPC h' (L ++ fed a b c d e) ∧ h' 0 0 = nI (L ++ fed a b c d e).length) ∨ (400 < L.length + 20 ∧ fx_X9_feed n h a b c d e = some (-1, h)) := by
  have h4 := ht.1
  have el : (fed a b c d e).length = 20 := fdl_len
  unfold fx_X9_feed fx_X3_append
  rw [h0]
  by_cases q : L.length + 20 ≤ 400
  · refine Or.inl ⟨q, ?_⟩
    rw [if_pos (by rw [show (380 : Int32) = nI 380 from rfl, nI_le_iff (by omega) (by omega)]; omega)]
    obtain ⟨h1, a1, a2, a3, _⟩ := fx_wr4_c (n := n) (x := a) hn ht h0 (by omega)
    obtain ⟨h2, b1, b2, b3, _⟩ := fx_wr4_c (n := n) (x := b) hn a2 a3 (by simp only [List.length_append, b4_len]; omega)
    obtain ⟨h3, c1, c2, c3, _⟩ := fx_wr4_c (n := n) (x := c) hn b2 b3 (by simp only [List.length_append, b4_len]; omega)
    obtain ⟨h4, d1, d2, d3, _⟩ := fx_wr4_c (n := n) (x := d) hn c2 c3 (by simp only [List.length_append, b4_len]; omega)
    obtain ⟨h5, e1, e2, e3, _⟩ := fx_wr4_c (n := n) (x := e) hn d2 d3 (by simp only [List.length_append, b4_len]; omega)
    have ee : L ++ b4 a ++ b4 b ++ b4 c ++ b4 d ++ b4 e = L ++ fed a b c d e := by rw [fed_b4]; simp only [List.append_assoc]
    rw [ee] at e2 e3
    rw [a1, xb1_s, b1, xb1_s, c1, xb1_s, d1, xb1_s, e1, xb1_s, xb2_s, e3, List.length_append, el]
    exact ⟨h5, rfl, e2, by rw [e3, List.length_append, el]⟩
  · refine Or.inr ⟨by omega, ?_⟩
    rw [if_neg (by rw [show (380 : Int32) = nI 380 from rfl, nI_le_iff (by omega) (by omega)]; omega), xb2_s]
theorem TPC_take {h : Nat → Nat → Int32} {L : List Nat} {k : Nat} {v : Int32} (ht : TPC h L) : TPC (mu h 0 0 v) (L.take k) := by
  refine ⟨by rw [List.length_take]; have := ht.1; omega, fun b hb2 => ht.2.1 b (List.mem_of_mem_take hb2), ?_⟩
  rw [mu_ne (by decide)]
  have := ht.2.2
  rw [← List.take_append_drop k L, la_app] at this
  exact this.1
theorem fx_end_c {n : Nat} {L : List Nat} {h : Nat → Nat → Int32} {x : Int32} (ht : TPC h L) (h0 : h 0 0 = nI L.length) :
    (∃ k : Nat, (k < L.length + 1 ∧ x = nI k) ∧ ∃ h' : Nat → Nat → Int32, fx_X9_end n h x = some (1, h') ∧ TPC h' (L.take k) ∧ h' 0 0 = nI (L.take k).length) ∨ (¬ isn x (L.length + 1) ∧ fx_X9_end n h x = some (0, h)) := by
  have h4 := ht.1
  unfold fx_X9_end fx_X3_cut
  by_cases q : isn x (L.length + 1)
  · obtain ⟨k, k1, k2⟩ := isn_of (by omega) q
    refine Or.inl ⟨k, ⟨k1, k2⟩, ?_⟩
    rw [k2, h0, if_neg (by rw [show (0 : Int32) = nI 0 from rfl, nI_lt_iff (by omega) (by decide)]; omega), if_pos (by rw [nI_le_iff (by omega) (by omega)]; omega), xl_eq, xb2_s, xz_1]
    exact ⟨_, rfl, TPC_take ht, by rw [mu0_eq, List.length_take, show min k L.length = k by omega]⟩
  · refine Or.inr ⟨q, ?_⟩
    by_cases z : x < 0
    · rw [if_pos z, xb2_s, xz_0]
    · rw [if_neg z, if_neg, xb2_s, xz_0]
      intro y
      rw [h0] at y
      refine q ⟨?_, ?_⟩
      · have : ¬ x.toInt < (0 : Int32).toInt := fun g => z (Int32.lt_iff_toInt_lt.mpr g)
        have e : (0 : Int32).toInt = 0 := rfl
        omega
      · have g := Int32.le_iff_toInt_le.mp y
        rw [nI_toInt (by omega)] at g
        omega
/-- a sign that is neither blank, letter nor digit -/
theorem tks_sign {L : List Nat} {q c : Nat} (hc : c = 40 ∨ c = 41 ∨ c = 44 ∨ c = 59 ∨ c = 61) (h : q < L.length) (e : gb L q = c) : tks L q = 3 ∧ tkv L q = nI c ∧ tke L q = q + 1 := by
  have z1 : isLe L q = false := by
    cases y : isLe L q with
    | false => rfl
    | true => have := isb_lt (show isb L q 97 122 = true from y); omega
  have z2 : isDg L q = false := by
    cases y : isDg L q with
    | false => rfl
    | true => have := isb_lt (show isb L q 48 57 = true from y); omega
  unfold tks tkv tke
  rw [if_neg (show ¬ L.length ≤ q by omega), if_neg (show ¬ L.length ≤ q by omega), if_neg (show ¬ L.length ≤ q by omega), z1, z2, e]
  exact ⟨rfl, rfl, rfl⟩
theorem isb_one {L : List Nat} {q c : Nat} : isb L q c c = true ↔ q < L.length ∧ gb L q = c := by
  constructor
  · intro h
    have := isb_lt h
    exact ⟨this.1, by omega⟩
  · rintro ⟨h1, h2⟩
    unfold isb
    rw [decide_eq_true h1, decide_eq_true (show c ≤ gb L q by omega), decide_eq_true (show gb L q ≤ c by omega)]; rfl
theorem tks_3 {L : List Nat} {q : Nat} (h : tks L q = 3) : q < L.length ∧ tkv L q = nI (gb L q) := by
  unfold tks at h
  unfold tkv
  by_cases c : L.length ≤ q
  · rw [if_pos c] at h; exact absurd h (by decide)
  · rw [if_neg c] at h ⊢
    cases y : isLe L q with
    | true => rw [y, if_pos rfl] at h; exact absurd h (by decide)
    | false =>
      cases z : isDg L q with
      | true => rw [y, z] at h; exact absurd h (by decide)
      | false => exact ⟨by omega, rfl⟩
theorem tks_le {L : List Nat} {q : Nat} : tks L q ≤ 3 := by
  unfold tks
  split
  · decide
  · split
    · decide
    · split <;> decide
theorem fx_isSign_c {n q c : Nat} {L : List Nat} {h : Nat → Nat → Int32} (hs : SCN h L q) (hc : c = 40 ∨ c = 41 ∨ c = 44 ∨ c = 59 ∨ c = 61) : fx_X3_isSign n h (nI c) = some (if isb L q c c then 1 else 0) := by
  obtain ⟨s1, s2, s3, s4, s5, s6, s7, s8⟩ := hs
  have gq := gb_le (p := q) s1.2.1
  have t3 := tks_le (L := L) (q := q)
  unfold fx_X3_isSign
  rw [s6, s8]
  by_cases y : isb L q c c = true
  · obtain ⟨y1, y2⟩ := isb_one.mp y
    obtain ⟨e1, e2, e3⟩ := tks_sign hc y1 y2
    rw [e1, e2, y, if_pos (by decide), if_pos rfl]; rfl
  · rw [Bool.eq_false_iff.mpr y]
    by_cases z : tks L q = 3
    · obtain ⟨z1, z2⟩ := tks_3 z
      rw [z, z2, if_pos (by decide), if_neg]
      · rfl
      · rw [nI_inj (by omega) (by omega)]
        exact fun g => y (isb_one.mpr ⟨z1, g⟩)
    · rw [if_neg (by rw [show (3 : Int32) = nI 3 from rfl, nI_inj (by omega) (by decide)]; exact z)]; rfl
