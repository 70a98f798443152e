/-! ===== texts: names, spell ===== -/
/-- the shown text so far -/
def SWT (sw : Nat → Nat → Int32) (B : List Nat) : Prop := sw 0 0 = nI B.length ∧ la (sw 1) 0 B
theorem fx_putByte_c {n b : Nat} {sw : Nat → Nat → Int32} {B : List Nat} (h : SWT sw B) (hl : B.length < 256) : ∃ sw' : Nat → Nat → Int32, fx_X4_putByte n sw (nI b) = some sw' ∧ SWT sw' (B ++ [b]) ∧ sw' 2 = sw 2 := by
  obtain ⟨h1, h2⟩ := h
  refine ⟨mu (mu sw 1 B.length (nI b)) 0 0 (nI (B.length + 1)), ?_, ⟨by rw [mu_eq, upd_eq, List.length_append]; rfl, ?_⟩, by rw [mu_ne (by decide), mu_ne (by decide)]⟩
  · unfold fx_X4_putByte
    rw [h1, if_neg (by rw [show (0 : Int32) = nI 0 from rfl, nI_lt_iff (by omega) (by decide)]; omega), if_neg (by rw [show (256 : Int32) = nI 256 from rfl, nI_le_iff (by decide) (by omega)]; omega), xwp_n hl (by decide), mu_ne (by decide), h1, xl_eq, nI_1, xl_eq]
  · rw [mu_ne (by decide), mu_eq, la_app]
    refine ⟨la_upd (Or.inr (by omega)) h2, ?_⟩
    rw [Nat.zero_add]
    exact ⟨upd_eq _ _ _, trivial⟩
/-- a word's digits -/
theorem wnu_snoc {w : List Nat} {c : Nat} : wnu (w ++ [c]) = wnu w * 32 + (c - 96) := by
  unfold wnu; rw [List.foldl_append]; rfl
theorem wnu_lt : ∀ (k : Nat) (w : List Nat), w.length = k → (∀ b ∈ w, 97 ≤ b ∧ b ≤ 122) → wnu w < 32 ^ k := by
  intro k
  induction k with
  | zero =>
    intro w hl _
    rw [List.eq_nil_of_length_eq_zero hl]; decide
  | succ k ih =>
    intro w hl hb9
    have hne : w ≠ [] := by rintro rfl; exact absurd hl (by simp)
    have e := List.dropLast_concat_getLast hne
    have ll : w.dropLast.length = k := by rw [List.length_dropLast]; omega
    have := ih w.dropLast ll (fun b hb2 => hb9 b ((List.dropLast_sublist _).subset hb2))
    obtain ⟨c1, c2⟩ := hb9 _ (List.getLast_mem hne)
    rw [← e, wnu_snoc, Nat.pow_succ]
    omega
theorem wnu_dig : ∀ (j : Nat) (w : List Nat), (∀ b ∈ w, 97 ≤ b ∧ b ≤ 122) → (w.length ≤ j → wnu w / 32 ^ j % 32 = 0) ∧ (j < w.length → wnu w / 32 ^ j % 32 = gb w (w.length - 1 - j) - 96) := by
  intro j
  induction j with
  | zero =>
    intro w hb9
    constructor
    · intro h
      rw [List.eq_nil_of_length_eq_zero (l := w) (by omega)]; rfl
    · intro h
      have hne : w ≠ [] := by rintro rfl; exact absurd h (by simp)
      have e := List.dropLast_concat_getLast hne
      obtain ⟨c1, c2⟩ := hb9 _ (List.getLast_mem hne)
      have g : gb w (w.length - 1 - 0) = w.getLast hne := by
        unfold gb
        rw [List.getLast_eq_getElem, List.getD_eq_getElem?_getD, List.getElem?_eq_getElem (by omega)]; rfl
      rw [g, Nat.pow_zero, Nat.div_one]
      conv => lhs; rw [← e, wnu_snoc]
      omega
  | succ j ih =>
    intro w hb9
    by_cases hw : w = []
    · subst hw
      refine ⟨fun _ => ?_, fun h => absurd h (by simp)⟩
      show 0 / 32 ^ (j + 1) % 32 = 0
      rw [Nat.zero_div]
    · have e := List.dropLast_concat_getLast hw
      obtain ⟨c1, c2⟩ := hb9 _ (List.getLast_mem hw)
      have ll : w.dropLast.length = w.length - 1 := List.length_dropLast
      have ed : wnu w / 32 ^ (j + 1) = wnu w.dropLast / 32 ^ j := by
        rw [Nat.pow_succ, Nat.mul_comm, ← Nat.div_div_eq_div_mul]
        congr 1
        conv => lhs; rw [← e, wnu_snoc]
        omega
      obtain ⟨i1, i2⟩ := ih w.dropLast (fun b hb2 => hb9 b ((List.dropLast_sublist _).subset hb2))
      rw [ed]
      refine ⟨fun h => i1 (by omega), fun h => ?_⟩
      rw [i2 (by omega), ll]
      have : gb w.dropLast (w.length - 1 - 1 - j) = gb w (w.length - 1 - (j + 1)) := by
        unfold gb
        rw [show w.length - 1 - (j + 1) = w.length - 1 - 1 - j by omega, List.getD_eq_getElem?_getD, List.getD_eq_getElem?_getD]
        congr 1
        rw [List.getElem?_dropLast, if_pos (by omega)]
      rw [this]
theorem ush5 : ∀ j : Fin 6, ((nI (5 * j.val)).toUInt32 &&& Int32.toUInt32 31) = UInt32.ofNat (5 * j.val) := by decide +kernel
theorem ush_n {a j : Nat} (ha : a < 2147483648) (hj : j < 6) : ((nI a).toUInt32 >>> ((nI (5 * j)).toUInt32 &&& Int32.toUInt32 31)).toInt32 = nI (a / 32 ^ j) := by
  rw [ush5 ⟨j, hj⟩]
  have e1 : (nI a).toUInt32 = UInt32.ofNat a := by
    unfold nI
    rfl
  rw [e1]
  have e2 : UInt32.ofNat a >>> UInt32.ofNat (5 * j) = UInt32.ofNat (a / 32 ^ j) := by
    apply UInt32.toNat.inj
    have q : a / 32 ^ j ≤ a := Nat.div_le_self _ _
    rw [UInt32.toNat_shiftRight, UInt32.toNat_ofNat', UInt32.toNat_ofNat', UInt32.toNat_ofNat', Nat.mod_eq_of_lt (a := a) (by omega), Nat.mod_eq_of_lt (a := 5 * j) (by omega), Nat.mod_eq_of_lt (a := 5 * j) (by omega), Nat.shiftRight_eq_div_pow, Nat.pow_mul, Nat.mod_eq_of_lt (a := a / 32 ^ j) (by omega)]
  rw [e2]
  rfl
theorem lx_putName_c {n : Nat} {p0 : Int32} {w B : List Nat} (hw : ∀ b ∈ w, 97 ≤ b ∧ b ≤ 122) (h6 : w.length ≤ 6) (hp : p0 = nI (wnu w)) : ∀ (j m : Nat) (sw : Nat → Nat → Int32), j ≤ 6 → j < m → SWT sw (B ++ w.take (w.length - j)) → B.length + 6 ≤ 256 →
    ∃ sw' : Nat → Nat → Int32, lx_X4_putName_3 n p0 m (nI (5 * j) + -5) sw = some sw' ∧ SWT sw' (B ++ w) ∧ sw' 2 = sw 2
  | 0, m + 1, sw, _, _, hs, _ => by
    refine ⟨sw, ?_, by rw [Nat.sub_zero, List.take_length] at hs; exact hs, rfl⟩
    show bx_X4_putName_3 n p0 (lx_X4_putName_3 n p0 m) _ sw = _
    unfold bx_X4_putName_3
    rw [if_pos (by decide)]
  | j + 1, m + 1, sw, hj, hm, hs, hB => by
    have hwn : wnu w < 1073741824 := by
      have := wnu_lt w.length w rfl hw
      have : 32 ^ w.length ≤ 32 ^ 6 := Nat.pow_le_pow_right (by decide) h6
      omega
    obtain ⟨d1, d2⟩ := wnu_dig j w hw
    have e5 : nI (5 * (j + 1)) + -5 = nI (5 * j) := by
      rw [show 5 * (j + 1) = 5 * j + 5 by omega, ← nI_add, Int32.add_assoc, show nI 5 + -5 = (0 : Int32) from rfl, Int32.add_zero]
    have sh := ush_n (a := wnu w) (j := j) (by omega) (by omega)
    have an : nI (wnu w / 32 ^ j) &&& 31 = nI (wnu w / 32 ^ j % 32) := by
      rw [show (31 : Int32) = nI 31 from rfl, nI_and, show 31 = 2 ^ 5 - 1 from rfl, Nat.and_two_pow_sub_one_eq_mod]
    have st : lx_X4_putName_3 n p0 (m + 1) (nI (5 * (j + 1)) + -5) sw = if nI (wnu w / 32 ^ j % 32) ≤ (0 : Int32) then lx_X4_putName_3 n p0 m (nI (5 * j) + -5) sw else (xb1 (fx_X4_putByte n sw (97 + nI (wnu w / 32 ^ j % 32) - 1)) fun v => lx_X4_putName_3 n p0 m (nI (5 * j) + -5) v) := by
      show bx_X4_putName_3 n p0 (lx_X4_putName_3 n p0 m) _ sw = _
      unfold bx_X4_putName_3
      rw [e5, if_neg (by rw [show (0 : Int32) = nI 0 from rfl, nI_lt_iff (by omega) (by decide)]; omega), hp, sh, xl_eq, an, xl_eq]
      simp only [xl_eq]
    rw [st]
    by_cases z : w.length ≤ j
    · rw [d1 z, if_pos (by decide)]
      exact lx_putName_c hw h6 hp j m sw (by omega) (by omega) (by rw [show w.length - j = w.length - (j + 1) by omega]; exact hs) hB
    · have hlt : w.length - 1 - j < w.length := by omega
      obtain ⟨g1, g2⟩ := hw _ (gb_mem hlt)
      rw [d2 (by omega), if_neg (by rw [show (0 : Int32) = nI 0 from rfl, nI_le_iff (by omega) (by decide)]; omega)]
      have eb : (97 : Int32) + nI (gb w (w.length - 1 - j) - 96) - 1 = nI (gb w (w.length - 1 - j)) := by
        rw [show (97 : Int32) = nI 97 from rfl, nI_add, show (1 : Int32) = nI 1 from rfl, nI_sub (by omega)]
        exact congrArg nI (by omega)
      rw [eb]
      obtain ⟨sw1, p1, p2, p3⟩ := fx_putByte_c (n := n) (b := gb w (w.length - 1 - j)) hs (by rw [List.length_append, List.length_take]; omega)
      rw [p1, xb1_s]
      have et : w.take (w.length - j) = w.take (w.length - (j + 1)) ++ [gb w (w.length - 1 - j)] := by
        rw [show w.length - j = w.length - (j + 1) + 1 by omega, List.take_add_one]
        refine congrArg (fun z => w.take (w.length - (j + 1)) ++ z) ?_
        unfold gb
        rw [show w.length - 1 - j = w.length - (j + 1) by omega, List.getD_eq_getElem?_getD, List.getElem?_eq_getElem (by omega)]; rfl
      obtain ⟨sw2, q1, q2, q3⟩ := lx_putName_c (B := B) hw h6 hp j m sw1 (by omega) (by omega) (by rw [et, ← List.append_assoc]; exact p2) hB
      exact ⟨sw2, q1, q2, by rw [q3, p3]⟩
theorem fx_putName_c {n : Nat} {w B : List Nat} {sw : Nat → Nat → Int32} (hn : 100000 ≤ n) (hw : ∀ b ∈ w, 97 ≤ b ∧ b ≤ 122) (h6 : w.length ≤ 6) (hs : SWT sw B) (hB : B.length + 6 ≤ 256) : ∃ sw' : Nat → Nat → Int32, fx_X4_putName n sw (nI (wnu w)) = some sw' ∧ SWT sw' (B ++ w) ∧ sw' 2 = sw 2 :=
  lx_putName_c hw h6 rfl 6 n sw (Nat.le_refl _) (by omega) (by rw [show w.length - 6 = 0 by omega, List.take_zero, List.append_nil]; exact hs) hB
