/-! ===== the stepper: the other parts, as bits ===== -/
theorem oth_ok : ∀ n : Fin 7, ∀ b : Fin 64, b.val < 2 ^ n.val → (nI (2 ^ n.val - 1) &&& (nI b.val ^^^ (-1))) = nI (2 ^ n.val - 1 - b.val) ∧ ∀ z : Fin 7, (2 ^ n.val - 1 - b.val).testBit z.val = (decide (z.val < n.val) && !b.val.testBit z.val) := by decide +kernel
theorem oth_bits {n b : Nat} (hn : n ≤ 6) (hb9 : b < 2 ^ n) : (nI (2 ^ n - 1) &&& (nI b ^^^ (-1))) = nI (2 ^ n - 1 - b) ∧ (2 ^ n - 1 - b < 64) ∧ (∀ z : Nat, n ≤ z → (2 ^ n - 1 - b).testBit z = false) ∧ ∀ z : Nat, z < n → (2 ^ n - 1 - b).testBit z = !b.testBit z := by
  have p6 := pow64 hn
  obtain ⟨h1, h2⟩ := oth_ok ⟨n, by omega⟩ ⟨b, by omega⟩ hb9
  refine ⟨h1, by omega, fun z hz => Nat.testBit_lt_two_pow (Nat.lt_of_lt_of_le (show 2 ^ n - 1 - b < 2 ^ n by omega) (Nat.pow_le_pow_right (by decide) hz)), fun z hz => ?_⟩
  have := h2 ⟨z, by omega⟩
  rw [this, decide_eq_true hz, Bool.true_and]
theorem sel_true {s t : Nat} : ∀ {qs : List (List Nat)} {k : Nat}, (∀ z : Nat, k ≤ z → z < k + qs.length → t.testBit z = !s.testBit z) → sel s true k qs = sel t false k qs
  | [], _, _ => rfl
  | q :: qs, k, h => by
    have ih := sel_true (s := s) (t := t) (qs := qs) (k := k + 1) (fun z h1 h2 => h z (by omega) (by rw [List.length_cons]; omega))
    have h0 := h k (Nat.le_refl _) (by rw [List.length_cons]; omega)
    show (if s.testBit k = true then sel s true (k + 1) qs else q :: sel s true (k + 1) qs) = (if t.testBit k = false then sel t false (k + 1) qs else q :: sel t false (k + 1) qs)
    rw [ih, h0]
    cases s.testBit k with
    | true => rfl
    | false => rfl
theorem sl_oth {qs : List (List Nat)} {b : Nat} (h6 : qs.length ≤ 6) (hb9 : b < 2 ^ qs.length) : sl (2 ^ qs.length - 1 - b) qs = sel b true 0 qs :=
  (sel_true (fun z _ hz => (oth_bits h6 hb9).2.2.2 z (by omega))).symm
theorem fx_offerAll_e {n pl ru bits wh oth : Nat} {ga sp rf u v : Nat → Nat → Int32} {w8 : Nat → Nat → Int64} (hpl : pl < 20) (hru : ru < 8) (hw : fx_X7_wholeOf n sp v ga (nI pl) (nI ru) = some (nI wh)) (ho : (nI wh &&& (nI bits ^^^ (-1))) = nI oth) : fx_X7_offerAll n sp rf u v w8 ga (nI pl) (nI ru) (nI bits) = lx_X7_offerAll_37 n u ga (nI pl) (nI ru) (nI bits) n (nI oth) (nI 0) sp rf v w8 := by
  have e0 : (0 : Int32) = nI 0 := rfl
  unfold fx_X7_offerAll
  rw [if_neg (by rw [e0, nI_lt_iff (by omega) (by decide)]; omega), if_neg (by rw [show (20 : Int32) = nI 20 from rfl, nI_le_iff (by decide) (by omega)]; omega), if_neg (by rw [e0, nI_lt_iff (by omega) (by decide)]; omega), if_pos (by rw [show (8 : Int32) = nI 8 from rfl, nI_lt_iff (by omega) (by decide)]; omega), hw, xb1_s, xl_eq, xl_eq, ho]
  rfl
/-- the whole of a sum's parts is the sum -/
theorem SS_full {so ma : Nat → Nat} {un : Nat → Option Nat} {nv op : Nat} {s : List Nat} (hsv : SV so un ma nv) (ho : op < 10 ∧ so op ≠ 3) (h2 : so op = 2) (hs : tok so un ma nv s) (hi : isop op s = true) : SS so un op s (2 ^ (pts s).length - 1) = s := by
  have hf : flat1 so un op s = pts s := by unfold flat1; rw [if_pos h2, if_pos hi]
  have := (nf_as (SV_SU hsv) ho h2 hs.1 (by have := tok_len hs; omega)).2.2.1
  unfold SS
  rw [hf] at this ⊢
  have full : sl (2 ^ (pts s).length - 1) (pts s) = pts s := sel_full (fun j _ hj => by rw [Nat.testBit_two_pow_sub_one]; exact decide_eq_true (by omega))
  rw [full, this]
/-- a sub-sum is what the operator makes of its parts -/
theorem SS_std {so ma : Nat → Nat} {un : Nat → Option Nat} {nv op bits : Nat} {s : List Nat} (hsv : SV so un ma nv) (ho : op < 10 ∧ so op ≠ 3) (h2 : so op = 2) (hs : tok so un ma nv s) (hi : isop op s = true) : SS so un op s bits = stand so un op (sel bits false 0 (pts s)) := by
  have hf : flat1 so un op s = pts s := by unfold flat1; rw [if_pos h2, if_pos hi]
  obtain ⟨k1, k2, k3, k4⟩ := nf_sum (SV_SU hsv) ho h2 hs.1 hi (by have := tok_len hs; omega)
  have wp : wfs (pts s) := fun q hq => (tok_pts hs q hq).1.1.1
  have hsub : (sl bits (pts s)).Sublist (pts s) := sl_sub
  have ws : wfs (sl bits (pts s)) := fun q hq => wp q (hsub.subset hq)
  have hp : ∀ q ∈ sl bits (pts s), plain so un op q := fun q hq => k1 q (hsub.subset hq)
  have hsr : srt (sl bits (pts s)) = sl bits (pts s) := srt_id ws ((srt_pw wp k2).sublist hsub)
  unfold SS
  rw [hf, stand_stys]
  show mkt so un op (sl bits (pts s)) = mkt so un op (stys so un op (sl bits (pts s)))
  unfold stys
  rw [if_neg (by omega), flats_plain hp, hsr]
