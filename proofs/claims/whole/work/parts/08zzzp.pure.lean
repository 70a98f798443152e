/-! ===== the number of bits of a long ===== -/
def m8 (c : Nat) : Nat → Nat
  | 0 => 0
  | k + 1 => c + 256 * m8 c k
def cb : Nat → Nat → Nat
  | _, 0 => 0
  | n, k + 1 => n % 2 + cb (n / 2) k
theorem tb8 {a m n : Nat} (ha : a < 256) : (a + 256 * m).testBit n = if n < 8 then a.testBit n else m.testBit (n - 8) := by
  have h := Nat.testBit_two_pow_mul_add m (i := 8) (b := a) ha n
  rw [show a + 256 * m = 2 ^ 8 * m + a by omega]
  exact h
theorem and8 {a m b k : Nat} (ha : a < 256) (hb9 : b < 256) : (a + 256 * m) &&& (b + 256 * k) = (a &&& b) + 256 * (m &&& k) := by
  have h1 : (a &&& b) < 256 := Nat.lt_of_le_of_lt Nat.and_le_left ha
  apply Nat.eq_of_testBit_eq
  intro i
  rw [Nat.testBit_and, tb8 ha, tb8 hb9, tb8 h1]
  by_cases z : i < 8
  · rw [if_pos z, if_pos z, if_pos z, Nat.testBit_and]
  · rw [if_neg z, if_neg z, if_neg z, Nat.testBit_and]
theorem low1 : ∀ a : Fin 256, (a.val / 2) &&& 85 ≤ a.val := by decide +kernel
theorem split8 (n : Nat) : n = n % 256 + 256 * (n / 256) := by omega
theorem and_hi7 : ∀ a : Fin 256, a.val &&& 85 = (a.val % 128) &&& 85 := by decide +kernel
theorem and_hi6 : ∀ a : Fin 256, a.val &&& 51 = (a.val % 64) &&& 51 := by decide +kernel
theorem half8 {n k : Nat} : (n / 2) &&& m8 85 (k + 1) = ((n % 256) / 2 &&& 85) + 256 * ((n / 256) / 2 &&& m8 85 k) := by
  have e : n / 2 = ((n % 256) / 2 + 128 * ((n / 256) % 2)) + 256 * ((n / 256) / 2) := by omega
  show (n / 2) &&& (85 + 256 * m8 85 k) = _
  have l1 : (n % 256) / 2 + 128 * ((n / 256) % 2) < 256 := by omega
  rw [e, and8 l1 (by decide)]
  have h1 : ((n % 256) / 2 + 128 * ((n / 256) % 2)) &&& 85 = (((n % 256) / 2 + 128 * ((n / 256) % 2)) % 128) &&& 85 := and_hi7 ⟨_, l1⟩
  rw [h1, show ((n % 256) / 2 + 128 * ((n / 256) % 2)) % 128 = (n % 256) / 2 by omega]
theorem quart8 {n k : Nat} : (n / 4) &&& m8 51 (k + 1) = ((n % 256) / 4 &&& 51) + 256 * ((n / 256) / 4 &&& m8 51 k) := by
  have e : n / 4 = ((n % 256) / 4 + 64 * ((n / 256) % 4)) + 256 * ((n / 256) / 4) := by omega
  show (n / 4) &&& (51 + 256 * m8 51 k) = _
  have l1 : (n % 256) / 4 + 64 * ((n / 256) % 4) < 256 := by omega
  rw [e, and8 l1 (by decide)]
  have h1 : ((n % 256) / 4 + 64 * ((n / 256) % 4)) &&& 51 = (((n % 256) / 4 + 64 * ((n / 256) % 4)) % 64) &&& 51 := and_hi6 ⟨_, l1⟩
  rw [h1, show ((n % 256) / 4 + 64 * ((n / 256) % 4)) % 64 = (n % 256) / 4 by omega]
def F1 (k n : Nat) : Nat := n - (n / 2 &&& m8 85 k)
def F2 (k y : Nat) : Nat := (y &&& m8 51 k) + (y / 4 &&& m8 51 k)
def F3 (k x : Nat) : Nat := (x + x / 16) &&& m8 15 k
def p1F (a : Nat) : Nat := a - (a / 2 &&& 85)
def p2F (a : Nat) : Nat := (p1F a &&& 51) + (p1F a / 4 &&& 51)
def p3F (a : Nat) : Nat := (p2F a + p2F a / 16) % 16
theorem F1_s {k n : Nat} : F1 (k + 1) n = p1F (n % 256) + 256 * F1 k (n / 256) := by
  unfold F1 p1F
  rw [half8]
  have h1 : (n % 256) / 2 &&& 85 ≤ n % 256 := low1 ⟨n % 256, by omega⟩
  have h2 : (n / 256) / 2 &&& m8 85 k ≤ (n / 256) / 2 := Nat.and_le_left
  have h3 := split8 n
  omega
theorem p1_lt {a : Nat} (h : a < 256) : p1F a < 256 := by unfold p1F; omega
theorem F2_s {k a m : Nat} (ha : a < 256) : F2 (k + 1) (a + 256 * m) = ((a &&& 51) + (a / 4 &&& 51)) + 256 * F2 k m := by
  unfold F2
  rw [quart8]
  have e : (a + 256 * m) &&& m8 51 (k + 1) = (a &&& 51) + 256 * (m &&& m8 51 k) := and8 ha (by decide)
  rw [e, show (a + 256 * m) % 256 = a by omega, show (a + 256 * m) / 256 = m by omega]
  omega
def GG (k n : Nat) : Nat := F2 k (F1 k n)
theorem GG_s {k n : Nat} : GG (k + 1) n = p2F (n % 256) + 256 * GG k (n / 256) := by
  unfold GG
  rw [F1_s, F2_s (p1_lt (by omega))]
  rfl
theorem p2_le : ∀ a : Fin 256, p2F a.val ≤ 68 ∧ p2F a.val % 16 ≤ 4 := by decide +kernel
theorem GG_mod : ∀ (k n : Nat), GG k n % 16 ≤ 4
  | 0, n => by
    have e : GG 0 n = 0 := by
      unfold GG F2
      show ((F1 0 n) &&& 0) + ((F1 0 n) / 4 &&& 0) = 0
      rw [Nat.and_zero, Nat.and_zero]
    rw [e]; decide
  | k + 1, n => by
    have h : p2F (n % 256) ≤ 68 ∧ p2F (n % 256) % 16 ≤ 4 := p2_le ⟨n % 256, by omega⟩
    rw [GG_s]
    omega
def HH (k n : Nat) : Nat := F3 k (GG k n)
theorem HH_s {k n : Nat} : HH (k + 1) n = p3F (n % 256) + 256 * HH k (n / 256) := by
  have h : p2F (n % 256) ≤ 68 ∧ p2F (n % 256) % 16 ≤ 4 := p2_le ⟨n % 256, by omega⟩
  have g := GG_mod k (n / 256)
  unfold HH F3
  rw [GG_s]
  have e : p2F (n % 256) + 256 * GG k (n / 256) + (p2F (n % 256) + 256 * GG k (n / 256)) / 16 = (p2F (n % 256) + p2F (n % 256) / 16 + 16 * (GG k (n / 256) % 16)) + 256 * (GG k (n / 256) + GG k (n / 256) / 16) := by omega
  show (p2F (n % 256) + 256 * GG k (n / 256) + (p2F (n % 256) + 256 * GG k (n / 256)) / 16) &&& (15 + 256 * m8 15 k) = _
  rw [e, and8 (by omega) (by decide), show 15 = 2 ^ 4 - 1 from rfl, Nat.and_two_pow_sub_one_eq_mod]
  unfold p3F
  rw [show (p2F (n % 256) + p2F (n % 256) / 16 + 16 * (GG k (n / 256) % 16)) % 2 ^ 4 = (p2F (n % 256) + p2F (n % 256) / 16) % 16 by omega]
theorem p3_cb : ∀ a : Fin 256, p3F a.val = cb a.val 8 ∧ cb a.val 8 ≤ 8 := by decide +kernel
theorem cb_mod : ∀ (k n : Nat), cb n k = cb (n % 2 ^ k) k
  | 0, _ => rfl
  | k + 1, n => by
    have e : 2 ^ (k + 1) = 2 * 2 ^ k := by rw [Nat.pow_succ]; omega
    show n % 2 + cb (n / 2) k = n % 2 ^ (k + 1) % 2 + cb (n % 2 ^ (k + 1) / 2) k
    rw [e, Nat.mod_mul_right_div_self, Nat.mod_mul_right_mod, cb_mod k (n / 2)]
theorem cb_low {n : Nat} : cb n 8 = cb (n % 256) 8 := cb_mod 8 n
theorem cb_add : ∀ (A B n : Nat), cb n (A + B) = cb n A + cb (n / 2 ^ A) B
  | 0, B, n => by
    rw [Nat.zero_add, Nat.pow_zero, Nat.div_one]
    show cb n B = 0 + cb n B
    omega
  | A + 1, B, n => by
    rw [show A + 1 + B = (A + B) + 1 by omega]
    show n % 2 + cb (n / 2) (A + B) = n % 2 + cb (n / 2) A + cb (n / 2 ^ (A + 1)) B
    rw [cb_add A B (n / 2), Nat.div_div_eq_div_mul, show 2 * 2 ^ A = 2 ^ (A + 1) by rw [Nat.pow_succ]; omega]
    omega
theorem cb_8 {B n : Nat} : cb n (8 + B) = cb (n % 256) 8 + cb (n / 256) B := by
  rw [cb_add 8 B n, cb_low]
theorem cb_zero : ∀ (k n : Nat), (∀ i : Nat, i < k → n.testBit i = false) → cb n k = 0
  | 0, _, _ => rfl
  | k + 1, n, h => by
    have h0 := h 0 (by omega)
    rw [Nat.testBit_zero] at h0
    have e0 : n % 2 = 0 := by
      have := of_decide_eq_false h0
      omega
    show n % 2 + cb (n / 2) k = 0
    rw [e0, cb_zero k (n / 2) (fun i hi => by
      have := h (i + 1) (by omega)
      rw [Nat.testBit_succ] at this
      exact this)]
theorem ush_L {a s : Nat} {z : UInt64} (ha : a < 18446744073709551616) (hz : z = UInt64.ofNat s) (hs : s < 64) : ((nL a).toUInt64 >>> z).toInt64 = nL (a / 2 ^ s) := by
  have e1 : (nL a).toUInt64 = UInt64.ofNat a := by
    unfold nL
    rfl
  rw [e1, hz]
  have e2 : UInt64.ofNat a >>> UInt64.ofNat s = UInt64.ofNat (a / 2 ^ s) := by
    apply UInt64.toNat.inj
    have q : a / 2 ^ s ≤ a := Nat.div_le_self _ _
    rw [UInt64.toNat_shiftRight, UInt64.toNat_ofNat', UInt64.toNat_ofNat', UInt64.toNat_ofNat', Nat.mod_eq_of_lt (a := a) (by omega), Nat.mod_eq_of_lt (a := s) (by omega), Nat.mod_eq_of_lt (a := s) (by omega), Nat.shiftRight_eq_div_pow, Nat.mod_eq_of_lt (a := a / 2 ^ s) (by omega)]
  rw [e2]
  rfl
theorem nL_int {y : Nat} : (nL y).toInt32 &&& 127 = nI (y % 128) := by
  have e : (nL y).toInt32 = nI y := by
    apply Int32.toBitVec_inj.mp
    rw [Int64.toBitVec_toInt32]
    show (BitVec.ofNat 64 y).signExtend 32 = BitVec.ofNat 32 y
    apply BitVec.eq_of_getLsbD_eq
    intro i hi
    rw [BitVec.getLsbD_signExtend, if_pos (by omega), BitVec.getLsbD_ofNat, BitVec.getLsbD_ofNat, decide_eq_true hi, decide_eq_true (show i < 64 by omega), Bool.true_and, Bool.true_and]
  rw [e, show (127 : Int32) = nI 127 from rfl, nI_and, show 127 = 2 ^ 7 - 1 from rfl, Nat.and_two_pow_sub_one_eq_mod]
theorem m8_85 : m8 85 8 = 6148914691236517205 := by decide +kernel
theorem m8_51 : m8 51 8 = 3689348814741910323 := by decide +kernel
theorem m8_15 : m8 15 8 = 1085102592571150095 := by decide +kernel
/-- eight small bytes summed up -/
theorem dv1 {a m : Nat} (h : a < 256) : (a + 256 * m) / 256 = m := by omega
theorem dv2 {a b m : Nat} (h : a < 256) (h1 : b < 256) : (a + 256 * (b + 256 * m)) / 65536 = m := by omega
theorem dv4 {a b c d m : Nat} (h : a < 256) (h1 : b < 256) (h2 : c < 256) (h3 : d < 256) : (a + 256 * (b + 256 * (c + 256 * (d + 256 * m)))) / 4294967296 = m := by omega
theorem ln2 {a b m n : Nat} : (a + 256 * m) + (b + 256 * n) = (a + b) + 256 * (m + n) := by omega
theorem ln1 {a m b : Nat} : (a + 256 * m) + b = (a + b) + 256 * m := by omega
theorem lt8 {a m k : Nat} (h : a < 256) (h2 : m < k) : a + 256 * m < 256 * k := by omega
def e8 : List Nat → Nat
  | [] => 0
  | a :: l => a + 256 * e8 l
theorem e8_lt : ∀ (l : List Nat), (∀ a ∈ l, a < 256) → e8 l < 256 ^ l.length
  | [], _ => by decide
  | a :: l, h => by
    have h1 := h a (List.mem_cons_self ..)
    have h2 := e8_lt l (fun b hb9 => h b (List.mem_cons_of_mem _ hb9))
    show a + 256 * e8 l < 256 ^ (l.length + 1)
    rw [Nat.pow_succ, Nat.mul_comm (256 ^ l.length) 256]
    exact lt8 h1 h2
theorem md7 {a m : Nat} (h : a < 128) : (a + 256 * m) % 128 = a := by omega
theorem sum8 {a0 a1 a2 a3 a4 a5 a6 a7 : Nat} (h0 : a0 ≤ 8) (h1 : a1 ≤ 8) (h2 : a2 ≤ 8) (h3 : a3 ≤ 8) (h4 : a4 ≤ 8) (h5 : a5 ≤ 8) (h6 : a6 ≤ 8) (h7 : a7 ≤ 8) : ∀ (w y z x : Nat), w = e8 [a0, a1, a2, a3, a4, a5, a6, a7] → y = w + w / 256 → z = y + y / 65536 → x = z + z / 4294967296 →
    x % 128 = a0 + a1 + (a2 + a3) + (a4 + a5 + (a6 + a7)) ∧ w < 256 ^ 8 ∧ y < 256 ^ 8 ∧ z < 256 ^ 8 := by
  intro w y z x hw hy hz hx
  have e1 : w / 256 = e8 [a1, a2, a3, a4, a5, a6, a7] := by rw [hw]; exact dv1 (Nat.lt_of_le_of_lt h0 (by decide))
  have y1 : y = e8 [a0 + a1, a1 + a2, a2 + a3, a3 + a4, a4 + a5, a5 + a6, a6 + a7, a7] := by
    rw [hy, e1, hw]
    show (a0 + 256 * (a1 + 256 * (a2 + 256 * (a3 + 256 * (a4 + 256 * (a5 + 256 * (a6 + 256 * (a7 + 256 * 0)))))))) + (a1 + 256 * (a2 + 256 * (a3 + 256 * (a4 + 256 * (a5 + 256 * (a6 + 256 * (a7 + 256 * 0))))))) = (a0 + a1) + 256 * ((a1 + a2) + 256 * ((a2 + a3) + 256 * ((a3 + a4) + 256 * ((a4 + a5) + 256 * ((a5 + a6) + 256 * ((a6 + a7) + 256 * (a7 + 256 * 0)))))))
    rw [ln2, ln2, ln2, ln2, ln2, ln2, ln2]
  have e2 : y / 65536 = e8 [a2 + a3, a3 + a4, a4 + a5, a5 + a6, a6 + a7, a7] := by rw [y1]; exact dv2 (by omega) (by omega)
  have z1 : z = e8 [a0 + a1 + (a2 + a3), a1 + a2 + (a3 + a4), a2 + a3 + (a4 + a5), a3 + a4 + (a5 + a6), a4 + a5 + (a6 + a7), a5 + a6 + a7, a6 + a7, a7] := by
    rw [hz, e2, y1]
    show ((a0 + a1) + 256 * ((a1 + a2) + 256 * ((a2 + a3) + 256 * ((a3 + a4) + 256 * ((a4 + a5) + 256 * ((a5 + a6) + 256 * ((a6 + a7) + 256 * (a7 + 256 * 0)))))))) + ((a2 + a3) + 256 * ((a3 + a4) + 256 * ((a4 + a5) + 256 * ((a5 + a6) + 256 * ((a6 + a7) + 256 * (a7 + 256 * 0)))))) = (a0 + a1 + (a2 + a3)) + 256 * ((a1 + a2 + (a3 + a4)) + 256 * ((a2 + a3 + (a4 + a5)) + 256 * ((a3 + a4 + (a5 + a6)) + 256 * ((a4 + a5 + (a6 + a7)) + 256 * ((a5 + a6 + a7) + 256 * ((a6 + a7) + 256 * (a7 + 256 * 0)))))))
    rw [ln2, ln2, ln2, ln2, ln2, ln2, Nat.add_zero]
  have e3 : z / 4294967296 = e8 [a4 + a5 + (a6 + a7), a5 + a6 + a7, a6 + a7, a7] := by rw [z1]; exact dv4 (by omega) (by omega) (by omega) (by omega)
  have x1 : x = (a0 + a1 + (a2 + a3) + (a4 + a5 + (a6 + a7))) + 256 * (e8 [a1 + a2 + (a3 + a4), a2 + a3 + (a4 + a5), a3 + a4 + (a5 + a6), a4 + a5 + (a6 + a7), a5 + a6 + a7, a6 + a7, a7] + e8 [a5 + a6 + a7, a6 + a7, a7]) := by
    rw [hx, e3, z1]
    show (_ + 256 * e8 _) + (_ + 256 * e8 _) = _
    rw [ln2]
  refine ⟨?_, ?_, ?_, ?_⟩
  · rw [x1]
    exact md7 (by omega)
  · rw [hw]
    refine e8_lt [_, _, _, _, _, _, _, _] (fun a ha => ?_)
    simp only [List.mem_cons, List.not_mem_nil, or_false] at ha
    clear e1 e2 e3 y1 z1 x1 hw hy hz hx
    omega
  · rw [y1]
    refine e8_lt [_, _, _, _, _, _, _, _] (fun a ha => ?_)
    simp only [List.mem_cons, List.not_mem_nil, or_false] at ha
    clear e1 e2 e3 y1 z1 x1 hw hy hz hx
    omega
  · rw [z1]
    refine e8_lt [_, _, _, _, _, _, _, _] (fun a ha => ?_)
    simp only [List.mem_cons, List.not_mem_nil, or_false] at ha
    clear e1 e2 e3 y1 z1 x1 hw hy hz hx
    omega
theorem fx_bitCount64_c {m n : Nat} (hn : n < 18446744073709551616) : fx_J13_bitCount_95d88 m (nL n) = some (nI (cb n 64)) := by
  have lk : ∀ a : Nat, p3F (a % 256) = cb (a % 256) 8 ∧ cb (a % 256) 8 ≤ 8 := fun a => p3_cb ⟨a % 256, by omega⟩
  have e64 : cb n 64 = cb (n % 256) 8 + (cb (n / 256 % 256) 8 + (cb (n / 256 / 256 % 256) 8 + (cb (n / 256 / 256 / 256 % 256) 8 + (cb (n / 256 / 256 / 256 / 256 % 256) 8 + (cb (n / 256 / 256 / 256 / 256 / 256 % 256) 8 + (cb (n / 256 / 256 / 256 / 256 / 256 / 256 % 256) 8 + cb (n / 256 / 256 / 256 / 256 / 256 / 256 / 256 % 256) 8)))))) := by
    show cb n (8 + (8 + (8 + (8 + (8 + (8 + (8 + 8))))))) = _
    rw [cb_8, cb_8, cb_8, cb_8, cb_8, cb_8, cb_8, cb_low (n := n / 256 / 256 / 256 / 256 / 256 / 256 / 256)]
  have eH : HH 8 n = cb (n % 256) 8 + 256 * (cb (n / 256 % 256) 8 + 256 * (cb (n / 256 / 256 % 256) 8 + 256 * (cb (n / 256 / 256 / 256 % 256) 8 + 256 * (cb (n / 256 / 256 / 256 / 256 % 256) 8 + 256 * (cb (n / 256 / 256 / 256 / 256 / 256 % 256) 8 + 256 * (cb (n / 256 / 256 / 256 / 256 / 256 / 256 % 256) 8 + 256 * cb (n / 256 / 256 / 256 / 256 / 256 / 256 / 256 % 256) 8)))))) := by
    rw [HH_s, HH_s, HH_s, HH_s, HH_s, HH_s, HH_s, HH_s, (lk n).1, (lk (n / 256)).1, (lk (n / 256 / 256)).1, (lk (n / 256 / 256 / 256)).1, (lk (n / 256 / 256 / 256 / 256)).1, (lk (n / 256 / 256 / 256 / 256 / 256)).1, (lk (n / 256 / 256 / 256 / 256 / 256 / 256)).1, (lk (n / 256 / 256 / 256 / 256 / 256 / 256 / 256)).1]
    have e0 : ∀ q : Nat, HH 0 q = 0 := fun q => by
      unfold HH F3
      exact Nat.and_zero _
    rw [e0, Nat.mul_zero, Nat.add_zero]
  obtain ⟨s1, s2, s3, s4⟩ := sum8 (lk n).2 (lk (n / 256)).2 (lk (n / 256 / 256)).2 (lk (n / 256 / 256 / 256)).2 (lk (n / 256 / 256 / 256 / 256)).2 (lk (n / 256 / 256 / 256 / 256 / 256)).2 (lk (n / 256 / 256 / 256 / 256 / 256 / 256)).2 (lk (n / 256 / 256 / 256 / 256 / 256 / 256 / 256)).2 (HH 8 n) (HH 8 n + HH 8 n / 256) ((HH 8 n + HH 8 n / 256) + (HH 8 n + HH 8 n / 256) / 65536) _ (by rw [eH]; rfl) rfl rfl rfl
  have p8 : (256 : Nat) ^ 8 = 18446744073709551616 := by decide +kernel
  rw [p8] at s2 s3 s4
  have f1 : F1 8 n ≤ n := Nat.sub_le _ _
  have g1 : GG 8 n < 18446744073709551616 := by
    have a1 : (F1 8 n &&& m8 51 8) ≤ m8 51 8 := Nat.and_le_right
    have a2 : (F1 8 n / 4 &&& m8 51 8) ≤ m8 51 8 := Nat.and_le_right
    rw [m8_51] at a1 a2
    have : GG 8 n = (F1 8 n &&& m8 51 8) + (F1 8 n / 4 &&& m8 51 8) := rfl
    rw [this, m8_51]
    refine Nat.lt_of_le_of_lt (Nat.add_le_add a1 a2) (by decide)
  unfold fx_J13_bitCount_95d88
  simp only [xl_eq]
  have k1 : ((nL n).toUInt64 >>> (((1 : Int32)).toInt64.toUInt64 &&& Int64.toUInt64 63)).toInt64 = nL (n / 2) := ush_L (s := 1) hn (by decide +kernel) (by decide)
  have k2 : (6148914691236517205 : Int64) = nL (m8 85 8) := by rw [m8_85]; rfl
  have k3 : (3689348814741910323 : Int64) = nL (m8 51 8) := by rw [m8_51]; rfl
  have k4 : (1085102592571150095 : Int64) = nL (m8 15 8) := by rw [m8_15]; rfl
  have y3 : nL n - nL (n / 2 &&& m8 85 8) = nL (F1 8 n) := by
    rw [nL_sub (Nat.le_trans Nat.and_le_left (Nat.div_le_self _ _))]
    rfl
  have k5 : ((nL (F1 8 n)).toUInt64 >>> (((2 : Int32)).toInt64.toUInt64 &&& Int64.toUInt64 63)).toInt64 = nL (F1 8 n / 4) := ush_L (s := 2) (Nat.lt_of_le_of_lt f1 hn) (by decide +kernel) (by decide)
  have k6 : ((nL (GG 8 n)).toUInt64 >>> (((4 : Int32)).toInt64.toUInt64 &&& Int64.toUInt64 63)).toInt64 = nL (GG 8 n / 16) := ush_L (s := 4) g1 (by decide +kernel) (by decide)
  have k7 : ((nL (HH 8 n)).toUInt64 >>> (((8 : Int32)).toInt64.toUInt64 &&& Int64.toUInt64 63)).toInt64 = nL (HH 8 n / 256) := ush_L (s := 8) s2 (by decide +kernel) (by decide)
  have k8 : ((nL (HH 8 n + HH 8 n / 256)).toUInt64 >>> (((16 : Int32)).toInt64.toUInt64 &&& Int64.toUInt64 63)).toInt64 = nL ((HH 8 n + HH 8 n / 256) / 65536) := ush_L (s := 16) s3 (by decide +kernel) (by decide)
  have k9 : ((nL (HH 8 n + HH 8 n / 256 + (HH 8 n + HH 8 n / 256) / 65536)).toUInt64 >>> (((32 : Int32)).toInt64.toUInt64 &&& Int64.toUInt64 63)).toInt64 = nL ((HH 8 n + HH 8 n / 256 + (HH 8 n + HH 8 n / 256) / 65536) / 4294967296) := ush_L (s := 32) s4 (by decide +kernel) (by decide)
  have eg : nL (F1 8 n) &&& nL (m8 51 8) = nL (F1 8 n &&& m8 51 8) := nL_and
  rw [k1, k2, nL_and, y3, k3, k5, nL_and, nL_and, nL_add]
  rw [show (F1 8 n &&& m8 51 8) + (F1 8 n / 4 &&& m8 51 8) = GG 8 n from rfl, k6, nL_add, k4, nL_and]
  rw [show (GG 8 n + GG 8 n / 16) &&& m8 15 8 = HH 8 n from rfl, k7, nL_add, k8, nL_add, k9, nL_add, nL_int, s1, e64]
  refine congrArg (fun z => some (nI z)) ?_
  generalize cb (n % 256) 8 = a0
  generalize cb (n / 256 % 256) 8 = a1
  generalize cb (n / 256 / 256 % 256) 8 = a2
  generalize cb (n / 256 / 256 / 256 % 256) 8 = a3
  generalize cb (n / 256 / 256 / 256 / 256 % 256) 8 = a4
  generalize cb (n / 256 / 256 / 256 / 256 / 256 % 256) 8 = a5
  generalize cb (n / 256 / 256 / 256 / 256 / 256 / 256 % 256) 8 = a6
  generalize cb (n / 256 / 256 / 256 / 256 / 256 / 256 / 256 % 256) 8 = a7
  clear s1 s2 s3 s4 eH e64 k1 k2 k3 k4 k5 k6 k7 k8 k9 y3 eg g1 f1 lk hn
  omega
theorem i64_nL (x : Int64) : x = nL x.toBitVec.toNat := by
  apply Int64.toBitVec_inj.mp
  show x.toBitVec = BitVec.ofNat 64 x.toBitVec.toNat
  rw [BitVec.ofNat_toNat, BitVec.setWidth_eq]
theorem pick_len {N : Int64} : ∀ (Q : List (List Nat)) (i : Nat), (pick N i Q).length = cb (N.toBitVec.toNat / 2 ^ i) Q.length
  | [], _ => rfl
  | q :: Q, i => by
    have ih := pick_len (N := N) Q (i + 1)
    have eb : bt64 N i = decide (N.toBitVec.toNat / 2 ^ i % 2 = 1) := by
      show N.toBitVec.toNat.testBit i = _
      rw [Nat.testBit_eq_decide_div_mod_eq]
    have e2 : cb (N.toBitVec.toNat / 2 ^ i) (q :: Q).length = N.toBitVec.toNat / 2 ^ i % 2 + cb (N.toBitVec.toNat / 2 ^ (i + 1)) Q.length := by
      show N.toBitVec.toNat / 2 ^ i % 2 + cb (N.toBitVec.toNat / 2 ^ i / 2) Q.length = _
      rw [Nat.div_div_eq_div_mul, Nat.pow_succ]
    rw [e2]
    show (if bt64 N i then q :: pick N (i + 1) Q else pick N (i + 1) Q).length = _
    rw [eb]
    by_cases z : N.toBitVec.toNat / 2 ^ i % 2 = 1
    · rw [if_pos (decide_eq_true z), z, List.length_cons, ih]
      omega
    · rw [if_neg (fun g => z (of_decide_eq_true g)), ih]
      omega
theorem fx_howMany_c {n : Nat} {N : Int64} {Q : List (List Nat)} (hQ : Q.length ≤ 64) (h0 : ∀ i : Nat, Q.length ≤ i → i < 64 → bt64 N i = false) : fx_X6_howManyNormal n N = some (nI (pick N 0 Q).length) := by
  have hlt : N.toBitVec.toNat < 18446744073709551616 := N.toBitVec.isLt
  have e : (pick N 0 Q).length = cb N.toBitVec.toNat 64 := by
    rw [pick_len, Nat.pow_zero, Nat.div_one]
    have := cb_add Q.length (64 - Q.length) N.toBitVec.toNat
    rw [show Q.length + (64 - Q.length) = 64 by omega] at this
    rw [this, cb_zero (64 - Q.length) (N.toBitVec.toNat / 2 ^ Q.length) (fun i hi => by
      rw [Nat.testBit_div_two_pow]
      exact h0 (i + Q.length) (by omega) (by omega)), Nat.add_zero]
  unfold fx_X6_howManyNormal
  have b := fx_bitCount64_c (m := n) hlt
  rw [← i64_nL N] at b
  rw [b, xb1_s, e]
