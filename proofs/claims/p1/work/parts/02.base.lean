/-! ===== the base of the walks: array classes, the nest words, facts about ints ===== -/
abbrev tyL (cI cJ cB : ClassId) : List (ClassId × FieldType) := [(cI, .int), (cJ, .long), (cB, .byte)]
def nwF : List (String × Nat × String × String × String × String) := [("SumRewriter", 122, "SumRewriter$Scanner", "start", "I", "SumRewriter"), ("SumRewriter", 139, "SumRewriter$Signature", "operators", "I", "SumRewriter"), ("SumRewriter", 146, "SumRewriter$Scanner", "sort", "I", "SumRewriter"), ("SumRewriter", 166, "SumRewriter$Scanner", "value", "I", "SumRewriter"), ("SumRewriter", 192, "SumRewriter$Rows", "used", "I", "SumRewriter"), ("SumRewriter", 284, "SumRewriter$Shown", "row", "LSumRewriter$Rows;", "SumRewriter"), ("SumRewriter", 296, "SumRewriter$Matcher", "used", "I", "SumRewriter"), ("SumRewriter", 348, "SumRewriter$Stepper", "found", "LSumRewriter$Rows;", "SumRewriter"), ("SumRewriter", 382, "SumRewriter$Spread", "rows", "LSumRewriter$Rows;", "SumRewriter"), ("SumRewriter", 385, "SumRewriter$Spread", "normals", "J", "SumRewriter"), ("SumRewriter", 395, "SumRewriter$Signature", "variables", "I", "SumRewriter"), ("SumRewriter", 398, "SumRewriter$Shown", "length", "I", "SumRewriter"), ("SumRewriter$Matcher", 131, "SumRewriter$Terms", "used", "I", "SumRewriter"), ("SumRewriter$Reader", 47, "SumRewriter$Scanner", "sort", "I", "SumRewriter"), ("SumRewriter$Reader", 52, "SumRewriter$Scanner", "value", "I", "SumRewriter"), ("SumRewriter$Signature", 43, "SumRewriter$Scanner", "sort", "I", "SumRewriter"), ("SumRewriter$Signature", 59, "SumRewriter$Scanner", "value", "I", "SumRewriter"), ("SumRewriter$Spread", 39, "SumRewriter$Rows", "used", "I", "SumRewriter"), ("SumRewriter$Spread", 55, "SumRewriter$Stepper", "found", "LSumRewriter$Rows;", "SumRewriter"), ("SumRewriter$Stepper", 69, "SumRewriter$Terms", "used", "I", "SumRewriter"), ("SumRewriter$Stepper", 75, "SumRewriter$Rows", "used", "I", "SumRewriter"), ("SumRewriter$Stepper", 145, "SumRewriter$Matcher", "used", "I", "SumRewriter"), ("SumRewriter$Stepper", 146, "SumRewriter$Matcher", "found", "[I", "SumRewriter"), ("SumRewriter$Terms", 91, "SumRewriter$Signature", "kinds", "[I", "SumRewriter"), ("SumRewriter$Terms", 93, "SumRewriter$Signature", "units", "[I", "SumRewriter"), ("SumRewriter$Terms", 131, "SumRewriter$Signature", "lastingBits", "I", "SumRewriter")]
def nwM : List (String × Nat × MethodName × String) := [("SumRewriter", 9, ⟨"SumRewriter$Scanner", "<init>", "()V"⟩, "SumRewriter"), ("SumRewriter", 18, ⟨"SumRewriter$Signature", "<init>", "()V"⟩, "SumRewriter"), ("SumRewriter$Matcher", 151, ⟨"SumRewriter", "partsIn", "(I)I"⟩, "SumRewriter"), ("SumRewriter$Matcher", 158, ⟨"SumRewriter", "operatorIn", "(I)I"⟩, "SumRewriter"), ("SumRewriter$Reader", 79, ⟨"SumRewriter", "codeFor", "(II)I"⟩, "SumRewriter"), ("SumRewriter$Rows", 65, ⟨"SumRewriter", "partsIn", "(I)I"⟩, "SumRewriter"), ("SumRewriter$Rows", 71, ⟨"SumRewriter", "operatorIn", "(I)I"⟩, "SumRewriter"), ("SumRewriter$Shown", 61, ⟨"SumRewriter", "partsIn", "(I)I"⟩, "SumRewriter"), ("SumRewriter$Signature", 92, ⟨"SumRewriter", "operatorIn", "(I)I"⟩, "SumRewriter"), ("SumRewriter$Stepper", 121, ⟨"SumRewriter", "partsIn", "(I)I"⟩, "SumRewriter"), ("SumRewriter$Stepper", 127, ⟨"SumRewriter", "operatorIn", "(I)I"⟩, "SumRewriter"), ("SumRewriter$Terms", 74, ⟨"SumRewriter", "operatorIn", "(I)I"⟩, "SumRewriter"), ("SumRewriter$Terms", 85, ⟨"SumRewriter", "partsIn", "(I)I"⟩, "SumRewriter"), ("SumRewriter$Terms", 103, ⟨"SumRewriter", "codeFor", "(II)I"⟩, "SumRewriter")]
def nws : List Cond := nwF.map (fun q => Cond.fieldLinkNest q.1 q.2.1 q.2.2.1 q.2.2.2.1 q.2.2.2.2.1 q.2.2.2.2.2) ++ nwM.map (fun q => Cond.methodLinkNest q.1 q.2.1 q.2.2.1 q.2.2.2)
def NW (U : State) : Prop := ∀ w ∈ nws, va_Nw w U
theorem NW.warm {s U : State} (hW : s.WarmedH U.vm) (h : NW s) : NW U := by
  intro w hw
  have h1 := h w hw
  rcases List.mem_append.mp hw with h2 | h2
  · obtain ⟨q, -, rfl⟩ := List.mem_map.mp h2
    exact va_Nw.warmF hW h1
  · obtain ⟨q, -, rfl⟩ := List.mem_map.mp h2
    exact va_Nw.warmM hW h1
theorem NW.calling {U : State} {g : JFrame} {mk : MethodId} {a : Array Value} (h : NW U) : NW (U.calling g mk a) := by
  intro w hw
  have h1 := h w hw
  rcases List.mem_append.mp hw with h2 | h2
  · obtain ⟨q, -, rfl⟩ := List.mem_map.mp h2
    exact va_Nw.same rfl rfl h1
  · obtain ⟨q, -, rfl⟩ := List.mem_map.mp h2
    exact va_Nw.same rfl rfl h1
theorem tb_lt_t {x y : Int32} (h : x < y) : x.toInt < y.toInt := Int32.lt_iff_toInt_lt.mp h
theorem tb_lt_f {x y : Int32} (h : ¬ x < y) : y.toInt ≤ x.toInt := Int.not_lt.mp (fun q => h (Int32.lt_iff_toInt_lt.mpr q))
theorem tb_ge_t {x y : Int32} (h : y ≤ x) : y.toInt ≤ x.toInt := Int32.le_iff_toInt_le.mp h
theorem tb_ge_f {x y : Int32} (h : ¬ y ≤ x) : x.toInt < y.toInt := Int.not_le.mp (fun q => h (Int32.le_iff_toInt_le.mpr q))
theorem tb_gt_t {x y : Int32} (h : y < x) : y.toInt < x.toInt := Int32.lt_iff_toInt_lt.mp h
theorem tb_gt_f {x y : Int32} (h : ¬ y < x) : x.toInt ≤ y.toInt := tb_lt_f h
theorem tb_le_t {x y : Int32} (h : x ≤ y) : x.toInt ≤ y.toInt := Int32.le_iff_toInt_le.mp h
theorem tb_le_f {x y : Int32} (h : ¬ x ≤ y) : y.toInt < x.toInt := tb_ge_f h
theorem tb_eq_t {x y : Int32} (h : x = y) : x.toInt = y.toInt := by rw [h]
theorem tb_eq_f {x y : Int32} (h : ¬ x = y) : ¬ (x.toInt = y.toInt) := fun q => h (Int32.toInt_inj.mp q)
theorem tb_ne_t {x y : Int32} (h : ¬ x = y) : ¬ (x.toInt = y.toInt) := tb_eq_f h
theorem tb_ne_f {x y : Int32} (h : x = y) : x.toInt = y.toInt := tb_eq_t h
theorem ti_rng (x : Int32) : -2147483648 ≤ x.toInt ∧ x.toInt < 2147483648 := ⟨Int32.le_toInt x, Int32.toInt_lt x⟩
theorem bm_id {z : Int} (h1 : -2147483648 ≤ z) (h2 : z < 2147483648) : z.bmod (2 ^ 32) = z := Int.bmod_eq_of_le (by omega) (by omega)
theorem ti_add {x y z : Int32} (h : z = x + y) (b : -2147483648 ≤ x.toInt + y.toInt ∧ x.toInt + y.toInt < 2147483648) : z.toInt = x.toInt + y.toInt := by
  rw [h, Int32.toInt_add]; exact bm_id b.1 b.2
theorem ti_sub {x y z : Int32} (h : z = x - y) (b : -2147483648 ≤ x.toInt - y.toInt ∧ x.toInt - y.toInt < 2147483648) : z.toInt = x.toInt - y.toInt := by
  rw [h, Int32.toInt_sub]; exact bm_id b.1 b.2
theorem ti_mul {x y z : Int32} (h : z = x * y) (b : -2147483648 ≤ x.toInt * y.toInt ∧ x.toInt * y.toInt < 2147483648) : z.toInt = x.toInt * y.toInt := by
  rw [h, Int32.toInt_mul]; exact bm_id b.1 b.2
theorem ti_inc {x z k : Int32} {n : Int} (h : z = x + k) (hk : k.toInt = n) (b1 : -2147483648 ≤ x.toInt + n) (b2 : x.toInt + n < 2147483648) : z.toInt = x.toInt + n := by
  rw [ti_add h (by rw [hk]; exact ⟨b1, b2⟩), hk]
theorem nar_bool {r : Int32} (h : r = 0 ∨ r = 1) : narrow .boolean (.int r) = .int r := by
  rcases h with h | h <;> subst h <;> rfl
theorem ti_add2 {x y z : Int32} {a b : Int} (h : z = x + y) (hx : x.toInt = a) (hy : y.toInt = b) (b1 : -2147483648 ≤ a + b) (b2 : a + b < 2147483648) : z.toInt = a + b := by
  subst hx hy; exact ti_add h ⟨b1, b2⟩
theorem ti_sub2 {x y z : Int32} {a b : Int} (h : z = x - y) (hx : x.toInt = a) (hy : y.toInt = b) (b1 : -2147483648 ≤ a - b) (b2 : a - b < 2147483648) : z.toInt = a - b := by
  subst hx hy; exact ti_sub h ⟨b1, b2⟩
theorem ti_mul2 {x y z : Int32} {a b : Int} (h : z = x * y) (hx : x.toInt = a) (hy : y.toInt = b) (b1 : -2147483648 ≤ a * b) (b2 : a * b < 2147483648) : z.toInt = a * b := by
  subst hx hy; exact ti_mul h ⟨b1, b2⟩
theorem lt0 : (0 : Int32).toInt = 0 := rfl
theorem lt1 : (1 : Int32).toInt = 1 := rfl
theorem ltm1 : (-1 : Int32).toInt = -1 := rfl
theorem lt400 : (400 : Int32).toInt = 400 := rfl
theorem nlt0 {x : Int32} (h : 0 ≤ x.toInt) : ¬ x < 0 := fun q => by have h2 := tb_lt_t q; rw [lt0] at h2; omega
theorem cl_nat {x : Int32} : (x.toNatClampNeg : Int) = max x.toInt 0 := by
  show ((x.toInt.toNat : Nat) : Int) = _
  omega
theorem ti_mmax {x y z : Int32} {a b : Int} (h : z = if x < y then y else x) (hx : x.toInt = a) (hy : y.toInt = b) : a ≤ z.toInt ∧ b ≤ z.toInt ∧ (z.toInt = a ∨ z.toInt = b) := by
  subst h
  by_cases q : x < y
  · have := tb_lt_t q
    simp only [if_pos q]; omega
  · have := tb_lt_f q
    simp only [if_neg q]; omega
theorem ti_mmin {x y z : Int32} {a b : Int} (h : z = if y < x then y else x) (hx : x.toInt = a) (hy : y.toInt = b) : z.toInt ≤ a ∧ z.toInt ≤ b ∧ (z.toInt = a ∨ z.toInt = b) := by
  subst h
  by_cases q : y < x
  · have := tb_lt_t q
    simp only [if_pos q]; omega
  · have := tb_lt_f q
    simp only [if_neg q]; omega
theorem ti_mask {x k z : Int32} {n : Nat} (h : z = x &&& k) (hk : k = Int32.ofNat n ∧ n < 2 ^ 31) : 0 ≤ z.toInt ∧ z.toInt ≤ n := by
  obtain ⟨rfl, hn⟩ := hk
  have e1 : z.toBitVec = x.toBitVec &&& BitVec.ofNat 32 n := by rw [h]; rfl
  have e2 : z.toBitVec.toNat ≤ n := by
    rw [e1, BitVec.toNat_and, BitVec.toNat_ofNat, Nat.mod_eq_of_lt (by omega)]
    exact Nat.and_le_right
  have e3 : z.toInt = z.toBitVec.toInt := rfl
  rw [e3, BitVec.toInt_eq_toNat_of_lt (by omega)]
  omega
theorem ti_maskl {x k z : Int32} {n : Nat} (h : z = k &&& x) (hk : k = Int32.ofNat n ∧ n < 2 ^ 31) : 0 ≤ z.toInt ∧ z.toInt ≤ n := by
  refine ti_mask (x := x) (k := k) ?_ hk
  rw [h]
  show (⟨⟨k.toBitVec &&& x.toBitVec⟩⟩ : Int32) = ⟨⟨x.toBitVec &&& k.toBitVec⟩⟩
  rw [BitVec.and_comm]
