/-! ===== the tape ===== -/
/-- a byte as it is kept -/
def sb (b : Nat) : Int32 := (Int8.ofBitVec (BitVec.ofNat 8 b)).toInt32
def gb (L : List Nat) (i : Nat) : Nat := L.getD i 0
/-- a tape's bytes -/
def TPE (f : Nat → Int32) (L : List Nat) : Prop := L.length ≤ 400 ∧ (∀ b ∈ L, b < 256) ∧ ∀ i : Nat, i < L.length → f i = sb (gb L i)
theorem sb_lo : ∀ b : Fin 128, sb b.val = nI b.val := by decide +kernel
theorem sb_hi : ∀ b : Fin 256, 128 ≤ b.val → (sb b.val).toInt < 0 := by decide +kernel
theorem gb_mem {L : List Nat} {i : Nat} (h : i < L.length) : gb L i ∈ L := by
  unfold gb
  rw [List.getD_eq_getElem?_getD, List.getElem?_eq_getElem h]
  exact List.getElem_mem h
/-- the k-th byte of a number -/
def byt (x : Int32) (k : Nat) : Nat := (x.toBitVec.extractLsb' (24 - 8 * k) 8).toNat
theorem byt_lt {x : Int32} {k : Nat} : byt x k < 256 := BitVec.isLt _
theorem nar_is {y : Int32} : vp_nar .byte (y.toInt8.toInt32) = y.toInt8.toInt32 := by
  show (y.toInt8.toInt32).toInt8.toInt32 = _
  rw [Int8.toInt8_toInt32]
theorem byt_is {x : Int32} : ∀ {k : Nat}, k < 4 → (x >>> (nI (24 - 8 * k) &&& 31)).toInt8.toInt32 = sb (byt x k) := fun {k} hk => by
  have key : ∀ k : Fin 4, ((nI (24 - 8 * k.val) &&& 31).toBitVec.smod 32).toNat = 24 - 8 * k.val := by decide +kernel
  unfold sb byt
  refine congrArg Int8.toInt32 ?_
  rw [BitVec.ofNat_toNat, BitVec.setWidth_eq]
  apply Int8.toBitVec_inj.mp
  show _ = x.toBitVec.extractLsb' (24 - 8 * k) 8
  rw [Int32.toBitVec_toInt8, Int32.toBitVec_shiftRight]
  unfold BitVec.sshiftRight'
  rw [key ⟨k, hk⟩]
  apply BitVec.eq_of_getLsbD_eq
  intro i hi
  rw [BitVec.getLsbD_signExtend, BitVec.getLsbD_extractLsb', BitVec.getLsbD_sshiftRight]
  have h1 : i < 32 := by omega
  have h2 : 24 - 8 * k + i < 32 := by omega
  have h3 : ¬ 32 ≤ i := by omega
  simp [hi, h1, h2, h3]
