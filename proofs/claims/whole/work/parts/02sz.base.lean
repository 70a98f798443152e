theorem sc_shr0z {x : Int32} (h0 : 0 ≤ x.toInt) (h1 : x.toInt ≤ 400) : x >>> ((0 : Int32) &&& 31) = x := by
  obtain ⟨n, hn⟩ : ∃ n : Nat, n = x.toInt.toNat := ⟨_, rfl⟩
  have e : x = nI n := by
    apply Int32.toInt_inj.mp
    rw [nI_toInt (by omega)]
    omega
  rw [e]
  exact sc_shr0 (by omega)
