/-! ===== the fault ===== -/
theorem sx_fault {n : Nat} {f nm nmm fs fm9 fu fk shr tx : Nat → Int32} {taped ops9 vs9 terms rules iss shn on fault th : Int32} {xx h v ga rt rs sw rw0 : Nat → Nat → Int32} {w : Nat → Nat → Int64} (hst : STR f nm nmm fs fm9 fu fk shr tx taped ops9 vs9 terms rules iss shn xx h v ga rt rs sw rw0 w on fault) :
    fx_fault n th fault = some (fault, 0) ∧ fx_X9_fault n xx = some fault := by
  refine ⟨rfl, ?_⟩
  unfold fx_X9_fault
  rcases hst with ⟨L, hr, hc⟩ | ⟨L, ops, vs, Tm, R, sh, hr, hc⟩
  · rw [hc.2.2.2.2.2.2.1]
  · rw [hc.2.2.2.2.2.2.1]
