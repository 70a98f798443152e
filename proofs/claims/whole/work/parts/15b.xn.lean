/-! ===== the four exceptions are none of them another ===== -/
def XN (U : State) : Prop := ∀ j k : Nat, j < 4 → k < 4 → j ≠ k → va_Nc (exN j) (exN k) U
theorem XN.warm {s U : State} (hW : s.WarmedH U.vm) (h : XN s) : XN U := fun j k a b c => va_Nc.moved hW.alike (h j k a b c)
theorem XN.calling {U : State} {g : JFrame} {mk : MethodId} {a : Array Value} (h : XN U) : XN (U.calling g mk a) := fun j k x y z => va_Nc.moved (Vm.Alike.refl U.vm) (h j k x y z)
