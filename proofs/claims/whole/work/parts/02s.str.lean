/-! ===== String constants: what the reference takes as given of them ===== -/
/-- a String of n bytes, all Latin 1, that nobody writes -/
def SX (a n : Nat) (A : Nat → Prop) (U : State) (H : Heap) : Prop := n ≤ 400 ∧ va_O "java/lang/String" a A U H ∧ va_OF "java/lang/String" "coder" "B" (.int 0) a A U H ∧ ∃ (v : Nat) (b : Nat → Int32), va_OF "java/lang/String" "value" "[B" (.ref v) a A U H ∧ va_T .byte v n (fun j => .int (b j)) A U H
/-- its bytes alone -/
def SV (v n : Nat) (A : Nat → Prop) (U : State) (H : Heap) : Prop := n ≤ 400 ∧ ∃ b : Nat → Int32, va_T .byte v n (fun j => .int (b j)) A U H
/-- the two statics -/
def SC (u : Unit) (A : Nat → Prop) (U : State) (H : Heap) : Prop := va_Z "java/lang/String" "COMPACT_STRINGS" "Z" (.int 1) A U H ∧ va_Zq "jdk/internal/util/Preconditions" "SIOOBE_FORMATTER" "Ljava/util/function/BiFunction;" A U H
def wstr : List (Nat × String × Nat) := [(136, "free", 4), (142, "c", 1), (144, "ac", 2), (146, "unit", 4), (147, "var", 3)]
def SW (u : Unit) (A : Nat → Prop) (U : State) (H : Heap) : Prop := SC () A U H ∧ ∀ q ∈ wstr, ∃ a : Nat, vk_R RX10 q.1 q.2.1 a U ∧ SX a q.2.2 A U H
theorem SX.go {a n : Nat} {A A1 : Nat → Prop} {s U : State} {H : Heap} {locs : List Loc} (hW : s.WarmedH U.vm) (h : SX a n A s s.heap) (hS : va_S A s.heap H locs) (hU : U.heap = H) (hf : ∀ q, A1 q → A q) : SX a n A1 U U.heap := by
  obtain ⟨h0, h1, h2, v, b, h3, h4⟩ := h
  rw [hU]
  exact ⟨h0, ((va_O.moved hW.alike h1).kept hS.2.1).narrow hf, ((va_OF.moved hW.alike h2).kept hS.2.1).narrow hf, v, b, ((va_OF.moved hW.alike h3).kept hS.2.1).narrow hf, ((va_T.moved hW.alike h4).kept hS.2.1).narrow hf⟩
theorem SX.calling {a n : Nat} {A : Nat → Prop} {U : State} {g : JFrame} {mk : MethodId} {x : Array Value} (h : SX a n A U U.heap) : SX a n A (U.calling g mk x) (U.calling g mk x).heap := by
  obtain ⟨h0, h1, h2, v, b, h3, h4⟩ := h
  exact ⟨h0, va_O.moved (Vm.Alike.refl U.vm) h1, va_OF.moved (Vm.Alike.refl U.vm) h2, v, b, va_OF.moved (Vm.Alike.refl U.vm) h3, va_T.moved (Vm.Alike.refl U.vm) h4⟩
theorem SV.go {v n : Nat} {A A1 : Nat → Prop} {s U : State} {H : Heap} {locs : List Loc} (hW : s.WarmedH U.vm) (h : SV v n A s s.heap) (hS : va_S A s.heap H locs) (hU : U.heap = H) (hf : ∀ q, A1 q → A q) : SV v n A1 U U.heap := by
  obtain ⟨h0, b, h4⟩ := h
  rw [hU]
  exact ⟨h0, b, ((va_T.moved hW.alike h4).kept hS.2.1).narrow hf⟩
theorem SV.calling {v n : Nat} {A : Nat → Prop} {U : State} {g : JFrame} {mk : MethodId} {x : Array Value} (h : SV v n A U U.heap) : SV v n A (U.calling g mk x) (U.calling g mk x).heap := by
  obtain ⟨h0, b, h4⟩ := h
  exact ⟨h0, b, va_T.moved (Vm.Alike.refl U.vm) h4⟩
theorem SC.go {u : Unit} {A A1 : Nat → Prop} {s U : State} {H : Heap} {locs : List Loc} (hW : s.WarmedH U.vm) (h : SC u A s s.heap) (hS : va_S A s.heap H locs) (hU : U.heap = H) (hf : ∀ q, A1 q → A q) : SC u A1 U U.heap := by
  rw [hU]
  exact ⟨((va_Z.moved hW.alike h.1).kept hS.2.1).narrow hf, ((va_Zq.moved hW.alike h.2).kept hS.2.1).narrow hf⟩
theorem SC.calling {u : Unit} {A : Nat → Prop} {U : State} {g : JFrame} {mk : MethodId} {x : Array Value} (h : SC u A U U.heap) : SC u A (U.calling g mk x) (U.calling g mk x).heap :=
  ⟨va_Z.moved (Vm.Alike.refl U.vm) h.1, va_Zq.moved (Vm.Alike.refl U.vm) h.2⟩
theorem SW.go {u : Unit} {A A1 : Nat → Prop} {s U : State} {H : Heap} {locs : List Loc} (hW : s.WarmedH U.vm) (h : SW u A s s.heap) (hS : va_S A s.heap H locs) (hU : U.heap = H) (hf : ∀ q, A1 q → A q) : SW u A1 U U.heap := by
  refine ⟨SC.go hW h.1 hS hU hf, fun q hq => ?_⟩
  obtain ⟨a, h1, h2⟩ := h.2 q hq
  exact ⟨a, vk_R.warm hW h1, SX.go hW h2 hS hU hf⟩
theorem SW.calling {u : Unit} {A : Nat → Prop} {U : State} {g : JFrame} {mk : MethodId} {x : Array Value} (h : SW u A U U.heap) : SW u A (U.calling g mk x) (U.calling g mk x).heap := by
  refine ⟨SC.calling h.1, fun q hq => ?_⟩
  obtain ⟨a, h1, h2⟩ := h.2 q hq
  exact ⟨a, vk_R.same rfl h1, SX.calling h2⟩
theorem SO.recv {a n : Nat} {A : Nat → Prop} {s : State} {H : Heap} {locs : List Loc} (h : SX a n A s s.heap) (hS : va_S A s.heap H locs) : ∃ cell : Cell, H[a]? = some cell ∧ cell.vm.isStatics = false ∧ s.vm.findClass "java/lang/String" = some cell.cls := by
  obtain ⟨cell, h1, h2, h3, -⟩ := h.2.1.kept hS.2.1
  exact ⟨cell, h1, h2, h3⟩
