/-! ===== String constants, with their bytes ===== -/
/-- a String of n bytes, all Latin 1, that nobody writes -/
def ZX (a n : Nat) (b : Nat → Int32) (A : Nat → Prop) (U : State) (H : Heap) : Prop := n ≤ 400 ∧ va_O "java/lang/String" a A U H ∧ va_OF "java/lang/String" "coder" "B" (.int 0) a A U H ∧ ∃ v : Nat, va_OF "java/lang/String" "value" "[B" (.ref v) a A U H ∧ va_T .byte v n (fun j => .int (b j)) A U H
/-- its bytes alone -/
def ZV (v n : Nat) (b : Nat → Int32) (A : Nat → Prop) (U : State) (H : Heap) : Prop := n ≤ 400 ∧ va_T .byte v n (fun j => .int (b j)) A U H
/-- the two statics -/
def ZC (u : Unit) (A : Nat → Prop) (U : State) (H : Heap) : Prop := va_Z "java/lang/String" "COMPACT_STRINGS" "Z" (.int 1) A U H ∧ va_Zq "jdk/internal/util/Preconditions" "SIOOBE_FORMATTER" "Ljava/util/function/BiFunction;" A U H
def wstr : List (Nat × String × List Nat) := [(136, "free", [102, 114, 101, 101]), (142, "c", [99]), (144, "ac", [97, 99]), (146, "unit", [117, 110, 105, 116]), (147, "var", [118, 97, 114])]
def ZW (u : Unit) (A : Nat → Prop) (U : State) (H : Heap) : Prop := ZC () A U H ∧ ∀ q ∈ wstr, ∃ a : Nat, vk_R RX10 q.1 q.2.1 a U ∧ ZX a q.2.2.length (ltr q.2.2) A U H
theorem ZX.go {a n : Nat} {b : Nat → Int32} {A A1 : Nat → Prop} {s U : State} {H : Heap} {locs : List Loc} (hW : s.WarmedH U.vm) (h : ZX a n b A s s.heap) (hS : va_S A s.heap H locs) (hU : U.heap = H) (hf : ∀ q, A1 q → A q) : ZX a n b A1 U U.heap := by
  obtain ⟨h0, h1, h2, v, h3, h4⟩ := h
  rw [hU]
  exact ⟨h0, ((va_O.moved hW.alike h1).kept hS.2.1).narrow hf, ((va_OF.moved hW.alike h2).kept hS.2.1).narrow hf, v, ((va_OF.moved hW.alike h3).kept hS.2.1).narrow hf, ((va_T.moved hW.alike h4).kept hS.2.1).narrow hf⟩
theorem ZX.calling {a n : Nat} {b : Nat → Int32} {A : Nat → Prop} {U : State} {g : JFrame} {mk : MethodId} {x : Array Value} (h : ZX a n b A U U.heap) : ZX a n b A (U.calling g mk x) (U.calling g mk x).heap := by
  obtain ⟨h0, h1, h2, v, h3, h4⟩ := h
  exact ⟨h0, va_O.moved (Vm.Alike.refl U.vm) h1, va_OF.moved (Vm.Alike.refl U.vm) h2, v, va_OF.moved (Vm.Alike.refl U.vm) h3, va_T.moved (Vm.Alike.refl U.vm) h4⟩
theorem ZV.go {v n : Nat} {b : Nat → Int32} {A A1 : Nat → Prop} {s U : State} {H : Heap} {locs : List Loc} (hW : s.WarmedH U.vm) (h : ZV v n b A s s.heap) (hS : va_S A s.heap H locs) (hU : U.heap = H) (hf : ∀ q, A1 q → A q) : ZV v n b A1 U U.heap := by
  obtain ⟨h0, h4⟩ := h
  rw [hU]
  exact ⟨h0, ((va_T.moved hW.alike h4).kept hS.2.1).narrow hf⟩
theorem ZV.calling {v n : Nat} {b : Nat → Int32} {A : Nat → Prop} {U : State} {g : JFrame} {mk : MethodId} {x : Array Value} (h : ZV v n b A U U.heap) : ZV v n b A (U.calling g mk x) (U.calling g mk x).heap := by
  obtain ⟨h0, h4⟩ := h
  exact ⟨h0, va_T.moved (Vm.Alike.refl U.vm) h4⟩
theorem ZC.go {u : Unit} {A A1 : Nat → Prop} {s U : State} {H : Heap} {locs : List Loc} (hW : s.WarmedH U.vm) (h : ZC u A s s.heap) (hS : va_S A s.heap H locs) (hU : U.heap = H) (hf : ∀ q, A1 q → A q) : ZC u A1 U U.heap := by
  rw [hU]
  exact ⟨((va_Z.moved hW.alike h.1).kept hS.2.1).narrow hf, ((va_Zq.moved hW.alike h.2).kept hS.2.1).narrow hf⟩
theorem ZC.calling {u : Unit} {A : Nat → Prop} {U : State} {g : JFrame} {mk : MethodId} {x : Array Value} (h : ZC u A U U.heap) : ZC u A (U.calling g mk x) (U.calling g mk x).heap :=
  ⟨va_Z.moved (Vm.Alike.refl U.vm) h.1, va_Zq.moved (Vm.Alike.refl U.vm) h.2⟩
theorem ZW.go {u : Unit} {A A1 : Nat → Prop} {s U : State} {H : Heap} {locs : List Loc} (hW : s.WarmedH U.vm) (h : ZW u A s s.heap) (hS : va_S A s.heap H locs) (hU : U.heap = H) (hf : ∀ q, A1 q → A q) : ZW u A1 U U.heap := by
  refine ⟨ZC.go hW h.1 hS hU hf, fun q hq => ?_⟩
  obtain ⟨a, h1, h2⟩ := h.2 q hq
  exact ⟨a, vk_R.warm hW h1, ZX.go hW h2 hS hU hf⟩
theorem ZW.calling {u : Unit} {A : Nat → Prop} {U : State} {g : JFrame} {mk : MethodId} {x : Array Value} (h : ZW u A U U.heap) : ZW u A (U.calling g mk x) (U.calling g mk x).heap := by
  refine ⟨ZC.calling h.1, fun q hq => ?_⟩
  obtain ⟨a, h1, h2⟩ := h.2 q hq
  exact ⟨a, vk_R.same rfl h1, ZX.calling h2⟩
theorem ZO.recv {a n : Nat} {b : Nat → Int32} {A : Nat → Prop} {s : State} {H : Heap} {locs : List Loc} (h : ZX a n b A s s.heap) (hS : va_S A s.heap H locs) : ∃ cell : Cell, H[a]? = some cell ∧ cell.vm.isStatics = false ∧ s.vm.findClass "java/lang/String" = some cell.cls := by
  obtain ⟨cell, h1, h2, h3, -⟩ := h.2.1.kept hS.2.1
  exact ⟨cell, h1, h2, h3⟩
theorem sc_shr0z {x : Int32} (h0 : 0 ≤ x.toInt) (h1 : x.toInt ≤ 400) : x >>> ((0 : Int32) &&& 31) = x := by
  have e : x = nI x.toInt.toNat := by
    apply Int32.toInt_inj.mp
    rw [nI_toInt (by omega)]
    omega
  rw [e]
  exact sc_shr0 (by omega)
