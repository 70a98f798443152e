/-! ===== what a throwing method takes as given, and how it is handed on ===== -/
def exN (k : Nat) : String := match k with
  | 0 => "java/lang/IllegalArgumentException"
  | 1 => "java/lang/IllegalStateException"
  | 2 => "java/lang/IndexOutOfBoundsException"
  | _ => "java/util/NoSuchElementException"
def xstr : List (Nat × String) := [(127, "the text is no signature"), (155, "the term is too great"), (176, "a side is too great, or left is a variable"), (184, "right has another variable, or there are 8 rules"), (186, "the text is wrong"), (195, "there are 30 others"), (221, "another what"), (275, "no such place"), (287, "nothing is shown"), (300, "no such match, or the variable is not in the pattern"), (314, "too many matches"), (323, "the operator is not ac"), (334, "it is too great"), (364, "too many steps or matches"), (366, "no such step"), (377, "too much is reached"), (389, "no such term is reached"), (417, "no such term"), (420, "no such rule"), (422, "no such operator"), (424, "no such variable"), (426, "n is not 0 to 4")]
def xsup : List String := ["java/lang/RuntimeException", "java/lang/Exception", "java/lang/Throwable"]
def XW (A : Nat → Prop) (U : State) (H : Heap) : Prop := (∀ q ∈ xstr, ∃ a : Nat, vk_R RX9 q.1 q.2 a U) ∧ vx_Zq Bundle.tN "UNASSIGNED_STACK" Bundle.steD A U H ∧ vx_Zq Bundle.tN "SUPPRESSED_SENTINEL" Bundle.listD A U H ∧ (∀ k : Nat, k < 4 → va_Nw (.castable (exN k) (exN k)) U) ∧ ∀ Y ∈ xsup, va_Nw (.declares (Bundle.initS Y)) U
theorem XW.go {A A1 : Nat → Prop} {s U : State} {H : Heap} {locs : List Loc} (hW : s.WarmedH U.vm) (h : XW A s s.heap) (hS : va_S A s.heap H locs) (hU : U.heap = H) (hf : ∀ q, A1 q → A q) : XW A1 U U.heap := by
  obtain ⟨h1, h2, h3, h4, h5⟩ := h
  refine ⟨fun q hq => ?_, ?_, ?_, fun k hk => va_Nw.warmC hW (h4 k hk), fun Y hY => va_Nw.warmD hW (h5 Y hY)⟩
  · obtain ⟨a, ha⟩ := h1 q hq
    exact ⟨a, vk_R.warm hW ha⟩
  · rw [hU]
    exact ((vx_Zq.moved hW.alike h2).kept hS.2.1).narrow hf
  · rw [hU]
    exact ((vx_Zq.moved hW.alike h3).kept hS.2.1).narrow hf
theorem XW.calling {A : Nat → Prop} {U : State} {g : JFrame} {mk : MethodId} {a : Array Value} (h : XW A U U.heap) : XW A (U.calling g mk a) (U.calling g mk a).heap := by
  obtain ⟨h1, h2, h3, h4, h5⟩ := h
  refine ⟨fun q hq => ?_, ?_, ?_, fun k hk => va_Nw.same rfl rfl (h4 k hk), fun Y hY => va_Nw.same rfl rfl (h5 Y hY)⟩
  · obtain ⟨b, hb⟩ := h1 q hq
    exact ⟨b, vk_R.same rfl hb⟩
  · exact vx_Zq.moved (Vm.Alike.refl U.vm) h2
  · exact vx_Zq.moved (Vm.Alike.refl U.vm) h3
theorem va_P_kept {D : va_G} {cl : List vw_C} {ws : va_W} {H H1 : Heap} (hP : va_P D cl ws H) (hk : ∀ q : Nat, q < H.size → H1[q]? = H[q]?) : va_P D cl ws H1 := fun k q hq => (hP k q hq).kept (hk q.1 (hP k q hq).lt)
theorem va_F_kept {A : Nat → Prop} {s t : State} {H : Heap} {locs : List Loc} (hS : va_S A s.heap H locs) (hsz : H.size ≤ t.heap.size) (hk : ∀ q : Nat, q < H.size → t.heap[q]? = H[q]?) : va_F A s t := ⟨Nat.le_trans hS.1 hsz, fun q h1 h2 => (hk q (Nat.lt_of_lt_of_le h1 hS.1)).trans (hS.2.1 q h1 h2)⟩
