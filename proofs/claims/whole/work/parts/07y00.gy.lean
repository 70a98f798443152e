def wo_X3_isBlanky : List Cond := .code yX3_isBlank cX3_isBlank 1 (some .boolean) :: (([] : List Cond))
abbrev ww_X3_isBlanky (dC : Nat → ClassId) (dI : Nat → Nat → Nat) (cI cJ cB : ClassId) (sz : Nat) (p0 : Int32) (n9 : Nat) (r1 : Int32) : va_W := []
abbrev at_X3_isBlanky (dC : Nat → ClassId) (dI : Nat → Nat → Nat) (cI cJ cB : ClassId) (sz : Nat) (p0 : Int32) (n9 : Nat) (r1 : Int32) (u : Unit) (t : State) : Prop := match u with
  | () => va_P (dC, dI) vwCl [] t.heap ∧ va_K (dC, dI) vwCl (tyL cI cJ cB) t ∧ va_D (va_A (ww_X3_isBlanky dC dI cI cJ cB  sz p0 n9 r1) sz) []
abbrev qc_X3_isBlanky (dC : Nat → ClassId) (dI : Nat → Nat → Nat) (cI cJ cB : ClassId) (sz : Nat) (p0 : Int32) (n9 : Nat) (r1 : Int32) : Array Value → State → Outcome → State → Prop := va_Qi (fun (r : Int32) (u : Unit) => match u with | () => (r = r1)) (at_X3_isBlanky dC dI cI cJ cB  sz p0 n9 r1) (va_A (ww_X3_isBlanky dC dI cI cJ cB  sz p0 n9 r1) sz)
abbrev pc_X3_isBlanky (dC : Nat → ClassId) (dI : Nat → Nat → Nat) (cI cJ cB : ClassId) (sz : Nat) (p0 : Int32) (n9 : Nat) (r1 : Int32) : Array Value → State → Prop := va_Pc [.int p0] (fun U => U.heap.size = sz ∧ NW U ∧ va_P (dC, dI) vwCl (ww_X3_isBlanky dC dI cI cJ cB  sz p0 n9 r1) U.heap ∧ va_K (dC, dI) vwCl (tyL cI cJ cB) U ∧ va_D (fun _ => True) (ww_X3_isBlanky dC dI cI cJ cB  sz p0 n9 r1))
abbrev rm_X3_isBlanky : Room := { frames := 0, cells := 0, slots := 0, locals := 0 }
abbrev WW_X3_isBlanky (p : Program) (l : Launch) (e : Env) (s : State) (m : MethodId) (below : List Frame) (meth : Method) (c : Code) (dC : Nat → ClassId) (dI : Nat → Nat → Nat) (cI cJ cB : ClassId) (sz : Nat) (p0 : Int32) (n9 : Nat) (r1 : Int32) (H : Heap) (locs : List Loc) (g : JFrame) : Prop := W p l e rm_X3_isBlanky s m ([.int p0] : List Value).toArray below meth c H locs 0 0 (MQ below (qc_X3_isBlanky dC dI cI cJ cB  sz p0 n9 r1) ([.int p0] : List Value).toArray s 0 0 (va_A (ww_X3_isBlanky dC dI cI cJ cB  sz p0 n9 r1) sz)) g
set_option maxHeartbeats 4000000 in
set_option maxRecDepth 100000 in
theorem c_X3_isBlanky (l : Launch) (dC : Nat → ClassId) (dI : Nat → Nat → Nat) (cI cJ cB : ClassId) (sz : Nat) (p0 : Int32) (n9 : Nat) (r1 : Int32) (hf : fx_X3_isBlank n9 p0 = some (r1)) : Met l yX3_isBlank wo_X3_isBlanky rm_X3_isBlanky (pc_X3_isBlanky dC dI cI cJ cB  sz p0 n9 r1) (qc_X3_isBlanky dC dI cI cJ cB  sz p0 n9 r1) 0 0 (va_A (ww_X3_isBlanky dC dI cI cJ cB  sz p0 n9 r1) sz) := by
  unfold fx_X3_isBlank at hf
  refine Met.ofW (cc := cX3_isBlank) (maxL := 1) (ret := (some .boolean)) (by decide) rfl ?_
  intro p e s m args below meth c s₁ B hml hv
  obtain ⟨rfl, hsz, hnw, hP, hK, hD0⟩ := hv
  have hx := B.exec
  have hb := B.bytes
  have hr := B.returns
  have hts := atoms_spec (ws := wo_X3_isBlanky) B.pre
  have hown : s.vm.findClass RX3 = some m.cls := findClass_of_methodNamed B.named
  have hlocks := B.notSynchronized
  clear B
  subst hsz
  have hD := hD0.self (sz := s.heap.size)
  clear hD0
  have hA : ∀ q : Nat, s.heap.size ≤ q → (va_A (ww_X3_isBlanky dC dI cI cJ cB  s.heap.size p0 n9 r1) s.heap.size) q := fun q h => Or.inr h
  have hS : va_S (va_A (ww_X3_isBlanky dC dI cI cJ cB  s.heap.size p0 n9 r1) s.heap.size) s.heap s.heap [] := va_S.rf
  have hl := lv_entry ([.int p0]) (n := 1) (Nat.le_of_ble_eq_true rfl)
  rw [lg_entry_eq]
  generalize (lg_sl ([.int p0]) ++ List.replicate (1 - (lg_sl ([.int p0])).length) Slot.unset).toArray = ls at hl ⊢
  have hl : lv_has ls 1 [(0, .int p0)] := hl
  have hP : va_P (dC, dI) vwCl [] s.heap := hP
  have hD : va_D (va_A (ww_X3_isBlanky dC dI cI cJ cB  s.heap.size p0 n9 r1) s.heap.size) [] := hD
  obtain ⟨H, hH⟩ : ∃ H, H = s.heap := ⟨_, rfl⟩
  obtain ⟨locs, hlc⟩ : ∃ L : List Loc, L = [] := ⟨_, rfl⟩
  have hS : va_S (va_A (ww_X3_isBlanky dC dI cI cJ cB  s.heap.size p0 n9 r1) s.heap.size) s.heap H locs := by rw [hH, hlc]; exact hS
  have hP : va_P (dC, dI) vwCl [] H := by rw [hH]; exact hP
  suffices hgo : WW_X3_isBlanky p l e s m below meth c dC dI cI cJ cB  s.heap.size p0 n9 r1 H locs (F0 m 0 ls []) by rw [hH, hlc] at hgo; exact hgo
  clear hH hlc
  refine lv_iload_n hx hb dX3_isBlank_0 rfl (lv_at hl 0 rfl) ?_
  refine lv_bipush (v := 9) hx hb dX3_isBlank_1 (by decide) ?_
  refine lv_icmp_eq (tgt := 18) hx hb dX3_isBlank_3 (by decide) (fun c_1 => ?_) (fun c_1 => ?_)
  · replace hf := xi_t c_1 hf
    refine lv_iconst (v := 1) hx hb dX3_isBlank_18 (by decide) ?_
    refine lv_goto (tgt := 23) hx hb dX3_isBlank_19 (by decide) ?_
    have hP9 := hP.sub (ws' := []) [] rfl
    have hD9 := hD.sub (ws' := []) [] (by decide) rfl
    have r9_0 : (1 : Int32) = r1 := (Option.some.inj hf)
    exact W.zret (v := (1 : Int32)) hx hb hr rfl (fun t ht hW => ⟨⟨(1 : Int32), (), rfl, r9_0, by rw [ht]; exact hP9, va_K.moved hW.alike hK, hD9⟩, hS.F ht⟩) hS.2.2 dX3_isBlank_23
  · replace hf := xi_f c_1 hf
    refine lv_iload_n hx hb dX3_isBlank_6 rfl (lv_at hl 0 rfl) ?_
    refine lv_bipush (v := 10) hx hb dX3_isBlank_7 (by decide) ?_
    refine lv_icmp_eq (tgt := 18) hx hb dX3_isBlank_9 (by decide) (fun c_2 => ?_) (fun c_2 => ?_)
    · replace hf := xi_t c_2 hf
      refine lv_iconst (v := 1) hx hb dX3_isBlank_18 (by decide) ?_
      refine lv_goto (tgt := 23) hx hb dX3_isBlank_19 (by decide) ?_
      have hP9 := hP.sub (ws' := []) [] rfl
      have hD9 := hD.sub (ws' := []) [] (by decide) rfl
      have r9_0 : (1 : Int32) = r1 := (Option.some.inj hf)
      exact W.zret (v := (1 : Int32)) hx hb hr rfl (fun t ht hW => ⟨⟨(1 : Int32), (), rfl, r9_0, by rw [ht]; exact hP9, va_K.moved hW.alike hK, hD9⟩, hS.F ht⟩) hS.2.2 dX3_isBlank_23
    · replace hf := xi_f c_2 hf
      refine lv_iload_n hx hb dX3_isBlank_12 rfl (lv_at hl 0 rfl) ?_
      refine lv_bipush (v := 32) hx hb dX3_isBlank_13 (by decide) ?_
      refine lv_icmp_ne (tgt := 22) hx hb dX3_isBlank_15 (by decide) (fun c_3 => ?_) (fun c_3 => ?_)
      · replace hf := xi_f c_3 hf
        refine lv_iconst (v := 0) hx hb dX3_isBlank_22 (by decide) ?_
        have hP9 := hP.sub (ws' := []) [] rfl
        have hD9 := hD.sub (ws' := []) [] (by decide) rfl
        have r9_0 : (0 : Int32) = r1 := (Option.some.inj hf)
        exact W.zret (v := (0 : Int32)) hx hb hr rfl (fun t ht hW => ⟨⟨(0 : Int32), (), rfl, r9_0, by rw [ht]; exact hP9, va_K.moved hW.alike hK, hD9⟩, hS.F ht⟩) hS.2.2 dX3_isBlank_23
      · replace hf := xi_t c_3 hf
        refine lv_iconst (v := 1) hx hb dX3_isBlank_18 (by decide) ?_
        refine lv_goto (tgt := 23) hx hb dX3_isBlank_19 (by decide) ?_
        have hP9 := hP.sub (ws' := []) [] rfl
        have hD9 := hD.sub (ws' := []) [] (by decide) rfl
        have r9_0 : (1 : Int32) = r1 := (Option.some.inj hf)
        exact W.zret (v := (1 : Int32)) hx hb hr rfl (fun t ht hW => ⟨⟨(1 : Int32), (), rfl, r9_0, by rw [ht]; exact hP9, va_K.moved hW.alike hK, hD9⟩, hS.F ht⟩) hS.2.2 dX3_isBlank_23
def wo_X3_isLettery : List Cond := .code yX3_isLetter cX3_isLetter 1 (some .boolean) :: (([] : List Cond))
abbrev ww_X3_isLettery (dC : Nat → ClassId) (dI : Nat → Nat → Nat) (cI cJ cB : ClassId) (sz : Nat) (p0 : Int32) (n9 : Nat) (r1 : Int32) : va_W := []
abbrev at_X3_isLettery (dC : Nat → ClassId) (dI : Nat → Nat → Nat) (cI cJ cB : ClassId) (sz : Nat) (p0 : Int32) (n9 : Nat) (r1 : Int32) (u : Unit) (t : State) : Prop := match u with
  | () => va_P (dC, dI) vwCl [] t.heap ∧ va_K (dC, dI) vwCl (tyL cI cJ cB) t ∧ va_D (va_A (ww_X3_isLettery dC dI cI cJ cB  sz p0 n9 r1) sz) []
abbrev qc_X3_isLettery (dC : Nat → ClassId) (dI : Nat → Nat → Nat) (cI cJ cB : ClassId) (sz : Nat) (p0 : Int32) (n9 : Nat) (r1 : Int32) : Array Value → State → Outcome → State → Prop := va_Qi (fun (r : Int32) (u : Unit) => match u with | () => (r = r1)) (at_X3_isLettery dC dI cI cJ cB  sz p0 n9 r1) (va_A (ww_X3_isLettery dC dI cI cJ cB  sz p0 n9 r1) sz)
abbrev pc_X3_isLettery (dC : Nat → ClassId) (dI : Nat → Nat → Nat) (cI cJ cB : ClassId) (sz : Nat) (p0 : Int32) (n9 : Nat) (r1 : Int32) : Array Value → State → Prop := va_Pc [.int p0] (fun U => U.heap.size = sz ∧ NW U ∧ va_P (dC, dI) vwCl (ww_X3_isLettery dC dI cI cJ cB  sz p0 n9 r1) U.heap ∧ va_K (dC, dI) vwCl (tyL cI cJ cB) U ∧ va_D (fun _ => True) (ww_X3_isLettery dC dI cI cJ cB  sz p0 n9 r1))
abbrev rm_X3_isLettery : Room := { frames := 0, cells := 0, slots := 0, locals := 0 }
abbrev WW_X3_isLettery (p : Program) (l : Launch) (e : Env) (s : State) (m : MethodId) (below : List Frame) (meth : Method) (c : Code) (dC : Nat → ClassId) (dI : Nat → Nat → Nat) (cI cJ cB : ClassId) (sz : Nat) (p0 : Int32) (n9 : Nat) (r1 : Int32) (H : Heap) (locs : List Loc) (g : JFrame) : Prop := W p l e rm_X3_isLettery s m ([.int p0] : List Value).toArray below meth c H locs 0 0 (MQ below (qc_X3_isLettery dC dI cI cJ cB  sz p0 n9 r1) ([.int p0] : List Value).toArray s 0 0 (va_A (ww_X3_isLettery dC dI cI cJ cB  sz p0 n9 r1) sz)) g
set_option maxHeartbeats 4000000 in
set_option maxRecDepth 100000 in
theorem c_X3_isLettery (l : Launch) (dC : Nat → ClassId) (dI : Nat → Nat → Nat) (cI cJ cB : ClassId) (sz : Nat) (p0 : Int32) (n9 : Nat) (r1 : Int32) (hf : fx_X3_isLetter n9 p0 = some (r1)) : Met l yX3_isLetter wo_X3_isLettery rm_X3_isLettery (pc_X3_isLettery dC dI cI cJ cB  sz p0 n9 r1) (qc_X3_isLettery dC dI cI cJ cB  sz p0 n9 r1) 0 0 (va_A (ww_X3_isLettery dC dI cI cJ cB  sz p0 n9 r1) sz) := by
  unfold fx_X3_isLetter at hf
  refine Met.ofW (cc := cX3_isLetter) (maxL := 1) (ret := (some .boolean)) (by decide) rfl ?_
  intro p e s m args below meth c s₁ B hml hv
  obtain ⟨rfl, hsz, hnw, hP, hK, hD0⟩ := hv
  have hx := B.exec
  have hb := B.bytes
  have hr := B.returns
  have hts := atoms_spec (ws := wo_X3_isLettery) B.pre
  have hown : s.vm.findClass RX3 = some m.cls := findClass_of_methodNamed B.named
  have hlocks := B.notSynchronized
  clear B
  subst hsz
  have hD := hD0.self (sz := s.heap.size)
  clear hD0
  have hA : ∀ q : Nat, s.heap.size ≤ q → (va_A (ww_X3_isLettery dC dI cI cJ cB  s.heap.size p0 n9 r1) s.heap.size) q := fun q h => Or.inr h
  have hS : va_S (va_A (ww_X3_isLettery dC dI cI cJ cB  s.heap.size p0 n9 r1) s.heap.size) s.heap s.heap [] := va_S.rf
  have hl := lv_entry ([.int p0]) (n := 1) (Nat.le_of_ble_eq_true rfl)
  rw [lg_entry_eq]
  generalize (lg_sl ([.int p0]) ++ List.replicate (1 - (lg_sl ([.int p0])).length) Slot.unset).toArray = ls at hl ⊢
  have hl : lv_has ls 1 [(0, .int p0)] := hl
  have hP : va_P (dC, dI) vwCl [] s.heap := hP
  have hD : va_D (va_A (ww_X3_isLettery dC dI cI cJ cB  s.heap.size p0 n9 r1) s.heap.size) [] := hD
  obtain ⟨H, hH⟩ : ∃ H, H = s.heap := ⟨_, rfl⟩
  obtain ⟨locs, hlc⟩ : ∃ L : List Loc, L = [] := ⟨_, rfl⟩
  have hS : va_S (va_A (ww_X3_isLettery dC dI cI cJ cB  s.heap.size p0 n9 r1) s.heap.size) s.heap H locs := by rw [hH, hlc]; exact hS
  have hP : va_P (dC, dI) vwCl [] H := by rw [hH]; exact hP
  suffices hgo : WW_X3_isLettery p l e s m below meth c dC dI cI cJ cB  s.heap.size p0 n9 r1 H locs (F0 m 0 ls []) by rw [hH, hlc] at hgo; exact hgo
  clear hH hlc
  refine lv_iload_n hx hb dX3_isLetter_0 rfl (lv_at hl 0 rfl) ?_
  refine lv_bipush (v := 97) hx hb dX3_isLetter_1 (by decide) ?_
  refine lv_icmp_lt (tgt := 16) hx hb dX3_isLetter_3 (by decide) (fun c_1 => ?_) (fun c_1 => ?_)
  · replace hf := xi_t c_1 hf
    refine lv_iconst (v := 0) hx hb dX3_isLetter_16 (by decide) ?_
    have hP9 := hP.sub (ws' := []) [] rfl
    have hD9 := hD.sub (ws' := []) [] (by decide) rfl
    have r9_0 : (0 : Int32) = r1 := (Option.some.inj hf)
    exact W.zret (v := (0 : Int32)) hx hb hr rfl (fun t ht hW => ⟨⟨(0 : Int32), (), rfl, r9_0, by rw [ht]; exact hP9, va_K.moved hW.alike hK, hD9⟩, hS.F ht⟩) hS.2.2 dX3_isLetter_17
  · replace hf := xi_f c_1 hf
    refine lv_iload_n hx hb dX3_isLetter_6 rfl (lv_at hl 0 rfl) ?_
    refine lv_bipush (v := 122) hx hb dX3_isLetter_7 (by decide) ?_
    refine lv_icmp_gt (tgt := 16) hx hb dX3_isLetter_9 (by decide) (fun c_2 => ?_) (fun c_2 => ?_)
    · replace hf := xi_t c_2 hf
      refine lv_iconst (v := 0) hx hb dX3_isLetter_16 (by decide) ?_
      have hP9 := hP.sub (ws' := []) [] rfl
      have hD9 := hD.sub (ws' := []) [] (by decide) rfl
      have r9_0 : (0 : Int32) = r1 := (Option.some.inj hf)
      exact W.zret (v := (0 : Int32)) hx hb hr rfl (fun t ht hW => ⟨⟨(0 : Int32), (), rfl, r9_0, by rw [ht]; exact hP9, va_K.moved hW.alike hK, hD9⟩, hS.F ht⟩) hS.2.2 dX3_isLetter_17
    · replace hf := xi_f c_2 hf
      refine lv_iconst (v := 1) hx hb dX3_isLetter_12 (by decide) ?_
      refine lv_goto (tgt := 17) hx hb dX3_isLetter_13 (by decide) ?_
      have hP9 := hP.sub (ws' := []) [] rfl
      have hD9 := hD.sub (ws' := []) [] (by decide) rfl
      have r9_0 : (1 : Int32) = r1 := (Option.some.inj hf)
      exact W.zret (v := (1 : Int32)) hx hb hr rfl (fun t ht hW => ⟨⟨(1 : Int32), (), rfl, r9_0, by rw [ht]; exact hP9, va_K.moved hW.alike hK, hD9⟩, hS.F ht⟩) hS.2.2 dX3_isLetter_17
def wo_X3_isDigity : List Cond := .code yX3_isDigit cX3_isDigit 1 (some .boolean) :: (([] : List Cond))
abbrev ww_X3_isDigity (dC : Nat → ClassId) (dI : Nat → Nat → Nat) (cI cJ cB : ClassId) (sz : Nat) (p0 : Int32) (n9 : Nat) (r1 : Int32) : va_W := []
abbrev at_X3_isDigity (dC : Nat → ClassId) (dI : Nat → Nat → Nat) (cI cJ cB : ClassId) (sz : Nat) (p0 : Int32) (n9 : Nat) (r1 : Int32) (u : Unit) (t : State) : Prop := match u with
  | () => va_P (dC, dI) vwCl [] t.heap ∧ va_K (dC, dI) vwCl (tyL cI cJ cB) t ∧ va_D (va_A (ww_X3_isDigity dC dI cI cJ cB  sz p0 n9 r1) sz) []
abbrev qc_X3_isDigity (dC : Nat → ClassId) (dI : Nat → Nat → Nat) (cI cJ cB : ClassId) (sz : Nat) (p0 : Int32) (n9 : Nat) (r1 : Int32) : Array Value → State → Outcome → State → Prop := va_Qi (fun (r : Int32) (u : Unit) => match u with | () => (r = r1)) (at_X3_isDigity dC dI cI cJ cB  sz p0 n9 r1) (va_A (ww_X3_isDigity dC dI cI cJ cB  sz p0 n9 r1) sz)
abbrev pc_X3_isDigity (dC : Nat → ClassId) (dI : Nat → Nat → Nat) (cI cJ cB : ClassId) (sz : Nat) (p0 : Int32) (n9 : Nat) (r1 : Int32) : Array Value → State → Prop := va_Pc [.int p0] (fun U => U.heap.size = sz ∧ NW U ∧ va_P (dC, dI) vwCl (ww_X3_isDigity dC dI cI cJ cB  sz p0 n9 r1) U.heap ∧ va_K (dC, dI) vwCl (tyL cI cJ cB) U ∧ va_D (fun _ => True) (ww_X3_isDigity dC dI cI cJ cB  sz p0 n9 r1))
abbrev rm_X3_isDigity : Room := { frames := 0, cells := 0, slots := 0, locals := 0 }
abbrev WW_X3_isDigity (p : Program) (l : Launch) (e : Env) (s : State) (m : MethodId) (below : List Frame) (meth : Method) (c : Code) (dC : Nat → ClassId) (dI : Nat → Nat → Nat) (cI cJ cB : ClassId) (sz : Nat) (p0 : Int32) (n9 : Nat) (r1 : Int32) (H : Heap) (locs : List Loc) (g : JFrame) : Prop := W p l e rm_X3_isDigity s m ([.int p0] : List Value).toArray below meth c H locs 0 0 (MQ below (qc_X3_isDigity dC dI cI cJ cB  sz p0 n9 r1) ([.int p0] : List Value).toArray s 0 0 (va_A (ww_X3_isDigity dC dI cI cJ cB  sz p0 n9 r1) sz)) g
set_option maxHeartbeats 4000000 in
set_option maxRecDepth 100000 in
theorem c_X3_isDigity (l : Launch) (dC : Nat → ClassId) (dI : Nat → Nat → Nat) (cI cJ cB : ClassId) (sz : Nat) (p0 : Int32) (n9 : Nat) (r1 : Int32) (hf : fx_X3_isDigit n9 p0 = some (r1)) : Met l yX3_isDigit wo_X3_isDigity rm_X3_isDigity (pc_X3_isDigity dC dI cI cJ cB  sz p0 n9 r1) (qc_X3_isDigity dC dI cI cJ cB  sz p0 n9 r1) 0 0 (va_A (ww_X3_isDigity dC dI cI cJ cB  sz p0 n9 r1) sz) := by
  unfold fx_X3_isDigit at hf
  refine Met.ofW (cc := cX3_isDigit) (maxL := 1) (ret := (some .boolean)) (by decide) rfl ?_
  intro p e s m args below meth c s₁ B hml hv
  obtain ⟨rfl, hsz, hnw, hP, hK, hD0⟩ := hv
  have hx := B.exec
  have hb := B.bytes
  have hr := B.returns
  have hts := atoms_spec (ws := wo_X3_isDigity) B.pre
  have hown : s.vm.findClass RX3 = some m.cls := findClass_of_methodNamed B.named
  have hlocks := B.notSynchronized
  clear B
  subst hsz
  have hD := hD0.self (sz := s.heap.size)
  clear hD0
  have hA : ∀ q : Nat, s.heap.size ≤ q → (va_A (ww_X3_isDigity dC dI cI cJ cB  s.heap.size p0 n9 r1) s.heap.size) q := fun q h => Or.inr h
  have hS : va_S (va_A (ww_X3_isDigity dC dI cI cJ cB  s.heap.size p0 n9 r1) s.heap.size) s.heap s.heap [] := va_S.rf
  have hl := lv_entry ([.int p0]) (n := 1) (Nat.le_of_ble_eq_true rfl)
  rw [lg_entry_eq]
  generalize (lg_sl ([.int p0]) ++ List.replicate (1 - (lg_sl ([.int p0])).length) Slot.unset).toArray = ls at hl ⊢
  have hl : lv_has ls 1 [(0, .int p0)] := hl
  have hP : va_P (dC, dI) vwCl [] s.heap := hP
  have hD : va_D (va_A (ww_X3_isDigity dC dI cI cJ cB  s.heap.size p0 n9 r1) s.heap.size) [] := hD
  obtain ⟨H, hH⟩ : ∃ H, H = s.heap := ⟨_, rfl⟩
  obtain ⟨locs, hlc⟩ : ∃ L : List Loc, L = [] := ⟨_, rfl⟩
  have hS : va_S (va_A (ww_X3_isDigity dC dI cI cJ cB  s.heap.size p0 n9 r1) s.heap.size) s.heap H locs := by rw [hH, hlc]; exact hS
  have hP : va_P (dC, dI) vwCl [] H := by rw [hH]; exact hP
  suffices hgo : WW_X3_isDigity p l e s m below meth c dC dI cI cJ cB  s.heap.size p0 n9 r1 H locs (F0 m 0 ls []) by rw [hH, hlc] at hgo; exact hgo
  clear hH hlc
  refine lv_iload_n hx hb dX3_isDigit_0 rfl (lv_at hl 0 rfl) ?_
  refine lv_bipush (v := 48) hx hb dX3_isDigit_1 (by decide) ?_
  refine lv_icmp_lt (tgt := 16) hx hb dX3_isDigit_3 (by decide) (fun c_1 => ?_) (fun c_1 => ?_)
  · replace hf := xi_t c_1 hf
    refine lv_iconst (v := 0) hx hb dX3_isDigit_16 (by decide) ?_
    have hP9 := hP.sub (ws' := []) [] rfl
    have hD9 := hD.sub (ws' := []) [] (by decide) rfl
    have r9_0 : (0 : Int32) = r1 := (Option.some.inj hf)
    exact W.zret (v := (0 : Int32)) hx hb hr rfl (fun t ht hW => ⟨⟨(0 : Int32), (), rfl, r9_0, by rw [ht]; exact hP9, va_K.moved hW.alike hK, hD9⟩, hS.F ht⟩) hS.2.2 dX3_isDigit_17
  · replace hf := xi_f c_1 hf
    refine lv_iload_n hx hb dX3_isDigit_6 rfl (lv_at hl 0 rfl) ?_
    refine lv_bipush (v := 57) hx hb dX3_isDigit_7 (by decide) ?_
    refine lv_icmp_gt (tgt := 16) hx hb dX3_isDigit_9 (by decide) (fun c_2 => ?_) (fun c_2 => ?_)
    · replace hf := xi_t c_2 hf
      refine lv_iconst (v := 0) hx hb dX3_isDigit_16 (by decide) ?_
      have hP9 := hP.sub (ws' := []) [] rfl
      have hD9 := hD.sub (ws' := []) [] (by decide) rfl
      have r9_0 : (0 : Int32) = r1 := (Option.some.inj hf)
      exact W.zret (v := (0 : Int32)) hx hb hr rfl (fun t ht hW => ⟨⟨(0 : Int32), (), rfl, r9_0, by rw [ht]; exact hP9, va_K.moved hW.alike hK, hD9⟩, hS.F ht⟩) hS.2.2 dX3_isDigit_17
    · replace hf := xi_f c_2 hf
      refine lv_iconst (v := 1) hx hb dX3_isDigit_12 (by decide) ?_
      refine lv_goto (tgt := 17) hx hb dX3_isDigit_13 (by decide) ?_
      have hP9 := hP.sub (ws' := []) [] rfl
      have hD9 := hD.sub (ws' := []) [] (by decide) rfl
      have r9_0 : (1 : Int32) = r1 := (Option.some.inj hf)
      exact W.zret (v := (1 : Int32)) hx hb hr rfl (fun t ht hW => ⟨⟨(1 : Int32), (), rfl, r9_0, by rw [ht]; exact hP9, va_K.moved hW.alike hK, hD9⟩, hS.F ht⟩) hS.2.2 dX3_isDigit_17
def wo_X3_looky : List Cond := .code yX3_look cX3_look 1 (some .int) :: (([.fieldLink RX3 26 "SumRewriter$Scanner" "at" "I", .fieldLink RX3 23 "SumRewriter$Scanner" "limit" "I", .fieldLink RX3 9 "SumRewriter$Scanner" "tape" "[I"] : List Cond) ++ ((wsX30)))
abbrev ww_X3_looky (dC : Nat → ClassId) (dI : Nat → Nat → Nat) (cI cJ cB : ClassId) (h h1 : Nat) (sz : Nat) (v_h : Nat → Nat → Int32) (n9 : Nat) (r1 : Int32) : va_W := [(h, .inr (3, [.ref h1, .int (v_h 0 0), .int (v_h 0 1), .int (v_h 0 2), .int (v_h 0 3), .int (v_h 0 4), .int (v_h 0 5)])), (h1, .inl (cI, 400, .inl (v_h 1)))]
abbrev at_X3_looky (dC : Nat → ClassId) (dI : Nat → Nat → Nat) (cI cJ cB : ClassId) (h h1 : Nat) (sz : Nat) (v_h : Nat → Nat → Int32) (n9 : Nat) (r1 : Int32) (u : Unit) (t : State) : Prop := match u with
  | () => va_P (dC, dI) vwCl [(h, .inr (3, [.ref h1, .int (v_h 0 0), .int (v_h 0 1), .int (v_h 0 2), .int (v_h 0 3), .int (v_h 0 4), .int (v_h 0 5)])), (h1, .inl (cI, 400, .inl (v_h 1)))] t.heap ∧ va_K (dC, dI) vwCl (tyL cI cJ cB) t ∧ va_D (va_A (ww_X3_looky dC dI cI cJ cB h h1 sz v_h n9 r1) sz) [(h, .inr (3, [.ref h1, .int (v_h 0 0), .int (v_h 0 1), .int (v_h 0 2), .int (v_h 0 3), .int (v_h 0 4), .int (v_h 0 5)])), (h1, .inl (cI, 400, .inl (v_h 1)))]
abbrev qc_X3_looky (dC : Nat → ClassId) (dI : Nat → Nat → Nat) (cI cJ cB : ClassId) (h h1 : Nat) (sz : Nat) (v_h : Nat → Nat → Int32) (n9 : Nat) (r1 : Int32) : Array Value → State → Outcome → State → Prop := va_Qi (fun (r : Int32) (u : Unit) => match u with | () => (r = r1)) (at_X3_looky dC dI cI cJ cB h h1 sz v_h n9 r1) (va_A (ww_X3_looky dC dI cI cJ cB h h1 sz v_h n9 r1) sz)
abbrev pc_X3_looky (dC : Nat → ClassId) (dI : Nat → Nat → Nat) (cI cJ cB : ClassId) (h h1 : Nat) (sz : Nat) (v_h : Nat → Nat → Int32) (n9 : Nat) (r1 : Int32) : Array Value → State → Prop := va_Pc [.ref h] (fun U => U.heap.size = sz ∧ NW U ∧ va_P (dC, dI) vwCl (ww_X3_looky dC dI cI cJ cB h h1 sz v_h n9 r1) U.heap ∧ va_K (dC, dI) vwCl (tyL cI cJ cB) U ∧ va_D (fun _ => True) (ww_X3_looky dC dI cI cJ cB h h1 sz v_h n9 r1))
abbrev rm_X3_looky : Room := { frames := 0, cells := 0, slots := 0, locals := 0 }
abbrev WW_X3_looky (p : Program) (l : Launch) (e : Env) (s : State) (m : MethodId) (below : List Frame) (meth : Method) (c : Code) (dC : Nat → ClassId) (dI : Nat → Nat → Nat) (cI cJ cB : ClassId) (h h1 : Nat) (sz : Nat) (v_h : Nat → Nat → Int32) (n9 : Nat) (r1 : Int32) (H : Heap) (locs : List Loc) (g : JFrame) : Prop := W p l e rm_X3_looky s m ([.ref h] : List Value).toArray below meth c H locs 0 0 (MQ below (qc_X3_looky dC dI cI cJ cB h h1 sz v_h n9 r1) ([.ref h] : List Value).toArray s 0 0 (va_A (ww_X3_looky dC dI cI cJ cB h h1 sz v_h n9 r1) sz)) g
set_option maxHeartbeats 4000000 in
set_option maxRecDepth 100000 in
theorem c_X3_looky (l : Launch) (dC : Nat → ClassId) (dI : Nat → Nat → Nat) (cI cJ cB : ClassId) (h h1 : Nat) (sz : Nat) (v_h : Nat → Nat → Int32) (n9 : Nat) (r1 : Int32) (hf : fx_X3_look n9 v_h  = some (r1)) : Met l yX3_look wo_X3_looky rm_X3_looky (pc_X3_looky dC dI cI cJ cB h h1 sz v_h n9 r1) (qc_X3_looky dC dI cI cJ cB h h1 sz v_h n9 r1) 0 0 (va_A (ww_X3_looky dC dI cI cJ cB h h1 sz v_h n9 r1) sz) := by
  unfold fx_X3_look at hf
  refine Met.ofW (cc := cX3_look) (maxL := 1) (ret := (some .int)) (by decide) rfl ?_
  intro p e s m args below meth c s₁ B hml hv
  obtain ⟨rfl, hsz, hnw, hP, hK, hD0⟩ := hv
  have hx := B.exec
  have hb := B.bytes
  have hr := B.returns
  have hts := atoms_spec (ws := wo_X3_looky) B.pre
  have hown : s.vm.findClass RX3 = some m.cls := findClass_of_methodNamed B.named
  have hlocks := B.notSynchronized
  clear B
  subst hsz
  have hD := hD0.self (sz := s.heap.size)
  clear hD0
  have kk0_ := hts (.fieldLink RX3 26 "SumRewriter$Scanner" "at" "I") (by decide +kernel)
  have kk1_ : ∀ w ∈ wsX30, w ∈ wo_X3_looky := fun _ h => (List.mem_cons_of_mem _ (List.mem_append_right _ h))
  have kk2_ := hts (.fieldLink RX3 23 "SumRewriter$Scanner" "limit" "I") (by decide +kernel)
  have kk3_ := hts (.fieldLink RX3 9 "SumRewriter$Scanner" "tape" "[I") (by decide +kernel)
  have hA : ∀ q : Nat, s.heap.size ≤ q → (va_A (ww_X3_looky dC dI cI cJ cB h h1 s.heap.size v_h n9 r1) s.heap.size) q := fun q h => Or.inr h
  have hS : va_S (va_A (ww_X3_looky dC dI cI cJ cB h h1 s.heap.size v_h n9 r1) s.heap.size) s.heap s.heap [] := va_S.rf
  have hl := lv_entry ([.ref h]) (n := 1) (Nat.le_of_ble_eq_true rfl)
  rw [lg_entry_eq]
  generalize (lg_sl ([.ref h]) ++ List.replicate (1 - (lg_sl ([.ref h])).length) Slot.unset).toArray = ls at hl ⊢
  have hl : lv_has ls 1 [(0, .ref h)] := hl
  have hP : va_P (dC, dI) vwCl [(h, .inr (3, [.ref h1, .int (v_h 0 0), .int (v_h 0 1), .int (v_h 0 2), .int (v_h 0 3), .int (v_h 0 4), .int (v_h 0 5)])), (h1, .inl (cI, 400, .inl (v_h 1)))] s.heap := hP
  have hD : va_D (va_A (ww_X3_looky dC dI cI cJ cB h h1 s.heap.size v_h n9 r1) s.heap.size) [(h, .inr (3, [.ref h1, .int (v_h 0 0), .int (v_h 0 1), .int (v_h 0 2), .int (v_h 0 3), .int (v_h 0 4), .int (v_h 0 5)])), (h1, .inl (cI, 400, .inl (v_h 1)))] := hD
  obtain ⟨H, hH⟩ : ∃ H, H = s.heap := ⟨_, rfl⟩
  obtain ⟨locs, hlc⟩ : ∃ L : List Loc, L = [] := ⟨_, rfl⟩
  have hS : va_S (va_A (ww_X3_looky dC dI cI cJ cB h h1 s.heap.size v_h n9 r1) s.heap.size) s.heap H locs := by rw [hH, hlc]; exact hS
  have hP : va_P (dC, dI) vwCl [(h, .inr (3, [.ref h1, .int (v_h 0 0), .int (v_h 0 1), .int (v_h 0 2), .int (v_h 0 3), .int (v_h 0 4), .int (v_h 0 5)])), (h1, .inl (cI, 400, .inl (v_h 1)))] H := by rw [hH]; exact hP
  suffices hgo : WW_X3_looky p l e s m below meth c dC dI cI cJ cB h h1 s.heap.size v_h n9 r1 H locs (F0 m 0 ls []) by rw [hH, hlc] at hgo; exact hgo
  clear hH hlc
  refine lv_aload_n hx hb dX3_look_0 rfl (lv_at hl 0 rfl) ?_
  refine va_get (D := (dC, dI)) (ci := 3) (v := .int (v_h 0 2)) (C := RX3) (T := TX3) (N := 7) hx hb hts kk1_ hown hK hP 0 rfl rfl 3 (by decide) kk0_ (fun _ h9 => h9) rfl dX3_look_1 ?_
  refine lv_if_lt (tgt := 42) hx hb dX3_look_4 (by decide) (fun c_1 => ?_) (fun c_1 => ?_)
  · replace hf := xi_t c_1 hf
    refine lv_iconst (v := -1) hx hb dX3_look_42 (by decide) ?_
    have hP9 := hP.sub (ws' := [(h, .inr (3, [.ref h1, .int (v_h 0 0), .int (v_h 0 1), .int (v_h 0 2), .int (v_h 0 3), .int (v_h 0 4), .int (v_h 0 5)])), (h1, .inl (cI, 400, .inl (v_h 1)))]) [0, 1] rfl
    have hD9 := hD.sub (ws' := [(h, .inr (3, [.ref h1, .int (v_h 0 0), .int (v_h 0 1), .int (v_h 0 2), .int (v_h 0 3), .int (v_h 0 4), .int (v_h 0 5)])), (h1, .inl (cI, 400, .inl (v_h 1)))]) [0, 1] (by decide) rfl
    have r9_0 : (-1 : Int32) = r1 := (Option.some.inj hf)
    exact W.iret (v := (-1 : Int32)) hx hb hr (fun t ht hW => ⟨⟨(-1 : Int32), (), rfl, r9_0, by rw [ht]; exact hP9, va_K.moved hW.alike hK, hD9⟩, hS.F ht⟩) hS.2.2 dX3_look_43
  · replace hf := xi_f c_1 hf
    refine lv_aload_n hx hb dX3_look_7 rfl (lv_at hl 0 rfl) ?_
    refine va_get (D := (dC, dI)) (ci := 3) (v := .int (v_h 0 2)) (C := RX3) (T := TX3) (N := 7) hx hb hts kk1_ hown hK hP 0 rfl rfl 3 (by decide) kk0_ (fun _ h9 => h9) rfl dX3_look_8 ?_
    refine lv_aload_n hx hb dX3_look_11 rfl (lv_at hl 0 rfl) ?_
    refine va_get (D := (dC, dI)) (ci := 3) (v := .int (v_h 0 1)) (C := RX3) (T := TX3) (N := 7) hx hb hts kk1_ hown hK hP 0 rfl rfl 2 (by decide) kk2_ (fun _ h9 => h9) rfl dX3_look_12 ?_
    refine lv_icmp_ge (tgt := 42) hx hb dX3_look_15 (by decide) (fun c_2 => ?_) (fun c_2 => ?_)
    · replace hf := xi_t c_2 hf
      refine lv_iconst (v := -1) hx hb dX3_look_42 (by decide) ?_
      have hP9 := hP.sub (ws' := [(h, .inr (3, [.ref h1, .int (v_h 0 0), .int (v_h 0 1), .int (v_h 0 2), .int (v_h 0 3), .int (v_h 0 4), .int (v_h 0 5)])), (h1, .inl (cI, 400, .inl (v_h 1)))]) [0, 1] rfl
      have hD9 := hD.sub (ws' := [(h, .inr (3, [.ref h1, .int (v_h 0 0), .int (v_h 0 1), .int (v_h 0 2), .int (v_h 0 3), .int (v_h 0 4), .int (v_h 0 5)])), (h1, .inl (cI, 400, .inl (v_h 1)))]) [0, 1] (by decide) rfl
      have r9_0 : (-1 : Int32) = r1 := (Option.some.inj hf)
      exact W.iret (v := (-1 : Int32)) hx hb hr (fun t ht hW => ⟨⟨(-1 : Int32), (), rfl, r9_0, by rw [ht]; exact hP9, va_K.moved hW.alike hK, hD9⟩, hS.F ht⟩) hS.2.2 dX3_look_43
    · replace hf := xi_f c_2 hf
      refine lv_aload_n hx hb dX3_look_18 rfl (lv_at hl 0 rfl) ?_
      refine va_get (D := (dC, dI)) (ci := 3) (v := .int (v_h 0 2)) (C := RX3) (T := TX3) (N := 7) hx hb hts kk1_ hown hK hP 0 rfl rfl 3 (by decide) kk0_ (fun _ h9 => h9) rfl dX3_look_19 ?_
      refine lv_aload_n hx hb dX3_look_22 rfl (lv_at hl 0 rfl) ?_
      refine va_get (D := (dC, dI)) (ci := 3) (v := .ref h1) (C := RX3) (T := TX3) (N := 7) hx hb hts kk1_ hown hK hP 0 rfl rfl 0 (by decide) kk3_ (fun _ h9 => h9) rfl dX3_look_23 ?_
      refine va_alen (v := 400) hx hb hK hP 1 0 rfl rfl rfl dX3_look_26 ?_
      refine lv_icmp_ge (tgt := 42) hx hb dX3_look_27 (by decide) (fun c_3 => ?_) (fun c_3 => ?_)
      · replace hf := xi_t c_3 hf
        refine lv_iconst (v := -1) hx hb dX3_look_42 (by decide) ?_
        have hP9 := hP.sub (ws' := [(h, .inr (3, [.ref h1, .int (v_h 0 0), .int (v_h 0 1), .int (v_h 0 2), .int (v_h 0 3), .int (v_h 0 4), .int (v_h 0 5)])), (h1, .inl (cI, 400, .inl (v_h 1)))]) [0, 1] rfl
        have hD9 := hD.sub (ws' := [(h, .inr (3, [.ref h1, .int (v_h 0 0), .int (v_h 0 1), .int (v_h 0 2), .int (v_h 0 3), .int (v_h 0 4), .int (v_h 0 5)])), (h1, .inl (cI, 400, .inl (v_h 1)))]) [0, 1] (by decide) rfl
        have r9_0 : (-1 : Int32) = r1 := (Option.some.inj hf)
        exact W.iret (v := (-1 : Int32)) hx hb hr (fun t ht hW => ⟨⟨(-1 : Int32), (), rfl, r9_0, by rw [ht]; exact hP9, va_K.moved hW.alike hK, hD9⟩, hS.F ht⟩) hS.2.2 dX3_look_43
      · replace hf := xi_f c_3 hf
        refine lv_aload_n hx hb dX3_look_30 rfl (lv_at hl 0 rfl) ?_
        refine va_get (D := (dC, dI)) (ci := 3) (v := .ref h1) (C := RX3) (T := TX3) (N := 7) hx hb hts kk1_ hown hK hP 0 rfl rfl 0 (by decide) kk3_ (fun _ h9 => h9) rfl dX3_look_31 ?_
        refine lv_aload_n hx hb dX3_look_34 rfl (lv_at hl 0 rfl) ?_
        refine va_get (D := (dC, dI)) (ci := 3) (v := .int (v_h 0 2)) (C := RX3) (T := TX3) (N := 7) hx hb hts kk1_ hown hK hP 0 rfl rfl 3 (by decide) kk0_ (fun _ h9 => h9) rfl dX3_look_35 ?_
        refine va_iald hx hb hK hP 1 0 rfl rfl (vp_in_iff.mpr (xr_in hf)) dX3_look_38 ?_
        refine lv_topi (fun y_4 ey_4 => ?_)
        replace hf := xr_to ey_4 hf
        refine lv_goto (tgt := 43) hx hb dX3_look_39 (by decide) ?_
        have hP9 := hP.sub (ws' := [(h, .inr (3, [.ref h1, .int (v_h 0 0), .int (v_h 0 1), .int (v_h 0 2), .int (v_h 0 3), .int (v_h 0 4), .int (v_h 0 5)])), (h1, .inl (cI, 400, .inl (v_h 1)))]) [0, 1] rfl
        have hD9 := hD.sub (ws' := [(h, .inr (3, [.ref h1, .int (v_h 0 0), .int (v_h 0 1), .int (v_h 0 2), .int (v_h 0 3), .int (v_h 0 4), .int (v_h 0 5)])), (h1, .inl (cI, 400, .inl (v_h 1)))]) [0, 1] (by decide) rfl
        have r9_0 : y_4 = r1 := (Option.some.inj hf)
        exact W.iret (v := y_4) hx hb hr (fun t ht hW => ⟨⟨y_4, (), rfl, r9_0, by rw [ht]; exact hP9, va_K.moved hW.alike hK, hD9⟩, hS.F ht⟩) hS.2.2 dX3_look_43
def wo_X3_isSigny : List Cond := .code yX3_isSign cX3_isSign 2 (some .boolean) :: (([.fieldLink RX3 43 "SumRewriter$Scanner" "sort" "I", .fieldLink RX3 46 "SumRewriter$Scanner" "value" "I"] : List Cond) ++ ((wsX30)))
abbrev ww_X3_isSigny (dC : Nat → ClassId) (dI : Nat → Nat → Nat) (cI cJ cB : ClassId) (h h1 : Nat) (sz : Nat) (v_h : Nat → Nat → Int32) (p0 : Int32) (n9 : Nat) (r1 : Int32) : va_W := [(h, .inr (3, [.ref h1, .int (v_h 0 0), .int (v_h 0 1), .int (v_h 0 2), .int (v_h 0 3), .int (v_h 0 4), .int (v_h 0 5)])), (h1, .inl (cI, 400, .inl (v_h 1)))]
abbrev at_X3_isSigny (dC : Nat → ClassId) (dI : Nat → Nat → Nat) (cI cJ cB : ClassId) (h h1 : Nat) (sz : Nat) (v_h : Nat → Nat → Int32) (p0 : Int32) (n9 : Nat) (r1 : Int32) (u : Unit) (t : State) : Prop := match u with
  | () => va_P (dC, dI) vwCl [(h, .inr (3, [.ref h1, .int (v_h 0 0), .int (v_h 0 1), .int (v_h 0 2), .int (v_h 0 3), .int (v_h 0 4), .int (v_h 0 5)])), (h1, .inl (cI, 400, .inl (v_h 1)))] t.heap ∧ va_K (dC, dI) vwCl (tyL cI cJ cB) t ∧ va_D (va_A (ww_X3_isSigny dC dI cI cJ cB h h1 sz v_h p0 n9 r1) sz) [(h, .inr (3, [.ref h1, .int (v_h 0 0), .int (v_h 0 1), .int (v_h 0 2), .int (v_h 0 3), .int (v_h 0 4), .int (v_h 0 5)])), (h1, .inl (cI, 400, .inl (v_h 1)))]
abbrev qc_X3_isSigny (dC : Nat → ClassId) (dI : Nat → Nat → Nat) (cI cJ cB : ClassId) (h h1 : Nat) (sz : Nat) (v_h : Nat → Nat → Int32) (p0 : Int32) (n9 : Nat) (r1 : Int32) : Array Value → State → Outcome → State → Prop := va_Qi (fun (r : Int32) (u : Unit) => match u with | () => (r = r1)) (at_X3_isSigny dC dI cI cJ cB h h1 sz v_h p0 n9 r1) (va_A (ww_X3_isSigny dC dI cI cJ cB h h1 sz v_h p0 n9 r1) sz)
abbrev pc_X3_isSigny (dC : Nat → ClassId) (dI : Nat → Nat → Nat) (cI cJ cB : ClassId) (h h1 : Nat) (sz : Nat) (v_h : Nat → Nat → Int32) (p0 : Int32) (n9 : Nat) (r1 : Int32) : Array Value → State → Prop := va_Pc [.ref h, .int p0] (fun U => U.heap.size = sz ∧ NW U ∧ va_P (dC, dI) vwCl (ww_X3_isSigny dC dI cI cJ cB h h1 sz v_h p0 n9 r1) U.heap ∧ va_K (dC, dI) vwCl (tyL cI cJ cB) U ∧ va_D (fun _ => True) (ww_X3_isSigny dC dI cI cJ cB h h1 sz v_h p0 n9 r1))
abbrev rm_X3_isSigny : Room := { frames := 0, cells := 0, slots := 0, locals := 0 }
abbrev WW_X3_isSigny (p : Program) (l : Launch) (e : Env) (s : State) (m : MethodId) (below : List Frame) (meth : Method) (c : Code) (dC : Nat → ClassId) (dI : Nat → Nat → Nat) (cI cJ cB : ClassId) (h h1 : Nat) (sz : Nat) (v_h : Nat → Nat → Int32) (p0 : Int32) (n9 : Nat) (r1 : Int32) (H : Heap) (locs : List Loc) (g : JFrame) : Prop := W p l e rm_X3_isSigny s m ([.ref h, .int p0] : List Value).toArray below meth c H locs 0 0 (MQ below (qc_X3_isSigny dC dI cI cJ cB h h1 sz v_h p0 n9 r1) ([.ref h, .int p0] : List Value).toArray s 0 0 (va_A (ww_X3_isSigny dC dI cI cJ cB h h1 sz v_h p0 n9 r1) sz)) g
set_option maxHeartbeats 4000000 in
set_option maxRecDepth 100000 in
theorem c_X3_isSigny (l : Launch) (dC : Nat → ClassId) (dI : Nat → Nat → Nat) (cI cJ cB : ClassId) (h h1 : Nat) (sz : Nat) (v_h : Nat → Nat → Int32) (p0 : Int32) (n9 : Nat) (r1 : Int32) (hf : fx_X3_isSign n9 v_h p0 = some (r1)) : Met l yX3_isSign wo_X3_isSigny rm_X3_isSigny (pc_X3_isSigny dC dI cI cJ cB h h1 sz v_h p0 n9 r1) (qc_X3_isSigny dC dI cI cJ cB h h1 sz v_h p0 n9 r1) 0 0 (va_A (ww_X3_isSigny dC dI cI cJ cB h h1 sz v_h p0 n9 r1) sz) := by
  unfold fx_X3_isSign at hf
  refine Met.ofW (cc := cX3_isSign) (maxL := 2) (ret := (some .boolean)) (by decide) rfl ?_
  intro p e s m args below meth c s₁ B hml hv
  obtain ⟨rfl, hsz, hnw, hP, hK, hD0⟩ := hv
  have hx := B.exec
  have hb := B.bytes
  have hr := B.returns
  have hts := atoms_spec (ws := wo_X3_isSigny) B.pre
  have hown : s.vm.findClass RX3 = some m.cls := findClass_of_methodNamed B.named
  have hlocks := B.notSynchronized
  clear B
  subst hsz
  have hD := hD0.self (sz := s.heap.size)
  clear hD0
  have kk0_ := hts (.fieldLink RX3 43 "SumRewriter$Scanner" "sort" "I") (by decide +kernel)
  have kk1_ : ∀ w ∈ wsX30, w ∈ wo_X3_isSigny := fun _ h => (List.mem_cons_of_mem _ (List.mem_append_right _ h))
  have kk2_ := hts (.fieldLink RX3 46 "SumRewriter$Scanner" "value" "I") (by decide +kernel)
  have hA : ∀ q : Nat, s.heap.size ≤ q → (va_A (ww_X3_isSigny dC dI cI cJ cB h h1 s.heap.size v_h p0 n9 r1) s.heap.size) q := fun q h => Or.inr h
  have hS : va_S (va_A (ww_X3_isSigny dC dI cI cJ cB h h1 s.heap.size v_h p0 n9 r1) s.heap.size) s.heap s.heap [] := va_S.rf
  have hl := lv_entry ([.ref h, .int p0]) (n := 2) (Nat.le_of_ble_eq_true rfl)
  rw [lg_entry_eq]
  generalize (lg_sl ([.ref h, .int p0]) ++ List.replicate (2 - (lg_sl ([.ref h, .int p0])).length) Slot.unset).toArray = ls at hl ⊢
  have hl : lv_has ls 2 [(0, .ref h), (1, .int p0)] := hl
  have hP : va_P (dC, dI) vwCl [(h, .inr (3, [.ref h1, .int (v_h 0 0), .int (v_h 0 1), .int (v_h 0 2), .int (v_h 0 3), .int (v_h 0 4), .int (v_h 0 5)])), (h1, .inl (cI, 400, .inl (v_h 1)))] s.heap := hP
  have hD : va_D (va_A (ww_X3_isSigny dC dI cI cJ cB h h1 s.heap.size v_h p0 n9 r1) s.heap.size) [(h, .inr (3, [.ref h1, .int (v_h 0 0), .int (v_h 0 1), .int (v_h 0 2), .int (v_h 0 3), .int (v_h 0 4), .int (v_h 0 5)])), (h1, .inl (cI, 400, .inl (v_h 1)))] := hD
  obtain ⟨H, hH⟩ : ∃ H, H = s.heap := ⟨_, rfl⟩
  obtain ⟨locs, hlc⟩ : ∃ L : List Loc, L = [] := ⟨_, rfl⟩
  have hS : va_S (va_A (ww_X3_isSigny dC dI cI cJ cB h h1 s.heap.size v_h p0 n9 r1) s.heap.size) s.heap H locs := by rw [hH, hlc]; exact hS
  have hP : va_P (dC, dI) vwCl [(h, .inr (3, [.ref h1, .int (v_h 0 0), .int (v_h 0 1), .int (v_h 0 2), .int (v_h 0 3), .int (v_h 0 4), .int (v_h 0 5)])), (h1, .inl (cI, 400, .inl (v_h 1)))] H := by rw [hH]; exact hP
  suffices hgo : WW_X3_isSigny p l e s m below meth c dC dI cI cJ cB h h1 s.heap.size v_h p0 n9 r1 H locs (F0 m 0 ls []) by rw [hH, hlc] at hgo; exact hgo
  clear hH hlc
  refine lv_aload_n hx hb dX3_isSign_0 rfl (lv_at hl 0 rfl) ?_
  refine va_get (D := (dC, dI)) (ci := 3) (v := .int (v_h 0 3)) (C := RX3) (T := TX3) (N := 7) hx hb hts kk1_ hown hK hP 0 rfl rfl 4 (by decide) kk0_ (fun _ h9 => h9) rfl dX3_isSign_1 ?_
  refine lv_iconst (v := 3) hx hb dX3_isSign_4 (by decide) ?_
  refine lv_icmp_ne (tgt := 20) hx hb dX3_isSign_5 (by decide) (fun c_1 => ?_) (fun c_1 => ?_)
  · replace hf := xi_f c_1 hf
    refine lv_iconst (v := 0) hx hb dX3_isSign_20 (by decide) ?_
    have hP9 := hP.sub (ws' := [(h, .inr (3, [.ref h1, .int (v_h 0 0), .int (v_h 0 1), .int (v_h 0 2), .int (v_h 0 3), .int (v_h 0 4), .int (v_h 0 5)])), (h1, .inl (cI, 400, .inl (v_h 1)))]) [0, 1] rfl
    have hD9 := hD.sub (ws' := [(h, .inr (3, [.ref h1, .int (v_h 0 0), .int (v_h 0 1), .int (v_h 0 2), .int (v_h 0 3), .int (v_h 0 4), .int (v_h 0 5)])), (h1, .inl (cI, 400, .inl (v_h 1)))]) [0, 1] (by decide) rfl
    have r9_0 : (0 : Int32) = r1 := (Option.some.inj hf)
    exact W.zret (v := (0 : Int32)) hx hb hr rfl (fun t ht hW => ⟨⟨(0 : Int32), (), rfl, r9_0, by rw [ht]; exact hP9, va_K.moved hW.alike hK, hD9⟩, hS.F ht⟩) hS.2.2 dX3_isSign_21
  · replace hf := xi_t c_1 hf
    refine lv_aload_n hx hb dX3_isSign_8 rfl (lv_at hl 0 rfl) ?_
    refine va_get (D := (dC, dI)) (ci := 3) (v := .int (v_h 0 5)) (C := RX3) (T := TX3) (N := 7) hx hb hts kk1_ hown hK hP 0 rfl rfl 6 (by decide) kk2_ (fun _ h9 => h9) rfl dX3_isSign_9 ?_
    refine lv_iload_n hx hb dX3_isSign_12 rfl (lv_at hl 1 rfl) ?_
    refine lv_icmp_ne (tgt := 20) hx hb dX3_isSign_13 (by decide) (fun c_2 => ?_) (fun c_2 => ?_)
    · replace hf := xi_f c_2 hf
      refine lv_iconst (v := 0) hx hb dX3_isSign_20 (by decide) ?_
      have hP9 := hP.sub (ws' := [(h, .inr (3, [.ref h1, .int (v_h 0 0), .int (v_h 0 1), .int (v_h 0 2), .int (v_h 0 3), .int (v_h 0 4), .int (v_h 0 5)])), (h1, .inl (cI, 400, .inl (v_h 1)))]) [0, 1] rfl
      have hD9 := hD.sub (ws' := [(h, .inr (3, [.ref h1, .int (v_h 0 0), .int (v_h 0 1), .int (v_h 0 2), .int (v_h 0 3), .int (v_h 0 4), .int (v_h 0 5)])), (h1, .inl (cI, 400, .inl (v_h 1)))]) [0, 1] (by decide) rfl
      have r9_0 : (0 : Int32) = r1 := (Option.some.inj hf)
      exact W.zret (v := (0 : Int32)) hx hb hr rfl (fun t ht hW => ⟨⟨(0 : Int32), (), rfl, r9_0, by rw [ht]; exact hP9, va_K.moved hW.alike hK, hD9⟩, hS.F ht⟩) hS.2.2 dX3_isSign_21
    · replace hf := xi_t c_2 hf
      refine lv_iconst (v := 1) hx hb dX3_isSign_16 (by decide) ?_
      refine lv_goto (tgt := 21) hx hb dX3_isSign_17 (by decide) ?_
      have hP9 := hP.sub (ws' := [(h, .inr (3, [.ref h1, .int (v_h 0 0), .int (v_h 0 1), .int (v_h 0 2), .int (v_h 0 3), .int (v_h 0 4), .int (v_h 0 5)])), (h1, .inl (cI, 400, .inl (v_h 1)))]) [0, 1] rfl
      have hD9 := hD.sub (ws' := [(h, .inr (3, [.ref h1, .int (v_h 0 0), .int (v_h 0 1), .int (v_h 0 2), .int (v_h 0 3), .int (v_h 0 4), .int (v_h 0 5)])), (h1, .inl (cI, 400, .inl (v_h 1)))]) [0, 1] (by decide) rfl
      have r9_0 : (1 : Int32) = r1 := (Option.some.inj hf)
      exact W.zret (v := (1 : Int32)) hx hb hr rfl (fun t ht hW => ⟨⟨(1 : Int32), (), rfl, r9_0, by rw [ht]; exact hP9, va_K.moved hW.alike hK, hD9⟩, hS.F ht⟩) hS.2.2 dX3_isSign_21
def wo_X3_cuty : List Cond := .code yX3_cut cX3_cut 2 (some .boolean) :: (([.fieldLink RX3 15 "SumRewriter$Scanner" "length" "I"] : List Cond) ++ ((wsX30)))
abbrev ww_X3_cuty (dC : Nat → ClassId) (dI : Nat → Nat → Nat) (cI cJ cB : ClassId) (h h1 : Nat) (sz : Nat) (v_h0 : Nat → Nat → Int32) (p0 : Int32) (n9 : Nat) (r1 : Int32) (v_h1 : Nat → Nat → Int32) : va_W := [(h, .inr (3, [.ref h1, .int (v_h0 0 0), .int (v_h0 0 1), .int (v_h0 0 2), .int (v_h0 0 3), .int (v_h0 0 4), .int (v_h0 0 5)])), (h1, .inl (cI, 400, .inl (v_h0 1)))]
abbrev at_X3_cuty (dC : Nat → ClassId) (dI : Nat → Nat → Nat) (cI cJ cB : ClassId) (h h1 : Nat) (sz : Nat) (v_h0 : Nat → Nat → Int32) (p0 : Int32) (n9 : Nat) (r1 : Int32) (v_h1 : Nat → Nat → Int32) (u : (Nat → Nat → Int32)) (t : State) : Prop := match u with
  | v_h => va_P (dC, dI) vwCl [(h, .inr (3, [.ref h1, .int (v_h 0 0), .int (v_h 0 1), .int (v_h 0 2), .int (v_h 0 3), .int (v_h 0 4), .int (v_h 0 5)])), (h1, .inl (cI, 400, .inl (v_h 1)))] t.heap ∧ va_K (dC, dI) vwCl (tyL cI cJ cB) t ∧ va_D (va_A (ww_X3_cuty dC dI cI cJ cB h h1 sz v_h0 p0 n9 r1 v_h1) sz) [(h, .inr (3, [.ref h1, .int (v_h 0 0), .int (v_h 0 1), .int (v_h 0 2), .int (v_h 0 3), .int (v_h 0 4), .int (v_h 0 5)])), (h1, .inl (cI, 400, .inl (v_h 1)))]
abbrev qc_X3_cuty (dC : Nat → ClassId) (dI : Nat → Nat → Nat) (cI cJ cB : ClassId) (h h1 : Nat) (sz : Nat) (v_h0 : Nat → Nat → Int32) (p0 : Int32) (n9 : Nat) (r1 : Int32) (v_h1 : Nat → Nat → Int32) : Array Value → State → Outcome → State → Prop := va_Qi (fun (r : Int32) (u : (Nat → Nat → Int32)) => match u with | v_h => (r = r1) ∧ (v_h = v_h1)) (at_X3_cuty dC dI cI cJ cB h h1 sz v_h0 p0 n9 r1 v_h1) (va_A (ww_X3_cuty dC dI cI cJ cB h h1 sz v_h0 p0 n9 r1 v_h1) sz)
abbrev pc_X3_cuty (dC : Nat → ClassId) (dI : Nat → Nat → Nat) (cI cJ cB : ClassId) (h h1 : Nat) (sz : Nat) (v_h0 : Nat → Nat → Int32) (p0 : Int32) (n9 : Nat) (r1 : Int32) (v_h1 : Nat → Nat → Int32) : Array Value → State → Prop := va_Pc [.ref h, .int p0] (fun U => U.heap.size = sz ∧ NW U ∧ va_P (dC, dI) vwCl (ww_X3_cuty dC dI cI cJ cB h h1 sz v_h0 p0 n9 r1 v_h1) U.heap ∧ va_K (dC, dI) vwCl (tyL cI cJ cB) U ∧ va_D (fun _ => True) (ww_X3_cuty dC dI cI cJ cB h h1 sz v_h0 p0 n9 r1 v_h1))
abbrev rm_X3_cuty : Room := { frames := 0, cells := 0, slots := 0, locals := 0 }
abbrev WW_X3_cuty (p : Program) (l : Launch) (e : Env) (s : State) (m : MethodId) (below : List Frame) (meth : Method) (c : Code) (dC : Nat → ClassId) (dI : Nat → Nat → Nat) (cI cJ cB : ClassId) (h h1 : Nat) (sz : Nat) (v_h0 : Nat → Nat → Int32) (p0 : Int32) (n9 : Nat) (r1 : Int32) (v_h1 : Nat → Nat → Int32) (H : Heap) (locs : List Loc) (g : JFrame) : Prop := W p l e rm_X3_cuty s m ([.ref h, .int p0] : List Value).toArray below meth c H locs 0 0 (MQ below (qc_X3_cuty dC dI cI cJ cB h h1 sz v_h0 p0 n9 r1 v_h1) ([.ref h, .int p0] : List Value).toArray s 0 0 (va_A (ww_X3_cuty dC dI cI cJ cB h h1 sz v_h0 p0 n9 r1 v_h1) sz)) g
set_option maxHeartbeats 4000000 in
set_option maxRecDepth 100000 in
theorem c_X3_cuty (l : Launch) (dC : Nat → ClassId) (dI : Nat → Nat → Nat) (cI cJ cB : ClassId) (h h1 : Nat) (sz : Nat) (v_h0 : Nat → Nat → Int32) (p0 : Int32) (n9 : Nat) (r1 : Int32) (v_h1 : Nat → Nat → Int32) (hf : fx_X3_cut n9 v_h0 p0 = some (r1, v_h1)) : Met l yX3_cut wo_X3_cuty rm_X3_cuty (pc_X3_cuty dC dI cI cJ cB h h1 sz v_h0 p0 n9 r1 v_h1) (qc_X3_cuty dC dI cI cJ cB h h1 sz v_h0 p0 n9 r1 v_h1) 0 0 (va_A (ww_X3_cuty dC dI cI cJ cB h h1 sz v_h0 p0 n9 r1 v_h1) sz) := by
  unfold fx_X3_cut at hf
  refine Met.ofW (cc := cX3_cut) (maxL := 2) (ret := (some .boolean)) (by decide) rfl ?_
  intro p e s m args below meth c s₁ B hml hv
  obtain ⟨rfl, hsz, hnw, hP, hK, hD0⟩ := hv
  have hx := B.exec
  have hb := B.bytes
  have hr := B.returns
  have hts := atoms_spec (ws := wo_X3_cuty) B.pre
  have hown : s.vm.findClass RX3 = some m.cls := findClass_of_methodNamed B.named
  have hlocks := B.notSynchronized
  clear B
  subst hsz
  have hD := hD0.self (sz := s.heap.size)
  clear hD0
  have kk0_ := hts (.fieldLink RX3 15 "SumRewriter$Scanner" "length" "I") (by decide +kernel)
  have kk1_ : ∀ w ∈ wsX30, w ∈ wo_X3_cuty := fun _ h => (List.mem_cons_of_mem _ (List.mem_append_right _ h))
  have hA : ∀ q : Nat, s.heap.size ≤ q → (va_A (ww_X3_cuty dC dI cI cJ cB h h1 s.heap.size v_h0 p0 n9 r1 v_h1) s.heap.size) q := fun q h => Or.inr h
  have hS : va_S (va_A (ww_X3_cuty dC dI cI cJ cB h h1 s.heap.size v_h0 p0 n9 r1 v_h1) s.heap.size) s.heap s.heap [] := va_S.rf
  have hl := lv_entry ([.ref h, .int p0]) (n := 2) (Nat.le_of_ble_eq_true rfl)
  rw [lg_entry_eq]
  generalize (lg_sl ([.ref h, .int p0]) ++ List.replicate (2 - (lg_sl ([.ref h, .int p0])).length) Slot.unset).toArray = ls at hl ⊢
  have hl : lv_has ls 2 [(0, .ref h), (1, .int p0)] := hl
  have hP : va_P (dC, dI) vwCl [(h, .inr (3, [.ref h1, .int (v_h0 0 0), .int (v_h0 0 1), .int (v_h0 0 2), .int (v_h0 0 3), .int (v_h0 0 4), .int (v_h0 0 5)])), (h1, .inl (cI, 400, .inl (v_h0 1)))] s.heap := hP
  have hD : va_D (va_A (ww_X3_cuty dC dI cI cJ cB h h1 s.heap.size v_h0 p0 n9 r1 v_h1) s.heap.size) [(h, .inr (3, [.ref h1, .int (v_h0 0 0), .int (v_h0 0 1), .int (v_h0 0 2), .int (v_h0 0 3), .int (v_h0 0 4), .int (v_h0 0 5)])), (h1, .inl (cI, 400, .inl (v_h0 1)))] := hD
  obtain ⟨H, hH⟩ : ∃ H, H = s.heap := ⟨_, rfl⟩
  obtain ⟨locs, hlc⟩ : ∃ L : List Loc, L = [] := ⟨_, rfl⟩
  have hS : va_S (va_A (ww_X3_cuty dC dI cI cJ cB h h1 s.heap.size v_h0 p0 n9 r1 v_h1) s.heap.size) s.heap H locs := by rw [hH, hlc]; exact hS
  have hP : va_P (dC, dI) vwCl [(h, .inr (3, [.ref h1, .int (v_h0 0 0), .int (v_h0 0 1), .int (v_h0 0 2), .int (v_h0 0 3), .int (v_h0 0 4), .int (v_h0 0 5)])), (h1, .inl (cI, 400, .inl (v_h0 1)))] H := by rw [hH]; exact hP
  suffices hgo : WW_X3_cuty p l e s m below meth c dC dI cI cJ cB h h1 s.heap.size v_h0 p0 n9 r1 v_h1 H locs (F0 m 0 ls []) by rw [hH, hlc] at hgo; exact hgo
  clear hH hlc
  refine lv_iload_n hx hb dX3_cut_0 rfl (lv_at hl 1 rfl) ?_
  refine lv_if_lt (tgt := 12) hx hb dX3_cut_1 (by decide) (fun c_1 => ?_) (fun c_1 => ?_)
  · replace hf := xi_t c_1 hf
    refine lv_iconst (v := 0) hx hb dX3_cut_12 (by decide) ?_
    have hP9 := hP.sub (ws' := [(h, .inr (3, [.ref h1, .int (v_h0 0 0), .int (v_h0 0 1), .int (v_h0 0 2), .int (v_h0 0 3), .int (v_h0 0 4), .int (v_h0 0 5)])), (h1, .inl (cI, 400, .inl (v_h0 1)))]) [0, 1] rfl
    have hD9 := hD.sub (ws' := [(h, .inr (3, [.ref h1, .int (v_h0 0 0), .int (v_h0 0 1), .int (v_h0 0 2), .int (v_h0 0 3), .int (v_h0 0 4), .int (v_h0 0 5)])), (h1, .inl (cI, 400, .inl (v_h0 1)))]) [0, 1] (by decide) rfl
    have r9_0 : (0 : Int32) = r1 := (Prod.mk.inj (Option.some.inj hf)).1
    have r9_1 : v_h0 = v_h1 := (Prod.mk.inj (Option.some.inj hf)).2
    exact W.zret (v := (0 : Int32)) hx hb hr rfl (fun t ht hW => ⟨⟨(0 : Int32), v_h0, rfl, ⟨r9_0, r9_1⟩, by rw [ht]; exact hP9, va_K.moved hW.alike hK, hD9⟩, hS.F ht⟩) hS.2.2 dX3_cut_13
  · replace hf := xi_f c_1 hf
    refine lv_iload_n hx hb dX3_cut_4 rfl (lv_at hl 1 rfl) ?_
    refine lv_aload_n hx hb dX3_cut_5 rfl (lv_at hl 0 rfl) ?_
    refine va_get (D := (dC, dI)) (ci := 3) (v := .int (v_h0 0 0)) (C := RX3) (T := TX3) (N := 7) hx hb hts kk1_ hown hK hP 0 rfl rfl 1 (by decide) kk0_ (fun _ h9 => h9) rfl dX3_cut_6 ?_
    refine lv_icmp_le (tgt := 14) hx hb dX3_cut_9 (by decide) (fun c_2 => ?_) (fun c_2 => ?_)
    · replace hf := xi_t c_2 hf
      refine lv_aload_n hx hb dX3_cut_14 rfl (lv_at hl 0 rfl) ?_
      refine lv_iload_n hx hb dX3_cut_15 rfl (lv_at hl 1 rfl) ?_
      refine va_put (D := (dC, dI)) (ci := 3) (v := .int p0) (ty := .int) (C := RX3) (T := TX3) (N := 7) hx hb hts kk1_ tyX3 tyX3_ok nmX3 hown hK hP hD hS 0 rfl rfl 1 (by decide) kk0_ (fun _ h9 => h9) rfl (by decide +kernel) rfl rfl (Nat.le_of_ble_eq_true rfl) dX3_cut_16 (fun H locs hP hD hS => ?_)
      obtain ⟨v_h_3, ev_h_3⟩ : ∃ z, z = mu v_h0 0 0 p0 := ⟨_, rfl⟩
      have hP : va_P (dC, dI) vwCl [(h, .inr (3, [.ref h1, .int (v_h_3 0 0), .int (v_h_3 0 1), .int (v_h_3 0 2), .int (v_h_3 0 3), .int (v_h_3 0 4), .int (v_h_3 0 5)])), (h1, .inl (cI, 400, .inl (v_h_3 1)))] H := by rw [ev_h_3]; exact hP
      have hD : va_D (va_A (ww_X3_cuty dC dI cI cJ cB h h1 s.heap.size v_h0 p0 n9 r1 v_h1) s.heap.size) [(h, .inr (3, [.ref h1, .int (v_h_3 0 0), .int (v_h_3 0 1), .int (v_h_3 0 2), .int (v_h_3 0 3), .int (v_h_3 0 4), .int (v_h_3 0 5)])), (h1, .inl (cI, 400, .inl (v_h_3 1)))] := by rw [ev_h_3]; exact hD
      replace hf := xl_to ev_h_3 hf
      refine lv_iconst (v := 1) hx hb dX3_cut_19 (by decide) ?_
      have hP9 := hP.sub (ws' := [(h, .inr (3, [.ref h1, .int (v_h_3 0 0), .int (v_h_3 0 1), .int (v_h_3 0 2), .int (v_h_3 0 3), .int (v_h_3 0 4), .int (v_h_3 0 5)])), (h1, .inl (cI, 400, .inl (v_h_3 1)))]) [0, 1] rfl
      have hD9 := hD.sub (ws' := [(h, .inr (3, [.ref h1, .int (v_h_3 0 0), .int (v_h_3 0 1), .int (v_h_3 0 2), .int (v_h_3 0 3), .int (v_h_3 0 4), .int (v_h_3 0 5)])), (h1, .inl (cI, 400, .inl (v_h_3 1)))]) [0, 1] (by decide) rfl
      have r9_0 : (1 : Int32) = r1 := (Prod.mk.inj (Option.some.inj hf)).1
      have r9_1 : v_h_3 = v_h1 := (Prod.mk.inj (Option.some.inj hf)).2
      exact W.zret (v := (1 : Int32)) hx hb hr rfl (fun t ht hW => ⟨⟨(1 : Int32), v_h_3, rfl, ⟨r9_0, r9_1⟩, by rw [ht]; exact hP9, va_K.moved hW.alike hK, hD9⟩, hS.F ht⟩) hS.2.2 dX3_cut_20
    · replace hf := xi_f c_2 hf
      refine lv_iconst (v := 0) hx hb dX3_cut_12 (by decide) ?_
      have hP9 := hP.sub (ws' := [(h, .inr (3, [.ref h1, .int (v_h0 0 0), .int (v_h0 0 1), .int (v_h0 0 2), .int (v_h0 0 3), .int (v_h0 0 4), .int (v_h0 0 5)])), (h1, .inl (cI, 400, .inl (v_h0 1)))]) [0, 1] rfl
      have hD9 := hD.sub (ws' := [(h, .inr (3, [.ref h1, .int (v_h0 0 0), .int (v_h0 0 1), .int (v_h0 0 2), .int (v_h0 0 3), .int (v_h0 0 4), .int (v_h0 0 5)])), (h1, .inl (cI, 400, .inl (v_h0 1)))]) [0, 1] (by decide) rfl
      have r9_0 : (0 : Int32) = r1 := (Prod.mk.inj (Option.some.inj hf)).1
      have r9_1 : v_h0 = v_h1 := (Prod.mk.inj (Option.some.inj hf)).2
      exact W.zret (v := (0 : Int32)) hx hb hr rfl (fun t ht hW => ⟨⟨(0 : Int32), v_h0, rfl, ⟨r9_0, r9_1⟩, by rw [ht]; exact hP9, va_K.moved hW.alike hK, hD9⟩, hS.F ht⟩) hS.2.2 dX3_cut_13
def wo_X3_writey : List Cond := .code yX3_write cX3_write 3 none :: (([.fieldLink RX3 15 "SumRewriter$Scanner" "length" "I", .fieldLink RX3 9 "SumRewriter$Scanner" "tape" "[I"] : List Cond) ++ ((wsX30)))
abbrev ww_X3_writey (dC : Nat → ClassId) (dI : Nat → Nat → Nat) (cI cJ cB : ClassId) (h h1 : Nat) (sz : Nat) (v_h0 : Nat → Nat → Int32) (p0 : Int32) (n9 : Nat) (v_h1 : Nat → Nat → Int32) : va_W := [(h, .inr (3, [.ref h1, .int (v_h0 0 0), .int (v_h0 0 1), .int (v_h0 0 2), .int (v_h0 0 3), .int (v_h0 0 4), .int (v_h0 0 5)])), (h1, .inl (cI, 400, .inl (v_h0 1)))]
abbrev at_X3_writey (dC : Nat → ClassId) (dI : Nat → Nat → Nat) (cI cJ cB : ClassId) (h h1 : Nat) (sz : Nat) (v_h0 : Nat → Nat → Int32) (p0 : Int32) (n9 : Nat) (v_h1 : Nat → Nat → Int32) (u : (Nat → Nat → Int32)) (t : State) : Prop := match u with
  | v_h => va_P (dC, dI) vwCl [(h, .inr (3, [.ref h1, .int (v_h 0 0), .int (v_h 0 1), .int (v_h 0 2), .int (v_h 0 3), .int (v_h 0 4), .int (v_h 0 5)])), (h1, .inl (cI, 400, .inl (v_h 1)))] t.heap ∧ va_K (dC, dI) vwCl (tyL cI cJ cB) t ∧ va_D (va_A (ww_X3_writey dC dI cI cJ cB h h1 sz v_h0 p0 n9 v_h1) sz) [(h, .inr (3, [.ref h1, .int (v_h 0 0), .int (v_h 0 1), .int (v_h 0 2), .int (v_h 0 3), .int (v_h 0 4), .int (v_h 0 5)])), (h1, .inl (cI, 400, .inl (v_h 1)))]
abbrev qc_X3_writey (dC : Nat → ClassId) (dI : Nat → Nat → Nat) (cI cJ cB : ClassId) (h h1 : Nat) (sz : Nat) (v_h0 : Nat → Nat → Int32) (p0 : Int32) (n9 : Nat) (v_h1 : Nat → Nat → Int32) : Array Value → State → Outcome → State → Prop := va_Qv (fun (u : (Nat → Nat → Int32)) => match u with | v_h => (v_h = v_h1)) (at_X3_writey dC dI cI cJ cB h h1 sz v_h0 p0 n9 v_h1) (va_A (ww_X3_writey dC dI cI cJ cB h h1 sz v_h0 p0 n9 v_h1) sz)
abbrev pc_X3_writey (dC : Nat → ClassId) (dI : Nat → Nat → Nat) (cI cJ cB : ClassId) (h h1 : Nat) (sz : Nat) (v_h0 : Nat → Nat → Int32) (p0 : Int32) (n9 : Nat) (v_h1 : Nat → Nat → Int32) : Array Value → State → Prop := va_Pc [.ref h, .int p0] (fun U => U.heap.size = sz ∧ NW U ∧ va_P (dC, dI) vwCl (ww_X3_writey dC dI cI cJ cB h h1 sz v_h0 p0 n9 v_h1) U.heap ∧ va_K (dC, dI) vwCl (tyL cI cJ cB) U ∧ va_D (fun _ => True) (ww_X3_writey dC dI cI cJ cB h h1 sz v_h0 p0 n9 v_h1))
abbrev rm_X3_writey : Room := { frames := 0, cells := 0, slots := 0, locals := 0 }
abbrev WW_X3_writey (p : Program) (l : Launch) (e : Env) (s : State) (m : MethodId) (below : List Frame) (meth : Method) (c : Code) (dC : Nat → ClassId) (dI : Nat → Nat → Nat) (cI cJ cB : ClassId) (h h1 : Nat) (sz : Nat) (v_h0 : Nat → Nat → Int32) (p0 : Int32) (n9 : Nat) (v_h1 : Nat → Nat → Int32) (H : Heap) (locs : List Loc) (g : JFrame) : Prop := W p l e rm_X3_writey s m ([.ref h, .int p0] : List Value).toArray below meth c H locs 0 0 (MQ below (qc_X3_writey dC dI cI cJ cB h h1 sz v_h0 p0 n9 v_h1) ([.ref h, .int p0] : List Value).toArray s 0 0 (va_A (ww_X3_writey dC dI cI cJ cB h h1 sz v_h0 p0 n9 v_h1) sz)) g
set_option maxHeartbeats 4000000 in
set_option maxRecDepth 100000 in
theorem c_X3_writey (l : Launch) (dC : Nat → ClassId) (dI : Nat → Nat → Nat) (cI cJ cB : ClassId) (h h1 : Nat) (sz : Nat) (v_h0 : Nat → Nat → Int32) (p0 : Int32) (n9 : Nat) (v_h1 : Nat → Nat → Int32) (hf : fx_X3_write n9 v_h0 p0 = some (v_h1)) : Met l yX3_write wo_X3_writey rm_X3_writey (pc_X3_writey dC dI cI cJ cB h h1 sz v_h0 p0 n9 v_h1) (qc_X3_writey dC dI cI cJ cB h h1 sz v_h0 p0 n9 v_h1) 0 0 (va_A (ww_X3_writey dC dI cI cJ cB h h1 sz v_h0 p0 n9 v_h1) sz) := by
  unfold fx_X3_write at hf
  refine Met.ofW (cc := cX3_write) (maxL := 3) (ret := none) (by decide) rfl ?_
  intro p e s m args below meth c s₁ B hml hv
  obtain ⟨rfl, hsz, hnw, hP, hK, hD0⟩ := hv
  have hx := B.exec
  have hb := B.bytes
  have hr := B.returns
  have hts := atoms_spec (ws := wo_X3_writey) B.pre
  have hown : s.vm.findClass RX3 = some m.cls := findClass_of_methodNamed B.named
  have hlocks := B.notSynchronized
  clear B
  subst hsz
  have hD := hD0.self (sz := s.heap.size)
  clear hD0
  have kk0_ := hts (.fieldLink RX3 15 "SumRewriter$Scanner" "length" "I") (by decide +kernel)
  have kk1_ : ∀ w ∈ wsX30, w ∈ wo_X3_writey := fun _ h => (List.mem_cons_of_mem _ (List.mem_append_right _ h))
  have kk2_ := hts (.fieldLink RX3 9 "SumRewriter$Scanner" "tape" "[I") (by decide +kernel)
  have hA : ∀ q : Nat, s.heap.size ≤ q → (va_A (ww_X3_writey dC dI cI cJ cB h h1 s.heap.size v_h0 p0 n9 v_h1) s.heap.size) q := fun q h => Or.inr h
  have hS : va_S (va_A (ww_X3_writey dC dI cI cJ cB h h1 s.heap.size v_h0 p0 n9 v_h1) s.heap.size) s.heap s.heap [] := va_S.rf
  have hl := lv_entry ([.ref h, .int p0]) (n := 3) (Nat.le_of_ble_eq_true rfl)
  rw [lg_entry_eq]
  generalize (lg_sl ([.ref h, .int p0]) ++ List.replicate (3 - (lg_sl ([.ref h, .int p0])).length) Slot.unset).toArray = ls at hl ⊢
  have hl : lv_has ls 3 [(0, .ref h), (1, .int p0)] := hl
  have hP : va_P (dC, dI) vwCl [(h, .inr (3, [.ref h1, .int (v_h0 0 0), .int (v_h0 0 1), .int (v_h0 0 2), .int (v_h0 0 3), .int (v_h0 0 4), .int (v_h0 0 5)])), (h1, .inl (cI, 400, .inl (v_h0 1)))] s.heap := hP
  have hD : va_D (va_A (ww_X3_writey dC dI cI cJ cB h h1 s.heap.size v_h0 p0 n9 v_h1) s.heap.size) [(h, .inr (3, [.ref h1, .int (v_h0 0 0), .int (v_h0 0 1), .int (v_h0 0 2), .int (v_h0 0 3), .int (v_h0 0 4), .int (v_h0 0 5)])), (h1, .inl (cI, 400, .inl (v_h0 1)))] := hD
  obtain ⟨H, hH⟩ : ∃ H, H = s.heap := ⟨_, rfl⟩
  obtain ⟨locs, hlc⟩ : ∃ L : List Loc, L = [] := ⟨_, rfl⟩
  have hS : va_S (va_A (ww_X3_writey dC dI cI cJ cB h h1 s.heap.size v_h0 p0 n9 v_h1) s.heap.size) s.heap H locs := by rw [hH, hlc]; exact hS
  have hP : va_P (dC, dI) vwCl [(h, .inr (3, [.ref h1, .int (v_h0 0 0), .int (v_h0 0 1), .int (v_h0 0 2), .int (v_h0 0 3), .int (v_h0 0 4), .int (v_h0 0 5)])), (h1, .inl (cI, 400, .inl (v_h0 1)))] H := by rw [hH]; exact hP
  suffices hgo : WW_X3_writey p l e s m below meth c dC dI cI cJ cB h h1 s.heap.size v_h0 p0 n9 v_h1 H locs (F0 m 0 ls []) by rw [hH, hlc] at hgo; exact hgo
  clear hH hlc
  have L_3 : ∀ (N_3 : Nat), ∀ (x2 : Int32) (v_h : Nat → Nat → Int32), lx_X3_write_3 n9 p0 N_3 x2 v_h = some (v_h1) → ∀ (H : Heap) (locs : List Loc), va_P (dC, dI) vwCl [(h, .inr (3, [.ref h1, .int (v_h 0 0), .int (v_h 0 1), .int (v_h 0 2), .int (v_h 0 3), .int (v_h 0 4), .int (v_h 0 5)])), (h1, .inl (cI, 400, .inl (v_h 1)))] H → va_D (va_A (ww_X3_writey dC dI cI cJ cB h h1 s.heap.size v_h0 p0 n9 v_h1) s.heap.size) [(h, .inr (3, [.ref h1, .int (v_h 0 0), .int (v_h 0 1), .int (v_h 0 2), .int (v_h 0 3), .int (v_h 0 4), .int (v_h 0 5)])), (h1, .inl (cI, 400, .inl (v_h 1)))] → va_S (va_A (ww_X3_writey dC dI cI cJ cB h h1 s.heap.size v_h0 p0 n9 v_h1) s.heap.size) s.heap H locs → ∀ ls : Array Slot, lv_has ls 3 [(0, .ref h), (1, .int p0), (2, .int x2)] → WW_X3_writey p l e s m below meth c dC dI cI cJ cB h h1 s.heap.size v_h0 p0 n9 v_h1 H locs (F0 m 3 ls []) := by
    intro N_3
    induction N_3 with
    | zero => intro x2 v_h hf; exact xn_to hf
    | succ N_3 ih_3 =>
      intro x2 v_h hf H locs hP hD hS ls hl
      replace hf : bx_X3_write_3 n9 p0 (lx_X3_write_3 n9 p0 N_3) x2 v_h = some (v_h1) := hf
      generalize lx_X3_write_3 n9 p0 N_3 = k_3 at hf ih_3
      unfold bx_X3_write_3 at hf
      refine lv_iload_n hx hb dX3_write_3 rfl (lv_at hl 2 rfl) ?_
      refine lv_if_lt (tgt := 58) hx hb dX3_write_4 (by decide) (fun c_1 => ?_) (fun c_1 => ?_)
      · replace hf := xi_t c_1 hf
        have hP9 := hP.sub (ws' := [(h, .inr (3, [.ref h1, .int (v_h 0 0), .int (v_h 0 1), .int (v_h 0 2), .int (v_h 0 3), .int (v_h 0 4), .int (v_h 0 5)])), (h1, .inl (cI, 400, .inl (v_h 1)))]) [0, 1] rfl
        have hD9 := hD.sub (ws' := [(h, .inr (3, [.ref h1, .int (v_h 0 0), .int (v_h 0 1), .int (v_h 0 2), .int (v_h 0 3), .int (v_h 0 4), .int (v_h 0 5)])), (h1, .inl (cI, 400, .inl (v_h 1)))]) [0, 1] (by decide) rfl
        have r9_0 : v_h = v_h1 := (Option.some.inj hf)
        exact W.vret hx hb hr (fun t ht hW => ⟨⟨v_h, rfl, r9_0, by rw [ht]; exact hP9, va_K.moved hW.alike hK, hD9⟩, hS.F ht⟩) hS.2.2 dX3_write_58
      · replace hf := xi_f c_1 hf
        refine lv_aload_n hx hb dX3_write_7 rfl (lv_at hl 0 rfl) ?_
        refine va_get (D := (dC, dI)) (ci := 3) (v := .int (v_h 0 0)) (C := RX3) (T := TX3) (N := 7) hx hb hts kk1_ hown hK hP 0 rfl rfl 1 (by decide) kk0_ (fun _ h9 => h9) rfl dX3_write_8 ?_
        refine lv_if_lt (tgt := 52) hx hb dX3_write_11 (by decide) (fun c_2 => ?_) (fun c_2 => ?_)
        · replace hf := xi_t c_2 hf
          obtain ⟨x2_3, ex2_3⟩ : ∃ y : Int32, y = x2 + (-8) := ⟨_, rfl⟩
          refine lv_iinc (v := x2_3) (lv' := [(2, .int x2_3), (0, .ref h), (1, .int p0)]) hx hb dX3_write_52 hl (k := 2) rfl (by rw [ex2_3]; rfl) (by decide) rfl (fun ls hl => ?_)
          replace hf := xl_to ex2_3 hf
          refine lv_goto (tgt := 3) hx hb dX3_write_55 (by decide) ?_
          exact ih_3 x2_3 v_h hf _ _ (hP.sub [0, 1] rfl) (hD.sub [0, 1] (by decide) rfl) hS ls (lv_sub hl [1, 2, 0] rfl)
        · replace hf := xi_f c_2 hf
          refine lv_aload_n hx hb dX3_write_14 rfl (lv_at hl 0 rfl) ?_
          refine va_get (D := (dC, dI)) (ci := 3) (v := .int (v_h 0 0)) (C := RX3) (T := TX3) (N := 7) hx hb hts kk1_ hown hK hP 0 rfl rfl 1 (by decide) kk0_ (fun _ h9 => h9) rfl dX3_write_15 ?_
          refine lv_aload_n hx hb dX3_write_18 rfl (lv_at hl 0 rfl) ?_
          refine va_get (D := (dC, dI)) (ci := 3) (v := .ref h1) (C := RX3) (T := TX3) (N := 7) hx hb hts kk1_ hown hK hP 0 rfl rfl 0 (by decide) kk2_ (fun _ h9 => h9) rfl dX3_write_19 ?_
          refine va_alen (v := 400) hx hb hK hP 1 0 rfl rfl rfl dX3_write_22 ?_
          refine lv_icmp_ge (tgt := 52) hx hb dX3_write_23 (by decide) (fun c_4 => ?_) (fun c_4 => ?_)
          · replace hf := xi_t c_4 hf
            obtain ⟨x2_5, ex2_5⟩ : ∃ y : Int32, y = x2 + (-8) := ⟨_, rfl⟩
            refine lv_iinc (v := x2_5) (lv' := [(2, .int x2_5), (0, .ref h), (1, .int p0)]) hx hb dX3_write_52 hl (k := 2) rfl (by rw [ex2_5]; rfl) (by decide) rfl (fun ls hl => ?_)
            replace hf := xl_to ex2_5 hf
            refine lv_goto (tgt := 3) hx hb dX3_write_55 (by decide) ?_
            exact ih_3 x2_5 v_h hf _ _ (hP.sub [0, 1] rfl) (hD.sub [0, 1] (by decide) rfl) hS ls (lv_sub hl [1, 2, 0] rfl)
          · replace hf := xi_f c_4 hf
            refine lv_aload_n hx hb dX3_write_26 rfl (lv_at hl 0 rfl) ?_
            refine va_get (D := (dC, dI)) (ci := 3) (v := .ref h1) (C := RX3) (T := TX3) (N := 7) hx hb hts kk1_ hown hK hP 0 rfl rfl 0 (by decide) kk2_ (fun _ h9 => h9) rfl dX3_write_27 ?_
            refine lv_aload_n hx hb dX3_write_30 rfl (lv_at hl 0 rfl) ?_
            refine va_get (D := (dC, dI)) (ci := 3) (v := .int (v_h 0 0)) (C := RX3) (T := TX3) (N := 7) hx hb hts kk1_ hown hK hP 0 rfl rfl 1 (by decide) kk0_ (fun _ h9 => h9) rfl dX3_write_31 ?_
            refine lv_iload_n hx hb dX3_write_34 rfl (lv_at hl 1 rfl) ?_
            refine lv_iload_n hx hb dX3_write_35 rfl (lv_at hl 2 rfl) ?_
            refine lv_iushr hx hb dX3_write_36 rfl ?_
            refine lv_topi (fun y_6 ey_6 => ?_)
            replace hf := xl_to (v := (p0.toUInt32 >>> (x2.toUInt32 &&& Int32.toUInt32 31)).toInt32) ey_6 hf
            refine lv_sipush (v := 255) hx hb dX3_write_37 (by decide) ?_
            refine lv_iand hx hb dX3_write_40 ?_
            refine lv_topi (fun y_7 ey_7 => ?_)
            replace hf := xl_to (v := y_6 &&& ((255 : Int32))) ey_7 hf
            refine va_iast hx hb hK hP hD hS 1 0 rfl rfl (vp_in_iff.mpr (xwp_in hf)) dX3_write_41 (fun H locs hP hD hS => ?_)
            obtain ⟨v_h_8, ev_h_8⟩ : ∃ z, z = mu v_h 1 (v_h 0 0).toNatClampNeg y_7 := ⟨_, rfl⟩
            have hP : va_P (dC, dI) vwCl [(h, .inr (3, [.ref h1, .int (v_h_8 0 0), .int (v_h_8 0 1), .int (v_h_8 0 2), .int (v_h_8 0 3), .int (v_h_8 0 4), .int (v_h_8 0 5)])), (h1, .inl (cI, 400, .inl (v_h_8 1)))] H := by rw [ev_h_8]; exact hP
            have hD : va_D (va_A (ww_X3_writey dC dI cI cJ cB h h1 s.heap.size v_h0 p0 n9 v_h1) s.heap.size) [(h, .inr (3, [.ref h1, .int (v_h_8 0 0), .int (v_h_8 0 1), .int (v_h_8 0 2), .int (v_h_8 0 3), .int (v_h_8 0 4), .int (v_h_8 0 5)])), (h1, .inl (cI, 400, .inl (v_h_8 1)))] := by rw [ev_h_8]; exact hD
            replace hf := xwp_to ev_h_8 hf
            refine lv_aload_n hx hb dX3_write_42 rfl (lv_at hl 0 rfl) ?_
            refine lv_dup hx hb dX3_write_43 rfl ?_
            refine va_get (D := (dC, dI)) (ci := 3) (v := .int (v_h_8 0 0)) (C := RX3) (T := TX3) (N := 7) hx hb hts kk1_ hown hK hP 0 rfl rfl 1 (by decide) kk0_ (fun _ h9 => h9) rfl dX3_write_44 ?_
            refine lv_iconst (v := 1) hx hb dX3_write_47 (by decide) ?_
            refine lv_iadd hx hb dX3_write_48 ?_
            refine lv_topi (fun y_9 ey_9 => ?_)
            replace hf := xl_to (v := (v_h_8 0 0) + ((1 : Int32))) ey_9 hf
            refine va_put (D := (dC, dI)) (ci := 3) (v := .int y_9) (ty := .int) (C := RX3) (T := TX3) (N := 7) hx hb hts kk1_ tyX3 tyX3_ok nmX3 hown hK hP hD hS 0 rfl rfl 1 (by decide) kk0_ (fun _ h9 => h9) rfl (by decide +kernel) rfl rfl (Nat.le_of_ble_eq_true rfl) dX3_write_49 (fun H locs hP hD hS => ?_)
            obtain ⟨v_h_10, ev_h_10⟩ : ∃ z, z = mu v_h_8 0 0 y_9 := ⟨_, rfl⟩
            have hP : va_P (dC, dI) vwCl [(h, .inr (3, [.ref h1, .int (v_h_10 0 0), .int (v_h_10 0 1), .int (v_h_10 0 2), .int (v_h_10 0 3), .int (v_h_10 0 4), .int (v_h_10 0 5)])), (h1, .inl (cI, 400, .inl (v_h_10 1)))] H := by rw [ev_h_10]; exact hP
            have hD : va_D (va_A (ww_X3_writey dC dI cI cJ cB h h1 s.heap.size v_h0 p0 n9 v_h1) s.heap.size) [(h, .inr (3, [.ref h1, .int (v_h_10 0 0), .int (v_h_10 0 1), .int (v_h_10 0 2), .int (v_h_10 0 3), .int (v_h_10 0 4), .int (v_h_10 0 5)])), (h1, .inl (cI, 400, .inl (v_h_10 1)))] := by rw [ev_h_10]; exact hD
            replace hf := xl_to ev_h_10 hf
            obtain ⟨x2_11, ex2_11⟩ : ∃ y : Int32, y = x2 + (-8) := ⟨_, rfl⟩
            refine lv_iinc (v := x2_11) (lv' := [(2, .int x2_11), (0, .ref h), (1, .int p0)]) hx hb dX3_write_52 hl (k := 2) rfl (by rw [ex2_11]; rfl) (by decide) rfl (fun ls hl => ?_)
            replace hf := xl_to ex2_11 hf
            refine lv_goto (tgt := 3) hx hb dX3_write_55 (by decide) ?_
            exact ih_3 x2_11 v_h_10 hf _ _ (hP.sub [0, 1] rfl) (hD.sub [0, 1] (by decide) rfl) hS ls (lv_sub hl [1, 2, 0] rfl)
  refine lv_bipush (v := 24) hx hb dX3_write_0 (by decide) ?_
  refine lv_istore_n (lv' := [(2, .int ((24 : Int32))), (0, .ref h), (1, .int p0)]) hx hb dX3_write_2 rfl hl (by decide) rfl (fun ls hl => ?_)
  exact L_3 n9 ((24 : Int32)) v_h0 hf _ _ (hP.sub [0, 1] rfl) (hD.sub [0, 1] (by decide) rfl) hS ls (lv_sub hl [1, 2, 0] rfl)
def wo_X3_appendy : List Cond := .code yX3_append cX3_append 6 (some .int) :: (([.fieldLink RX3 15 "SumRewriter$Scanner" "length" "I"] : List Cond) ++ ((wsX30) ++ ((wsV RX3 19 RX3 yX3_write wo_X3_writey))))
set_option maxRecDepth 20000 in
theorem go_wo_X3_appendy_1 : GoodIn wo_X3_appendy (wsV RX3 19 RX3 yX3_write wo_X3_writey) := goodIn_sub (fun _ h => (List.mem_cons_of_mem _ (List.mem_append_right _ (List.mem_append_right _ h)))) (by decide +kernel)
abbrev ww_X3_appendy (dC : Nat → ClassId) (dI : Nat → Nat → Nat) (cI cJ cB : ClassId) (h h1 : Nat) (sz : Nat) (v_h0 : Nat → Nat → Int32) (p0 : Int32) (p1 : Int32) (p2 : Int32) (p3 : Int32) (p4 : Int32) (n9 : Nat) (r1 : Int32) (v_h1 : Nat → Nat → Int32) : va_W := [(h, .inr (3, [.ref h1, .int (v_h0 0 0), .int (v_h0 0 1), .int (v_h0 0 2), .int (v_h0 0 3), .int (v_h0 0 4), .int (v_h0 0 5)])), (h1, .inl (cI, 400, .inl (v_h0 1)))]
abbrev at_X3_appendy (dC : Nat → ClassId) (dI : Nat → Nat → Nat) (cI cJ cB : ClassId) (h h1 : Nat) (sz : Nat) (v_h0 : Nat → Nat → Int32) (p0 : Int32) (p1 : Int32) (p2 : Int32) (p3 : Int32) (p4 : Int32) (n9 : Nat) (r1 : Int32) (v_h1 : Nat → Nat → Int32) (u : (Nat → Nat → Int32)) (t : State) : Prop := match u with
  | v_h => va_P (dC, dI) vwCl [(h, .inr (3, [.ref h1, .int (v_h 0 0), .int (v_h 0 1), .int (v_h 0 2), .int (v_h 0 3), .int (v_h 0 4), .int (v_h 0 5)])), (h1, .inl (cI, 400, .inl (v_h 1)))] t.heap ∧ va_K (dC, dI) vwCl (tyL cI cJ cB) t ∧ va_D (va_A (ww_X3_appendy dC dI cI cJ cB h h1 sz v_h0 p0 p1 p2 p3 p4 n9 r1 v_h1) sz) [(h, .inr (3, [.ref h1, .int (v_h 0 0), .int (v_h 0 1), .int (v_h 0 2), .int (v_h 0 3), .int (v_h 0 4), .int (v_h 0 5)])), (h1, .inl (cI, 400, .inl (v_h 1)))]
abbrev qc_X3_appendy (dC : Nat → ClassId) (dI : Nat → Nat → Nat) (cI cJ cB : ClassId) (h h1 : Nat) (sz : Nat) (v_h0 : Nat → Nat → Int32) (p0 : Int32) (p1 : Int32) (p2 : Int32) (p3 : Int32) (p4 : Int32) (n9 : Nat) (r1 : Int32) (v_h1 : Nat → Nat → Int32) : Array Value → State → Outcome → State → Prop := va_Qi (fun (r : Int32) (u : (Nat → Nat → Int32)) => match u with | v_h => (r = r1) ∧ (v_h = v_h1)) (at_X3_appendy dC dI cI cJ cB h h1 sz v_h0 p0 p1 p2 p3 p4 n9 r1 v_h1) (va_A (ww_X3_appendy dC dI cI cJ cB h h1 sz v_h0 p0 p1 p2 p3 p4 n9 r1 v_h1) sz)
abbrev pc_X3_appendy (dC : Nat → ClassId) (dI : Nat → Nat → Nat) (cI cJ cB : ClassId) (h h1 : Nat) (sz : Nat) (v_h0 : Nat → Nat → Int32) (p0 : Int32) (p1 : Int32) (p2 : Int32) (p3 : Int32) (p4 : Int32) (n9 : Nat) (r1 : Int32) (v_h1 : Nat → Nat → Int32) : Array Value → State → Prop := va_Pc [.ref h, .int p0, .int p1, .int p2, .int p3, .int p4] (fun U => U.heap.size = sz ∧ NW U ∧ va_P (dC, dI) vwCl (ww_X3_appendy dC dI cI cJ cB h h1 sz v_h0 p0 p1 p2 p3 p4 n9 r1 v_h1) U.heap ∧ va_K (dC, dI) vwCl (tyL cI cJ cB) U ∧ va_D (fun _ => True) (ww_X3_appendy dC dI cI cJ cB h h1 sz v_h0 p0 p1 p2 p3 p4 n9 r1 v_h1))
abbrev rm_X3_appendy : Room := { frames := 1, cells := 0, slots := 0, locals := 22 }
abbrev WW_X3_appendy (p : Program) (l : Launch) (e : Env) (s : State) (m : MethodId) (below : List Frame) (meth : Method) (c : Code) (dC : Nat → ClassId) (dI : Nat → Nat → Nat) (cI cJ cB : ClassId) (h h1 : Nat) (sz : Nat) (v_h0 : Nat → Nat → Int32) (p0 : Int32) (p1 : Int32) (p2 : Int32) (p3 : Int32) (p4 : Int32) (n9 : Nat) (r1 : Int32) (v_h1 : Nat → Nat → Int32) (H : Heap) (locs : List Loc) (g : JFrame) : Prop := W p l e rm_X3_appendy s m ([.ref h, .int p0, .int p1, .int p2, .int p3, .int p4] : List Value).toArray below meth c H locs 0 0 (MQ below (qc_X3_appendy dC dI cI cJ cB h h1 sz v_h0 p0 p1 p2 p3 p4 n9 r1 v_h1) ([.ref h, .int p0, .int p1, .int p2, .int p3, .int p4] : List Value).toArray s 0 0 (va_A (ww_X3_appendy dC dI cI cJ cB h h1 sz v_h0 p0 p1 p2 p3 p4 n9 r1 v_h1) sz)) g
set_option maxHeartbeats 4000000 in
set_option maxRecDepth 100000 in
theorem c_X3_appendy (l : Launch) (dC : Nat → ClassId) (dI : Nat → Nat → Nat) (cI cJ cB : ClassId) (h h1 : Nat) (sz : Nat) (v_h0 : Nat → Nat → Int32) (p0 : Int32) (p1 : Int32) (p2 : Int32) (p3 : Int32) (p4 : Int32) (n9 : Nat) (r1 : Int32) (v_h1 : Nat → Nat → Int32) (hf : fx_X3_append n9 v_h0 p0 p1 p2 p3 p4 = some (r1, v_h1)) : Met l yX3_append wo_X3_appendy rm_X3_appendy (pc_X3_appendy dC dI cI cJ cB h h1 sz v_h0 p0 p1 p2 p3 p4 n9 r1 v_h1) (qc_X3_appendy dC dI cI cJ cB h h1 sz v_h0 p0 p1 p2 p3 p4 n9 r1 v_h1) 0 0 (va_A (ww_X3_appendy dC dI cI cJ cB h h1 sz v_h0 p0 p1 p2 p3 p4 n9 r1 v_h1) sz) := by
  unfold fx_X3_append at hf
  refine Met.ofW (cc := cX3_append) (maxL := 6) (ret := (some .int)) (by decide) rfl ?_
  intro p e s m args below meth c s₁ B hml hv
  obtain ⟨rfl, hsz, hnw, hP, hK, hD0⟩ := hv
  have hx := B.exec
  have hb := B.bytes
  have hr := B.returns
  have hts := atoms_spec (ws := wo_X3_appendy) B.pre
  have hown : s.vm.findClass RX3 = some m.cls := findClass_of_methodNamed B.named
  have hlocks := B.notSynchronized
  clear B
  subst hsz
  have hD := hD0.self (sz := s.heap.size)
  clear hD0
  have kk0_ := hts (.fieldLink RX3 15 "SumRewriter$Scanner" "length" "I") (by decide +kernel)
  have kk1_ : ∀ w ∈ wsX30, w ∈ wo_X3_appendy := fun _ h => (List.mem_cons_of_mem _ (List.mem_append_right _ (List.mem_append_left _ h)))
  have hA : ∀ q : Nat, s.heap.size ≤ q → (va_A (ww_X3_appendy dC dI cI cJ cB h h1 s.heap.size v_h0 p0 p1 p2 p3 p4 n9 r1 v_h1) s.heap.size) q := fun q h => Or.inr h
  have hS : va_S (va_A (ww_X3_appendy dC dI cI cJ cB h h1 s.heap.size v_h0 p0 p1 p2 p3 p4 n9 r1 v_h1) s.heap.size) s.heap s.heap [] := va_S.rf
  have hl := lv_entry ([.ref h, .int p0, .int p1, .int p2, .int p3, .int p4]) (n := 6) (Nat.le_of_ble_eq_true rfl)
  rw [lg_entry_eq]
  generalize (lg_sl ([.ref h, .int p0, .int p1, .int p2, .int p3, .int p4]) ++ List.replicate (6 - (lg_sl ([.ref h, .int p0, .int p1, .int p2, .int p3, .int p4])).length) Slot.unset).toArray = ls at hl ⊢
  have hl : lv_has ls 6 [(0, .ref h), (1, .int p0), (2, .int p1), (3, .int p2), (4, .int p3), (5, .int p4)] := hl
  have hP : va_P (dC, dI) vwCl [(h, .inr (3, [.ref h1, .int (v_h0 0 0), .int (v_h0 0 1), .int (v_h0 0 2), .int (v_h0 0 3), .int (v_h0 0 4), .int (v_h0 0 5)])), (h1, .inl (cI, 400, .inl (v_h0 1)))] s.heap := hP
  have hD : va_D (va_A (ww_X3_appendy dC dI cI cJ cB h h1 s.heap.size v_h0 p0 p1 p2 p3 p4 n9 r1 v_h1) s.heap.size) [(h, .inr (3, [.ref h1, .int (v_h0 0 0), .int (v_h0 0 1), .int (v_h0 0 2), .int (v_h0 0 3), .int (v_h0 0 4), .int (v_h0 0 5)])), (h1, .inl (cI, 400, .inl (v_h0 1)))] := hD
  obtain ⟨H, hH⟩ : ∃ H, H = s.heap := ⟨_, rfl⟩
  obtain ⟨locs, hlc⟩ : ∃ L : List Loc, L = [] := ⟨_, rfl⟩
  have hS : va_S (va_A (ww_X3_appendy dC dI cI cJ cB h h1 s.heap.size v_h0 p0 p1 p2 p3 p4 n9 r1 v_h1) s.heap.size) s.heap H locs := by rw [hH, hlc]; exact hS
  have hP : va_P (dC, dI) vwCl [(h, .inr (3, [.ref h1, .int (v_h0 0 0), .int (v_h0 0 1), .int (v_h0 0 2), .int (v_h0 0 3), .int (v_h0 0 4), .int (v_h0 0 5)])), (h1, .inl (cI, 400, .inl (v_h0 1)))] H := by rw [hH]; exact hP
  suffices hgo : WW_X3_appendy p l e s m below meth c dC dI cI cJ cB h h1 s.heap.size v_h0 p0 p1 p2 p3 p4 n9 r1 v_h1 H locs (F0 m 0 ls []) by rw [hH, hlc] at hgo; exact hgo
  clear hH hlc
  refine lv_aload_n hx hb dX3_append_0 rfl (lv_at hl 0 rfl) ?_
  refine va_get (D := (dC, dI)) (ci := 3) (v := .int (v_h0 0 0)) (C := RX3) (T := TX3) (N := 7) hx hb hts kk1_ hown hK hP 0 rfl rfl 1 (by decide) kk0_ (fun _ h9 => h9) rfl dX3_append_1 ?_
  refine lv_sipush (v := 380) hx hb dX3_append_4 (by decide) ?_
  refine lv_icmp_le (tgt := 12) hx hb dX3_append_7 (by decide) (fun c_1 => ?_) (fun c_1 => ?_)
  · replace hf := xi_t c_1 hf
    refine lv_aload_n hx hb dX3_append_12 rfl (lv_at hl 0 rfl) ?_
    refine lv_iload_n hx hb dX3_append_13 rfl (lv_at hl 1 rfl) ?_
    replace hf := xb1_to hf
    obtain ⟨o_2, g_3, hf⟩ := hf
    have hPc := hP.sub (ws' := [(h, .inr (3, [.ref h1, .int (v_h0 0 0), .int (v_h0 0 1), .int (v_h0 0 2), .int (v_h0 0 3), .int (v_h0 0 4), .int (v_h0 0 5)])), (h1, .inl (cI, 400, .inl (v_h0 1)))]) [0, 1] rfl
    have hDc := hD.sub (ws' := [(h, .inr (3, [.ref h1, .int (v_h0 0 0), .int (v_h0 0 1), .int (v_h0 0 2), .int (v_h0 0 3), .int (v_h0 0 4), .int (v_h0 0 5)])), (h1, .inl (cI, 400, .inl (v_h0 1)))]) [0, 1] (by decide) rfl
    have hFc := va_free (wc := [(h, .inr (3, [.ref h1, .int (v_h0 0 0), .int (v_h0 0 1), .int (v_h0 0 2), .int (v_h0 0 3), .int (v_h0 0 4), .int (v_h0 0 5)])), (h1, .inl (cI, 400, .inl (v_h0 1)))]) hD hS hA [0, 1] rfl
    refine va_callv (va_runV (As := [.int p0]) (rest := []) ⟨hx, hb, hml, hown, hts⟩ (c_X3_writey l dC dI cI cJ cB h h1 H.size v_h0 p0 n9 o_2 g_3) (cwV 1 hts go_wo_X3_appendy_1 rfl rfl rfl (by decide +kernel) ⟨Nat.le_of_ble_eq_true rfl, Nat.le_of_ble_eq_true rfl⟩) ⟨fun a U g mk q => by obtain ⟨q0, q1, qN, qP, qK, qD⟩ := q; exact ⟨q0, q1, NW.calling qN, qP, va_K.moved (u := U) (U := U.calling g mk a) (Vm.Alike.refl U.vm) qK, qD⟩, va_recv hK hPc (ci := 3) (q0 := 0) rfl rfl, fun U hU hW => ⟨rfl, by rw [hU], NW.warm hW hnw, by rw [hU]; exact hPc, va_K.moved hW.alike hK, hDc.weaken (fun _ _ _ _ => trivial)⟩⟩ rfl rfl hl.1 rfl (lv_room (Nat.le_of_ble_eq_true rfl)) dX3_append_14 ⟨Nat.zero_le _, Nat.zero_le _⟩) hS (fun q _ h => hFc q h) hFc (fun u t H1 locs ht hvm hw hB hz1 hk1 hS => ?_)
    obtain ⟨v_h_5, rfl⟩ : ∃ z, z = u := ⟨_, rfl⟩
    obtain ⟨hP1, hK1, hD1⟩ := hB
    rw [ht] at hP1
    have hw : (v_h_5 = o_2) := hw
    subst hw
    obtain ⟨hP, hD⟩ := va_join (wr := []) (w1 := [(h, .inr (3, [.ref h1, .int (v_h_5 0 0), .int (v_h_5 0 1), .int (v_h_5 0 2), .int (v_h_5 0 3), .int (v_h_5 0 4), .int (v_h_5 0 5)])), (h1, .inl (cI, 400, .inl (v_h_5 1)))]) hP hD [0, 1] [] rfl rfl (by decide) (by decide) hk1 hFc hP1 hD1
    generalize H1 = H at hP hS ⊢
    have hP : va_P (dC, dI) vwCl [(h, .inr (3, [.ref h1, .int (v_h_5 0 0), .int (v_h_5 0 1), .int (v_h_5 0 2), .int (v_h_5 0 3), .int (v_h_5 0 4), .int (v_h_5 0 5)])), (h1, .inl (cI, 400, .inl (v_h_5 1)))] H := hP
    have hD : va_D (va_A (ww_X3_appendy dC dI cI cJ cB h h1 s.heap.size v_h0 p0 p1 p2 p3 p4 n9 r1 v_h1) s.heap.size) [(h, .inr (3, [.ref h1, .int (v_h_5 0 0), .int (v_h_5 0 1), .int (v_h_5 0 2), .int (v_h_5 0 3), .int (v_h_5 0 4), .int (v_h_5 0 5)])), (h1, .inl (cI, 400, .inl (v_h_5 1)))] := hD
    clear hPc hDc hFc hP1 hK1 hD1 hk1 hz1 ht hvm g_3
    refine lv_aload_n hx hb dX3_append_17 rfl (lv_at hl 0 rfl) ?_
    refine lv_iload_n hx hb dX3_append_18 rfl (lv_at hl 2 rfl) ?_
    replace hf := xb1_to hf
    obtain ⟨o_7, g_8, hf⟩ := hf
    have hPc := hP.sub (ws' := [(h, .inr (3, [.ref h1, .int (v_h_5 0 0), .int (v_h_5 0 1), .int (v_h_5 0 2), .int (v_h_5 0 3), .int (v_h_5 0 4), .int (v_h_5 0 5)])), (h1, .inl (cI, 400, .inl (v_h_5 1)))]) [0, 1] rfl
    have hDc := hD.sub (ws' := [(h, .inr (3, [.ref h1, .int (v_h_5 0 0), .int (v_h_5 0 1), .int (v_h_5 0 2), .int (v_h_5 0 3), .int (v_h_5 0 4), .int (v_h_5 0 5)])), (h1, .inl (cI, 400, .inl (v_h_5 1)))]) [0, 1] (by decide) rfl
    have hFc := va_free (wc := [(h, .inr (3, [.ref h1, .int (v_h_5 0 0), .int (v_h_5 0 1), .int (v_h_5 0 2), .int (v_h_5 0 3), .int (v_h_5 0 4), .int (v_h_5 0 5)])), (h1, .inl (cI, 400, .inl (v_h_5 1)))]) hD hS hA [0, 1] rfl
    refine va_callv (va_runV (As := [.int p1]) (rest := []) ⟨hx, hb, hml, hown, hts⟩ (c_X3_writey l dC dI cI cJ cB h h1 H.size v_h_5 p1 n9 o_7 g_8) (cwV 1 hts go_wo_X3_appendy_1 rfl rfl rfl (by decide +kernel) ⟨Nat.le_of_ble_eq_true rfl, Nat.le_of_ble_eq_true rfl⟩) ⟨fun a U g mk q => by obtain ⟨q0, q1, qN, qP, qK, qD⟩ := q; exact ⟨q0, q1, NW.calling qN, qP, va_K.moved (u := U) (U := U.calling g mk a) (Vm.Alike.refl U.vm) qK, qD⟩, va_recv hK hPc (ci := 3) (q0 := 0) rfl rfl, fun U hU hW => ⟨rfl, by rw [hU], NW.warm hW hnw, by rw [hU]; exact hPc, va_K.moved hW.alike hK, hDc.weaken (fun _ _ _ _ => trivial)⟩⟩ rfl rfl hl.1 rfl (lv_room (Nat.le_of_ble_eq_true rfl)) dX3_append_19 ⟨Nat.zero_le _, Nat.zero_le _⟩) hS (fun q _ h => hFc q h) hFc (fun u t H1 locs ht hvm hw hB hz1 hk1 hS => ?_)
    obtain ⟨v_h_10, rfl⟩ : ∃ z, z = u := ⟨_, rfl⟩
    obtain ⟨hP1, hK1, hD1⟩ := hB
    rw [ht] at hP1
    have hw : (v_h_10 = o_7) := hw
    subst hw
    obtain ⟨hP, hD⟩ := va_join (wr := []) (w1 := [(h, .inr (3, [.ref h1, .int (v_h_10 0 0), .int (v_h_10 0 1), .int (v_h_10 0 2), .int (v_h_10 0 3), .int (v_h_10 0 4), .int (v_h_10 0 5)])), (h1, .inl (cI, 400, .inl (v_h_10 1)))]) hP hD [0, 1] [] rfl rfl (by decide) (by decide) hk1 hFc hP1 hD1
    generalize H1 = H at hP hS ⊢
    have hP : va_P (dC, dI) vwCl [(h, .inr (3, [.ref h1, .int (v_h_10 0 0), .int (v_h_10 0 1), .int (v_h_10 0 2), .int (v_h_10 0 3), .int (v_h_10 0 4), .int (v_h_10 0 5)])), (h1, .inl (cI, 400, .inl (v_h_10 1)))] H := hP
    have hD : va_D (va_A (ww_X3_appendy dC dI cI cJ cB h h1 s.heap.size v_h0 p0 p1 p2 p3 p4 n9 r1 v_h1) s.heap.size) [(h, .inr (3, [.ref h1, .int (v_h_10 0 0), .int (v_h_10 0 1), .int (v_h_10 0 2), .int (v_h_10 0 3), .int (v_h_10 0 4), .int (v_h_10 0 5)])), (h1, .inl (cI, 400, .inl (v_h_10 1)))] := hD
    clear hPc hDc hFc hP1 hK1 hD1 hk1 hz1 ht hvm g_8
    refine lv_aload_n hx hb dX3_append_22 rfl (lv_at hl 0 rfl) ?_
    refine lv_iload_n hx hb dX3_append_23 rfl (lv_at hl 3 rfl) ?_
    replace hf := xb1_to hf
    obtain ⟨o_12, g_13, hf⟩ := hf
    have hPc := hP.sub (ws' := [(h, .inr (3, [.ref h1, .int (v_h_10 0 0), .int (v_h_10 0 1), .int (v_h_10 0 2), .int (v_h_10 0 3), .int (v_h_10 0 4), .int (v_h_10 0 5)])), (h1, .inl (cI, 400, .inl (v_h_10 1)))]) [0, 1] rfl
    have hDc := hD.sub (ws' := [(h, .inr (3, [.ref h1, .int (v_h_10 0 0), .int (v_h_10 0 1), .int (v_h_10 0 2), .int (v_h_10 0 3), .int (v_h_10 0 4), .int (v_h_10 0 5)])), (h1, .inl (cI, 400, .inl (v_h_10 1)))]) [0, 1] (by decide) rfl
    have hFc := va_free (wc := [(h, .inr (3, [.ref h1, .int (v_h_10 0 0), .int (v_h_10 0 1), .int (v_h_10 0 2), .int (v_h_10 0 3), .int (v_h_10 0 4), .int (v_h_10 0 5)])), (h1, .inl (cI, 400, .inl (v_h_10 1)))]) hD hS hA [0, 1] rfl
    refine va_callv (va_runV (As := [.int p2]) (rest := []) ⟨hx, hb, hml, hown, hts⟩ (c_X3_writey l dC dI cI cJ cB h h1 H.size v_h_10 p2 n9 o_12 g_13) (cwV 1 hts go_wo_X3_appendy_1 rfl rfl rfl (by decide +kernel) ⟨Nat.le_of_ble_eq_true rfl, Nat.le_of_ble_eq_true rfl⟩) ⟨fun a U g mk q => by obtain ⟨q0, q1, qN, qP, qK, qD⟩ := q; exact ⟨q0, q1, NW.calling qN, qP, va_K.moved (u := U) (U := U.calling g mk a) (Vm.Alike.refl U.vm) qK, qD⟩, va_recv hK hPc (ci := 3) (q0 := 0) rfl rfl, fun U hU hW => ⟨rfl, by rw [hU], NW.warm hW hnw, by rw [hU]; exact hPc, va_K.moved hW.alike hK, hDc.weaken (fun _ _ _ _ => trivial)⟩⟩ rfl rfl hl.1 rfl (lv_room (Nat.le_of_ble_eq_true rfl)) dX3_append_24 ⟨Nat.zero_le _, Nat.zero_le _⟩) hS (fun q _ h => hFc q h) hFc (fun u t H1 locs ht hvm hw hB hz1 hk1 hS => ?_)
    obtain ⟨v_h_15, rfl⟩ : ∃ z, z = u := ⟨_, rfl⟩
    obtain ⟨hP1, hK1, hD1⟩ := hB
    rw [ht] at hP1
    have hw : (v_h_15 = o_12) := hw
    subst hw
    obtain ⟨hP, hD⟩ := va_join (wr := []) (w1 := [(h, .inr (3, [.ref h1, .int (v_h_15 0 0), .int (v_h_15 0 1), .int (v_h_15 0 2), .int (v_h_15 0 3), .int (v_h_15 0 4), .int (v_h_15 0 5)])), (h1, .inl (cI, 400, .inl (v_h_15 1)))]) hP hD [0, 1] [] rfl rfl (by decide) (by decide) hk1 hFc hP1 hD1
    generalize H1 = H at hP hS ⊢
    have hP : va_P (dC, dI) vwCl [(h, .inr (3, [.ref h1, .int (v_h_15 0 0), .int (v_h_15 0 1), .int (v_h_15 0 2), .int (v_h_15 0 3), .int (v_h_15 0 4), .int (v_h_15 0 5)])), (h1, .inl (cI, 400, .inl (v_h_15 1)))] H := hP
    have hD : va_D (va_A (ww_X3_appendy dC dI cI cJ cB h h1 s.heap.size v_h0 p0 p1 p2 p3 p4 n9 r1 v_h1) s.heap.size) [(h, .inr (3, [.ref h1, .int (v_h_15 0 0), .int (v_h_15 0 1), .int (v_h_15 0 2), .int (v_h_15 0 3), .int (v_h_15 0 4), .int (v_h_15 0 5)])), (h1, .inl (cI, 400, .inl (v_h_15 1)))] := hD
    clear hPc hDc hFc hP1 hK1 hD1 hk1 hz1 ht hvm g_13
    refine lv_aload_n hx hb dX3_append_27 rfl (lv_at hl 0 rfl) ?_
    refine lv_iload hx hb dX3_append_28 (lv_at hl 4 rfl) ?_
    replace hf := xb1_to hf
    obtain ⟨o_17, g_18, hf⟩ := hf
    have hPc := hP.sub (ws' := [(h, .inr (3, [.ref h1, .int (v_h_15 0 0), .int (v_h_15 0 1), .int (v_h_15 0 2), .int (v_h_15 0 3), .int (v_h_15 0 4), .int (v_h_15 0 5)])), (h1, .inl (cI, 400, .inl (v_h_15 1)))]) [0, 1] rfl
    have hDc := hD.sub (ws' := [(h, .inr (3, [.ref h1, .int (v_h_15 0 0), .int (v_h_15 0 1), .int (v_h_15 0 2), .int (v_h_15 0 3), .int (v_h_15 0 4), .int (v_h_15 0 5)])), (h1, .inl (cI, 400, .inl (v_h_15 1)))]) [0, 1] (by decide) rfl
    have hFc := va_free (wc := [(h, .inr (3, [.ref h1, .int (v_h_15 0 0), .int (v_h_15 0 1), .int (v_h_15 0 2), .int (v_h_15 0 3), .int (v_h_15 0 4), .int (v_h_15 0 5)])), (h1, .inl (cI, 400, .inl (v_h_15 1)))]) hD hS hA [0, 1] rfl
    refine va_callv (va_runV (As := [.int p3]) (rest := []) ⟨hx, hb, hml, hown, hts⟩ (c_X3_writey l dC dI cI cJ cB h h1 H.size v_h_15 p3 n9 o_17 g_18) (cwV 1 hts go_wo_X3_appendy_1 rfl rfl rfl (by decide +kernel) ⟨Nat.le_of_ble_eq_true rfl, Nat.le_of_ble_eq_true rfl⟩) ⟨fun a U g mk q => by obtain ⟨q0, q1, qN, qP, qK, qD⟩ := q; exact ⟨q0, q1, NW.calling qN, qP, va_K.moved (u := U) (U := U.calling g mk a) (Vm.Alike.refl U.vm) qK, qD⟩, va_recv hK hPc (ci := 3) (q0 := 0) rfl rfl, fun U hU hW => ⟨rfl, by rw [hU], NW.warm hW hnw, by rw [hU]; exact hPc, va_K.moved hW.alike hK, hDc.weaken (fun _ _ _ _ => trivial)⟩⟩ rfl rfl hl.1 rfl (lv_room (Nat.le_of_ble_eq_true rfl)) dX3_append_30 ⟨Nat.zero_le _, Nat.zero_le _⟩) hS (fun q _ h => hFc q h) hFc (fun u t H1 locs ht hvm hw hB hz1 hk1 hS => ?_)
    obtain ⟨v_h_20, rfl⟩ : ∃ z, z = u := ⟨_, rfl⟩
    obtain ⟨hP1, hK1, hD1⟩ := hB
    rw [ht] at hP1
    have hw : (v_h_20 = o_17) := hw
    subst hw
    obtain ⟨hP, hD⟩ := va_join (wr := []) (w1 := [(h, .inr (3, [.ref h1, .int (v_h_20 0 0), .int (v_h_20 0 1), .int (v_h_20 0 2), .int (v_h_20 0 3), .int (v_h_20 0 4), .int (v_h_20 0 5)])), (h1, .inl (cI, 400, .inl (v_h_20 1)))]) hP hD [0, 1] [] rfl rfl (by decide) (by decide) hk1 hFc hP1 hD1
    generalize H1 = H at hP hS ⊢
    have hP : va_P (dC, dI) vwCl [(h, .inr (3, [.ref h1, .int (v_h_20 0 0), .int (v_h_20 0 1), .int (v_h_20 0 2), .int (v_h_20 0 3), .int (v_h_20 0 4), .int (v_h_20 0 5)])), (h1, .inl (cI, 400, .inl (v_h_20 1)))] H := hP
    have hD : va_D (va_A (ww_X3_appendy dC dI cI cJ cB h h1 s.heap.size v_h0 p0 p1 p2 p3 p4 n9 r1 v_h1) s.heap.size) [(h, .inr (3, [.ref h1, .int (v_h_20 0 0), .int (v_h_20 0 1), .int (v_h_20 0 2), .int (v_h_20 0 3), .int (v_h_20 0 4), .int (v_h_20 0 5)])), (h1, .inl (cI, 400, .inl (v_h_20 1)))] := hD
    clear hPc hDc hFc hP1 hK1 hD1 hk1 hz1 ht hvm g_18
    refine lv_aload_n hx hb dX3_append_33 rfl (lv_at hl 0 rfl) ?_
    refine lv_iload hx hb dX3_append_34 (lv_at hl 5 rfl) ?_
    replace hf := xb1_to hf
    obtain ⟨o_22, g_23, hf⟩ := hf
    have hPc := hP.sub (ws' := [(h, .inr (3, [.ref h1, .int (v_h_20 0 0), .int (v_h_20 0 1), .int (v_h_20 0 2), .int (v_h_20 0 3), .int (v_h_20 0 4), .int (v_h_20 0 5)])), (h1, .inl (cI, 400, .inl (v_h_20 1)))]) [0, 1] rfl
    have hDc := hD.sub (ws' := [(h, .inr (3, [.ref h1, .int (v_h_20 0 0), .int (v_h_20 0 1), .int (v_h_20 0 2), .int (v_h_20 0 3), .int (v_h_20 0 4), .int (v_h_20 0 5)])), (h1, .inl (cI, 400, .inl (v_h_20 1)))]) [0, 1] (by decide) rfl
    have hFc := va_free (wc := [(h, .inr (3, [.ref h1, .int (v_h_20 0 0), .int (v_h_20 0 1), .int (v_h_20 0 2), .int (v_h_20 0 3), .int (v_h_20 0 4), .int (v_h_20 0 5)])), (h1, .inl (cI, 400, .inl (v_h_20 1)))]) hD hS hA [0, 1] rfl
    refine va_callv (va_runV (As := [.int p4]) (rest := []) ⟨hx, hb, hml, hown, hts⟩ (c_X3_writey l dC dI cI cJ cB h h1 H.size v_h_20 p4 n9 o_22 g_23) (cwV 1 hts go_wo_X3_appendy_1 rfl rfl rfl (by decide +kernel) ⟨Nat.le_of_ble_eq_true rfl, Nat.le_of_ble_eq_true rfl⟩) ⟨fun a U g mk q => by obtain ⟨q0, q1, qN, qP, qK, qD⟩ := q; exact ⟨q0, q1, NW.calling qN, qP, va_K.moved (u := U) (U := U.calling g mk a) (Vm.Alike.refl U.vm) qK, qD⟩, va_recv hK hPc (ci := 3) (q0 := 0) rfl rfl, fun U hU hW => ⟨rfl, by rw [hU], NW.warm hW hnw, by rw [hU]; exact hPc, va_K.moved hW.alike hK, hDc.weaken (fun _ _ _ _ => trivial)⟩⟩ rfl rfl hl.1 rfl (lv_room (Nat.le_of_ble_eq_true rfl)) dX3_append_36 ⟨Nat.zero_le _, Nat.zero_le _⟩) hS (fun q _ h => hFc q h) hFc (fun u t H1 locs ht hvm hw hB hz1 hk1 hS => ?_)
    obtain ⟨v_h_25, rfl⟩ : ∃ z, z = u := ⟨_, rfl⟩
    obtain ⟨hP1, hK1, hD1⟩ := hB
    rw [ht] at hP1
    have hw : (v_h_25 = o_22) := hw
    subst hw
    obtain ⟨hP, hD⟩ := va_join (wr := []) (w1 := [(h, .inr (3, [.ref h1, .int (v_h_25 0 0), .int (v_h_25 0 1), .int (v_h_25 0 2), .int (v_h_25 0 3), .int (v_h_25 0 4), .int (v_h_25 0 5)])), (h1, .inl (cI, 400, .inl (v_h_25 1)))]) hP hD [0, 1] [] rfl rfl (by decide) (by decide) hk1 hFc hP1 hD1
    generalize H1 = H at hP hS ⊢
    have hP : va_P (dC, dI) vwCl [(h, .inr (3, [.ref h1, .int (v_h_25 0 0), .int (v_h_25 0 1), .int (v_h_25 0 2), .int (v_h_25 0 3), .int (v_h_25 0 4), .int (v_h_25 0 5)])), (h1, .inl (cI, 400, .inl (v_h_25 1)))] H := hP
    have hD : va_D (va_A (ww_X3_appendy dC dI cI cJ cB h h1 s.heap.size v_h0 p0 p1 p2 p3 p4 n9 r1 v_h1) s.heap.size) [(h, .inr (3, [.ref h1, .int (v_h_25 0 0), .int (v_h_25 0 1), .int (v_h_25 0 2), .int (v_h_25 0 3), .int (v_h_25 0 4), .int (v_h_25 0 5)])), (h1, .inl (cI, 400, .inl (v_h_25 1)))] := hD
    clear hPc hDc hFc hP1 hK1 hD1 hk1 hz1 ht hvm g_23
    refine lv_aload_n hx hb dX3_append_39 rfl (lv_at hl 0 rfl) ?_
    refine va_get (D := (dC, dI)) (ci := 3) (v := .int (v_h_25 0 0)) (C := RX3) (T := TX3) (N := 7) hx hb hts kk1_ hown hK hP 0 rfl rfl 1 (by decide) kk0_ (fun _ h9 => h9) rfl dX3_append_40 ?_
    have hP9 := hP.sub (ws' := [(h, .inr (3, [.ref h1, .int (v_h_25 0 0), .int (v_h_25 0 1), .int (v_h_25 0 2), .int (v_h_25 0 3), .int (v_h_25 0 4), .int (v_h_25 0 5)])), (h1, .inl (cI, 400, .inl (v_h_25 1)))]) [0, 1] rfl
    have hD9 := hD.sub (ws' := [(h, .inr (3, [.ref h1, .int (v_h_25 0 0), .int (v_h_25 0 1), .int (v_h_25 0 2), .int (v_h_25 0 3), .int (v_h_25 0 4), .int (v_h_25 0 5)])), (h1, .inl (cI, 400, .inl (v_h_25 1)))]) [0, 1] (by decide) rfl
    have r9_0 : v_h_25 0 0 = r1 := (Prod.mk.inj (Option.some.inj hf)).1
    have r9_1 : v_h_25 = v_h1 := (Prod.mk.inj (Option.some.inj hf)).2
    exact W.iret (v := v_h_25 0 0) hx hb hr (fun t ht hW => ⟨⟨v_h_25 0 0, v_h_25, rfl, ⟨r9_0, r9_1⟩, by rw [ht]; exact hP9, va_K.moved hW.alike hK, hD9⟩, hS.F ht⟩) hS.2.2 dX3_append_43
  · replace hf := xi_f c_1 hf
    refine lv_iconst (v := -1) hx hb dX3_append_10 (by decide) ?_
    have hP9 := hP.sub (ws' := [(h, .inr (3, [.ref h1, .int (v_h0 0 0), .int (v_h0 0 1), .int (v_h0 0 2), .int (v_h0 0 3), .int (v_h0 0 4), .int (v_h0 0 5)])), (h1, .inl (cI, 400, .inl (v_h0 1)))]) [0, 1] rfl
    have hD9 := hD.sub (ws' := [(h, .inr (3, [.ref h1, .int (v_h0 0 0), .int (v_h0 0 1), .int (v_h0 0 2), .int (v_h0 0 3), .int (v_h0 0 4), .int (v_h0 0 5)])), (h1, .inl (cI, 400, .inl (v_h0 1)))]) [0, 1] (by decide) rfl
    have r9_0 : (-1 : Int32) = r1 := (Prod.mk.inj (Option.some.inj hf)).1
    have r9_1 : v_h0 = v_h1 := (Prod.mk.inj (Option.some.inj hf)).2
    exact W.iret (v := (-1 : Int32)) hx hb hr (fun t ht hW => ⟨⟨(-1 : Int32), v_h0, rfl, ⟨r9_0, r9_1⟩, by rw [ht]; exact hP9, va_K.moved hW.alike hK, hD9⟩, hS.F ht⟩) hS.2.2 dX3_append_11
def wo_X3_readWordy : List Cond := .code yX3_readWord cX3_readWord 3 none :: (([.fieldLink RX3 46 "SumRewriter$Scanner" "value" "I", .fieldLink RX3 26 "SumRewriter$Scanner" "at" "I", .fieldLink RX3 43 "SumRewriter$Scanner" "sort" "I"] : List Cond) ++ ((wsX30) ++ ((va_wsS RX3 49 yX3_isLetter wo_X3_isLettery) ++ ((wsV RX3 32 RX3 yX3_look wo_X3_looky)))))
set_option maxRecDepth 20000 in
theorem go_wo_X3_readWordy_1 : GoodIn wo_X3_readWordy (va_wsS RX3 49 yX3_isLetter wo_X3_isLettery) := goodIn_sub (fun _ h => (List.mem_cons_of_mem _ (List.mem_append_right _ (List.mem_append_right _ (List.mem_append_left _ h))))) (by decide +kernel)
set_option maxRecDepth 20000 in
theorem go_wo_X3_readWordy_2 : GoodIn wo_X3_readWordy (wsV RX3 32 RX3 yX3_look wo_X3_looky) := goodIn_sub (fun _ h => (List.mem_cons_of_mem _ (List.mem_append_right _ (List.mem_append_right _ (List.mem_append_right _ h))))) (by decide +kernel)
abbrev ww_X3_readWordy (dC : Nat → ClassId) (dI : Nat → Nat → Nat) (cI cJ cB : ClassId) (h h1 : Nat) (sz : Nat) (v_h0 : Nat → Nat → Int32) (n9 : Nat) (v_h1 : Nat → Nat → Int32) : va_W := [(h, .inr (3, [.ref h1, .int (v_h0 0 0), .int (v_h0 0 1), .int (v_h0 0 2), .int (v_h0 0 3), .int (v_h0 0 4), .int (v_h0 0 5)])), (h1, .inl (cI, 400, .inl (v_h0 1)))]
abbrev at_X3_readWordy (dC : Nat → ClassId) (dI : Nat → Nat → Nat) (cI cJ cB : ClassId) (h h1 : Nat) (sz : Nat) (v_h0 : Nat → Nat → Int32) (n9 : Nat) (v_h1 : Nat → Nat → Int32) (u : (Nat → Nat → Int32)) (t : State) : Prop := match u with
  | v_h => va_P (dC, dI) vwCl [(h, .inr (3, [.ref h1, .int (v_h 0 0), .int (v_h 0 1), .int (v_h 0 2), .int (v_h 0 3), .int (v_h 0 4), .int (v_h 0 5)])), (h1, .inl (cI, 400, .inl (v_h 1)))] t.heap ∧ va_K (dC, dI) vwCl (tyL cI cJ cB) t ∧ va_D (va_A (ww_X3_readWordy dC dI cI cJ cB h h1 sz v_h0 n9 v_h1) sz) [(h, .inr (3, [.ref h1, .int (v_h 0 0), .int (v_h 0 1), .int (v_h 0 2), .int (v_h 0 3), .int (v_h 0 4), .int (v_h 0 5)])), (h1, .inl (cI, 400, .inl (v_h 1)))]
abbrev qc_X3_readWordy (dC : Nat → ClassId) (dI : Nat → Nat → Nat) (cI cJ cB : ClassId) (h h1 : Nat) (sz : Nat) (v_h0 : Nat → Nat → Int32) (n9 : Nat) (v_h1 : Nat → Nat → Int32) : Array Value → State → Outcome → State → Prop := va_Qv (fun (u : (Nat → Nat → Int32)) => match u with | v_h => (v_h = v_h1)) (at_X3_readWordy dC dI cI cJ cB h h1 sz v_h0 n9 v_h1) (va_A (ww_X3_readWordy dC dI cI cJ cB h h1 sz v_h0 n9 v_h1) sz)
abbrev pc_X3_readWordy (dC : Nat → ClassId) (dI : Nat → Nat → Nat) (cI cJ cB : ClassId) (h h1 : Nat) (sz : Nat) (v_h0 : Nat → Nat → Int32) (n9 : Nat) (v_h1 : Nat → Nat → Int32) : Array Value → State → Prop := va_Pc [.ref h] (fun U => U.heap.size = sz ∧ NW U ∧ va_P (dC, dI) vwCl (ww_X3_readWordy dC dI cI cJ cB h h1 sz v_h0 n9 v_h1) U.heap ∧ va_K (dC, dI) vwCl (tyL cI cJ cB) U ∧ va_D (fun _ => True) (ww_X3_readWordy dC dI cI cJ cB h h1 sz v_h0 n9 v_h1))
abbrev rm_X3_readWordy : Room := { frames := 1, cells := 0, slots := 0, locals := 20 }
abbrev WW_X3_readWordy (p : Program) (l : Launch) (e : Env) (s : State) (m : MethodId) (below : List Frame) (meth : Method) (c : Code) (dC : Nat → ClassId) (dI : Nat → Nat → Nat) (cI cJ cB : ClassId) (h h1 : Nat) (sz : Nat) (v_h0 : Nat → Nat → Int32) (n9 : Nat) (v_h1 : Nat → Nat → Int32) (H : Heap) (locs : List Loc) (g : JFrame) : Prop := W p l e rm_X3_readWordy s m ([.ref h] : List Value).toArray below meth c H locs 0 0 (MQ below (qc_X3_readWordy dC dI cI cJ cB h h1 sz v_h0 n9 v_h1) ([.ref h] : List Value).toArray s 0 0 (va_A (ww_X3_readWordy dC dI cI cJ cB h h1 sz v_h0 n9 v_h1) sz)) g
set_option maxHeartbeats 4000000 in
set_option maxRecDepth 100000 in
theorem c_X3_readWordy (l : Launch) (dC : Nat → ClassId) (dI : Nat → Nat → Nat) (cI cJ cB : ClassId) (h h1 : Nat) (sz : Nat) (v_h0 : Nat → Nat → Int32) (n9 : Nat) (v_h1 : Nat → Nat → Int32) (hf : fx_X3_readWord n9 v_h0  = some (v_h1)) : Met l yX3_readWord wo_X3_readWordy rm_X3_readWordy (pc_X3_readWordy dC dI cI cJ cB h h1 sz v_h0 n9 v_h1) (qc_X3_readWordy dC dI cI cJ cB h h1 sz v_h0 n9 v_h1) 0 0 (va_A (ww_X3_readWordy dC dI cI cJ cB h h1 sz v_h0 n9 v_h1) sz) := by
  unfold fx_X3_readWord at hf
  refine Met.ofW (cc := cX3_readWord) (maxL := 3) (ret := none) (by decide) rfl ?_
  intro p e s m args below meth c s₁ B hml hv
  obtain ⟨rfl, hsz, hnw, hP, hK, hD0⟩ := hv
  have hx := B.exec
  have hb := B.bytes
  have hr := B.returns
  have hts := atoms_spec (ws := wo_X3_readWordy) B.pre
  have hown : s.vm.findClass RX3 = some m.cls := findClass_of_methodNamed B.named
  have hlocks := B.notSynchronized
  clear B
  subst hsz
  have hD := hD0.self (sz := s.heap.size)
  clear hD0
  have kk0_ := hts (.fieldLink RX3 46 "SumRewriter$Scanner" "value" "I") (by decide +kernel)
  have kk1_ : ∀ w ∈ wsX30, w ∈ wo_X3_readWordy := fun _ h => (List.mem_cons_of_mem _ (List.mem_append_right _ (List.mem_append_left _ h)))
  have kk2_ := hts (.fieldLink RX3 26 "SumRewriter$Scanner" "at" "I") (by decide +kernel)
  have kk3_ := hts (.fieldLink RX3 43 "SumRewriter$Scanner" "sort" "I") (by decide +kernel)
  have hA : ∀ q : Nat, s.heap.size ≤ q → (va_A (ww_X3_readWordy dC dI cI cJ cB h h1 s.heap.size v_h0 n9 v_h1) s.heap.size) q := fun q h => Or.inr h
  have hS : va_S (va_A (ww_X3_readWordy dC dI cI cJ cB h h1 s.heap.size v_h0 n9 v_h1) s.heap.size) s.heap s.heap [] := va_S.rf
  have hl := lv_entry ([.ref h]) (n := 3) (Nat.le_of_ble_eq_true rfl)
  rw [lg_entry_eq]
  generalize (lg_sl ([.ref h]) ++ List.replicate (3 - (lg_sl ([.ref h])).length) Slot.unset).toArray = ls at hl ⊢
  have hl : lv_has ls 3 [(0, .ref h)] := hl
  have hP : va_P (dC, dI) vwCl [(h, .inr (3, [.ref h1, .int (v_h0 0 0), .int (v_h0 0 1), .int (v_h0 0 2), .int (v_h0 0 3), .int (v_h0 0 4), .int (v_h0 0 5)])), (h1, .inl (cI, 400, .inl (v_h0 1)))] s.heap := hP
  have hD : va_D (va_A (ww_X3_readWordy dC dI cI cJ cB h h1 s.heap.size v_h0 n9 v_h1) s.heap.size) [(h, .inr (3, [.ref h1, .int (v_h0 0 0), .int (v_h0 0 1), .int (v_h0 0 2), .int (v_h0 0 3), .int (v_h0 0 4), .int (v_h0 0 5)])), (h1, .inl (cI, 400, .inl (v_h0 1)))] := hD
  obtain ⟨H, hH⟩ : ∃ H, H = s.heap := ⟨_, rfl⟩
  obtain ⟨locs, hlc⟩ : ∃ L : List Loc, L = [] := ⟨_, rfl⟩
  have hS : va_S (va_A (ww_X3_readWordy dC dI cI cJ cB h h1 s.heap.size v_h0 n9 v_h1) s.heap.size) s.heap H locs := by rw [hH, hlc]; exact hS
  have hP : va_P (dC, dI) vwCl [(h, .inr (3, [.ref h1, .int (v_h0 0 0), .int (v_h0 0 1), .int (v_h0 0 2), .int (v_h0 0 3), .int (v_h0 0 4), .int (v_h0 0 5)])), (h1, .inl (cI, 400, .inl (v_h0 1)))] H := by rw [hH]; exact hP
  suffices hgo : WW_X3_readWordy p l e s m below meth c dC dI cI cJ cB h h1 s.heap.size v_h0 n9 v_h1 H locs (F0 m 0 ls []) by rw [hH, hlc] at hgo; exact hgo
  clear hH hlc
  have L_17 : ∀ (N_17 : Nat), ∀ (x1 : Int32) (x2 : Int32) (v_h : Nat → Nat → Int32), lx_X3_readWord_17 n9 N_17 x1 x2 v_h = some (v_h1) → ∀ (H : Heap) (locs : List Loc), va_P (dC, dI) vwCl [(h, .inr (3, [.ref h1, .int (v_h 0 0), .int (v_h 0 1), .int (v_h 0 2), .int (v_h 0 3), .int (v_h 0 4), .int (v_h 0 5)])), (h1, .inl (cI, 400, .inl (v_h 1)))] H → va_D (va_A (ww_X3_readWordy dC dI cI cJ cB h h1 s.heap.size v_h0 n9 v_h1) s.heap.size) [(h, .inr (3, [.ref h1, .int (v_h 0 0), .int (v_h 0 1), .int (v_h 0 2), .int (v_h 0 3), .int (v_h 0 4), .int (v_h 0 5)])), (h1, .inl (cI, 400, .inl (v_h 1)))] → va_S (va_A (ww_X3_readWordy dC dI cI cJ cB h h1 s.heap.size v_h0 n9 v_h1) s.heap.size) s.heap H locs → ∀ ls : Array Slot, lv_has ls 3 [(0, .ref h), (1, .int x1), (2, .int x2)] → WW_X3_readWordy p l e s m below meth c dC dI cI cJ cB h h1 s.heap.size v_h0 n9 v_h1 H locs (F0 m 17 ls []) := by
    intro N_17
    induction N_17 with
    | zero => intro x1 x2 v_h hf; exact xn_to hf
    | succ N_17 ih_17 =>
      intro x1 x2 v_h hf H locs hP hD hS ls hl
      replace hf : bx_X3_readWord_17 n9 (lx_X3_readWord_17 n9 N_17) x1 x2 v_h = some (v_h1) := hf
      generalize lx_X3_readWord_17 n9 N_17 = k_17 at hf ih_17
      unfold bx_X3_readWord_17 at hf
      refine lv_iload_n hx hb dX3_readWord_17 rfl (lv_at hl 1 rfl) ?_
      refine lv_sipush (v := 400) hx hb dX3_readWord_18 (by decide) ?_
      refine lv_icmp_ge (tgt := 80) hx hb dX3_readWord_21 (by decide) (fun c_1 => ?_) (fun c_1 => ?_)
      · replace hf := xi_t c_1 hf
        have hP9 := hP.sub (ws' := [(h, .inr (3, [.ref h1, .int (v_h 0 0), .int (v_h 0 1), .int (v_h 0 2), .int (v_h 0 3), .int (v_h 0 4), .int (v_h 0 5)])), (h1, .inl (cI, 400, .inl (v_h 1)))]) [0, 1] rfl
        have hD9 := hD.sub (ws' := [(h, .inr (3, [.ref h1, .int (v_h 0 0), .int (v_h 0 1), .int (v_h 0 2), .int (v_h 0 3), .int (v_h 0 4), .int (v_h 0 5)])), (h1, .inl (cI, 400, .inl (v_h 1)))]) [0, 1] (by decide) rfl
        have r9_0 : v_h = v_h1 := (Option.some.inj hf)
        exact W.vret hx hb hr (fun t ht hW => ⟨⟨v_h, rfl, r9_0, by rw [ht]; exact hP9, va_K.moved hW.alike hK, hD9⟩, hS.F ht⟩) hS.2.2 dX3_readWord_80
      · replace hf := xi_f c_1 hf
        refine lv_iload_n hx hb dX3_readWord_24 rfl (lv_at hl 2 rfl) ?_
        replace hf := xb1_to hf
        obtain ⟨o_2, g_3, hf⟩ := hf
        have hPc := hP.sub (ws' := []) [] rfl
        have hDc := hD.sub (ws' := []) [] (by decide) rfl
        have hFc := va_free (wc := []) hD hS hA [] rfl
        refine va_calli (va_runS (As := [.int x2]) (rest := []) ⟨hx, hb, hml, hown, hts⟩ (c_X3_isLettery l dC dI cI cJ cB  H.size x2 n9 o_2 g_3) (va_cwS 1 hts go_wo_X3_readWordy_1 rfl rfl rfl (by decide +kernel) ⟨Nat.le_of_ble_eq_true rfl, Nat.le_of_ble_eq_true rfl⟩) ⟨fun a U g mk q => by obtain ⟨q0, q1, qN, qP, qK, qD⟩ := q; exact ⟨q0, q1, NW.calling qN, qP, va_K.moved (u := U) (U := U.calling g mk a) (Vm.Alike.refl U.vm) qK, qD⟩, fun U hU hW => ⟨rfl, by rw [hU], NW.warm hW hnw, by rw [hU]; exact hPc, va_K.moved hW.alike hK, hDc.weaken (fun _ _ _ _ => trivial)⟩⟩ rfl rfl hl.1 rfl (lv_room (Nat.le_of_ble_eq_true rfl)) dX3_readWord_25 ⟨Nat.zero_le _, Nat.zero_le _⟩) hS (fun q _ h => hFc q h) hFc (fun r_4 u t H1 locs ht hvm hw hB hz1 hk1 hS => ?_)
        cases u
        obtain ⟨hP1, hK1, hD1⟩ := hB
        rw [ht] at hP1
        have hw : (r_4 = o_2) := hw
        subst hw
        obtain ⟨hP, hD⟩ := va_join (wr := [(h, .inr (3, [.ref h1, .int (v_h 0 0), .int (v_h 0 1), .int (v_h 0 2), .int (v_h 0 3), .int (v_h 0 4), .int (v_h 0 5)])), (h1, .inl (cI, 400, .inl (v_h 1)))]) (w1 := []) hP hD [] [0, 1] rfl rfl (by decide) (by decide) hk1 hFc hP1 hD1
        generalize H1 = H at hP hS ⊢
        have hP : va_P (dC, dI) vwCl [(h, .inr (3, [.ref h1, .int (v_h 0 0), .int (v_h 0 1), .int (v_h 0 2), .int (v_h 0 3), .int (v_h 0 4), .int (v_h 0 5)])), (h1, .inl (cI, 400, .inl (v_h 1)))] H := hP
        have hD : va_D (va_A (ww_X3_readWordy dC dI cI cJ cB h h1 s.heap.size v_h0 n9 v_h1) s.heap.size) [(h, .inr (3, [.ref h1, .int (v_h 0 0), .int (v_h 0 1), .int (v_h 0 2), .int (v_h 0 3), .int (v_h 0 4), .int (v_h 0 5)])), (h1, .inl (cI, 400, .inl (v_h 1)))] := hD
        clear hPc hDc hFc hP1 hK1 hD1 hk1 hz1 ht hvm g_3
        refine lv_if_eq (tgt := 80) hx hb dX3_readWord_28 (by decide) (fun c_6 => ?_) (fun c_6 => ?_)
        · replace hf := xi_t c_6 hf
          have hP9 := hP.sub (ws' := [(h, .inr (3, [.ref h1, .int (v_h 0 0), .int (v_h 0 1), .int (v_h 0 2), .int (v_h 0 3), .int (v_h 0 4), .int (v_h 0 5)])), (h1, .inl (cI, 400, .inl (v_h 1)))]) [0, 1] rfl
          have hD9 := hD.sub (ws' := [(h, .inr (3, [.ref h1, .int (v_h 0 0), .int (v_h 0 1), .int (v_h 0 2), .int (v_h 0 3), .int (v_h 0 4), .int (v_h 0 5)])), (h1, .inl (cI, 400, .inl (v_h 1)))]) [0, 1] (by decide) rfl
          have r9_0 : v_h = v_h1 := (Option.some.inj hf)
          exact W.vret hx hb hr (fun t ht hW => ⟨⟨v_h, rfl, r9_0, by rw [ht]; exact hP9, va_K.moved hW.alike hK, hD9⟩, hS.F ht⟩) hS.2.2 dX3_readWord_80
        · replace hf := xi_f c_6 hf
          refine lv_aload_n hx hb dX3_readWord_31 rfl (lv_at hl 0 rfl) ?_
          refine lv_iload_n hx hb dX3_readWord_32 rfl (lv_at hl 1 rfl) ?_
          refine lv_bipush (v := 6) hx hb dX3_readWord_33 (by decide) ?_
          refine lv_icmp_ge (tgt := 55) hx hb dX3_readWord_35 (by decide) (fun c_7 => ?_) (fun c_7 => ?_)
          · replace hf := xi_t c_7 hf
            refine lv_iconst (v := 0) hx hb dX3_readWord_55 (by decide) ?_
            refine va_put (D := (dC, dI)) (ci := 3) (v := .int ((0 : Int32))) (ty := .int) (C := RX3) (T := TX3) (N := 7) hx hb hts kk1_ tyX3 tyX3_ok nmX3 hown hK hP hD hS 0 rfl rfl 6 (by decide) kk0_ (fun _ h9 => h9) rfl (by decide +kernel) rfl rfl (Nat.le_of_ble_eq_true rfl) dX3_readWord_56 (fun H locs hP hD hS => ?_)
            obtain ⟨v_h_8, ev_h_8⟩ : ∃ z, z = mu v_h 0 5 ((0 : Int32)) := ⟨_, rfl⟩
            have hP : va_P (dC, dI) vwCl [(h, .inr (3, [.ref h1, .int (v_h_8 0 0), .int (v_h_8 0 1), .int (v_h_8 0 2), .int (v_h_8 0 3), .int (v_h_8 0 4), .int (v_h_8 0 5)])), (h1, .inl (cI, 400, .inl (v_h_8 1)))] H := by rw [ev_h_8]; exact hP
            have hD : va_D (va_A (ww_X3_readWordy dC dI cI cJ cB h h1 s.heap.size v_h0 n9 v_h1) s.heap.size) [(h, .inr (3, [.ref h1, .int (v_h_8 0 0), .int (v_h_8 0 1), .int (v_h_8 0 2), .int (v_h_8 0 3), .int (v_h_8 0 4), .int (v_h_8 0 5)])), (h1, .inl (cI, 400, .inl (v_h_8 1)))] := by rw [ev_h_8]; exact hD
            replace hf := xl_to ev_h_8 hf
            obtain ⟨x1_9, ex1_9⟩ : ∃ y : Int32, y = x1 + (1) := ⟨_, rfl⟩
            refine lv_iinc (v := x1_9) (lv' := [(1, .int x1_9), (0, .ref h), (2, .int x2)]) hx hb dX3_readWord_59 hl (k := 1) rfl (by rw [ex1_9]; rfl) (by decide) rfl (fun ls hl => ?_)
            replace hf := xl_to ex1_9 hf
            refine lv_aload_n hx hb dX3_readWord_62 rfl (lv_at hl 1 rfl) ?_
            refine lv_dup hx hb dX3_readWord_63 rfl ?_
            refine va_get (D := (dC, dI)) (ci := 3) (v := .int (v_h_8 0 2)) (C := RX3) (T := TX3) (N := 7) hx hb hts kk1_ hown hK hP 0 rfl rfl 3 (by decide) kk2_ (fun _ h9 => h9) rfl dX3_readWord_64 ?_
            refine lv_iconst (v := 1) hx hb dX3_readWord_67 (by decide) ?_
            refine lv_iadd hx hb dX3_readWord_68 ?_
            refine lv_topi (fun y_10 ey_10 => ?_)
            replace hf := xl_to (v := (v_h_8 0 2) + ((1 : Int32))) ey_10 hf
            refine va_put (D := (dC, dI)) (ci := 3) (v := .int y_10) (ty := .int) (C := RX3) (T := TX3) (N := 7) hx hb hts kk1_ tyX3 tyX3_ok nmX3 hown hK hP hD hS 0 rfl rfl 3 (by decide) kk2_ (fun _ h9 => h9) rfl (by decide +kernel) rfl rfl (Nat.le_of_ble_eq_true rfl) dX3_readWord_69 (fun H locs hP hD hS => ?_)
            obtain ⟨v_h_11, ev_h_11⟩ : ∃ z, z = mu v_h_8 0 2 y_10 := ⟨_, rfl⟩
            have hP : va_P (dC, dI) vwCl [(h, .inr (3, [.ref h1, .int (v_h_11 0 0), .int (v_h_11 0 1), .int (v_h_11 0 2), .int (v_h_11 0 3), .int (v_h_11 0 4), .int (v_h_11 0 5)])), (h1, .inl (cI, 400, .inl (v_h_11 1)))] H := by rw [ev_h_11]; exact hP
            have hD : va_D (va_A (ww_X3_readWordy dC dI cI cJ cB h h1 s.heap.size v_h0 n9 v_h1) s.heap.size) [(h, .inr (3, [.ref h1, .int (v_h_11 0 0), .int (v_h_11 0 1), .int (v_h_11 0 2), .int (v_h_11 0 3), .int (v_h_11 0 4), .int (v_h_11 0 5)])), (h1, .inl (cI, 400, .inl (v_h_11 1)))] := by rw [ev_h_11]; exact hD
            replace hf := xl_to ev_h_11 hf
            refine lv_aload_n hx hb dX3_readWord_72 rfl (lv_at hl 1 rfl) ?_
            replace hf := xb1_to hf
            obtain ⟨o_12, g_13, hf⟩ := hf
            have hPc := hP.sub (ws' := [(h, .inr (3, [.ref h1, .int (v_h_11 0 0), .int (v_h_11 0 1), .int (v_h_11 0 2), .int (v_h_11 0 3), .int (v_h_11 0 4), .int (v_h_11 0 5)])), (h1, .inl (cI, 400, .inl (v_h_11 1)))]) [0, 1] rfl
            have hDc := hD.sub (ws' := [(h, .inr (3, [.ref h1, .int (v_h_11 0 0), .int (v_h_11 0 1), .int (v_h_11 0 2), .int (v_h_11 0 3), .int (v_h_11 0 4), .int (v_h_11 0 5)])), (h1, .inl (cI, 400, .inl (v_h_11 1)))]) [0, 1] (by decide) rfl
            have hFc := va_free (wc := [(h, .inr (3, [.ref h1, .int (v_h_11 0 0), .int (v_h_11 0 1), .int (v_h_11 0 2), .int (v_h_11 0 3), .int (v_h_11 0 4), .int (v_h_11 0 5)])), (h1, .inl (cI, 400, .inl (v_h_11 1)))]) hD hS hA [0, 1] rfl
            refine va_calli (va_runV (As := []) (rest := []) ⟨hx, hb, hml, hown, hts⟩ (c_X3_looky l dC dI cI cJ cB h h1 H.size v_h_11 n9 o_12 g_13) (cwV 0 hts go_wo_X3_readWordy_2 rfl rfl rfl (by decide +kernel) ⟨Nat.le_of_ble_eq_true rfl, Nat.le_of_ble_eq_true rfl⟩) ⟨fun a U g mk q => by obtain ⟨q0, q1, qN, qP, qK, qD⟩ := q; exact ⟨q0, q1, NW.calling qN, qP, va_K.moved (u := U) (U := U.calling g mk a) (Vm.Alike.refl U.vm) qK, qD⟩, va_recv hK hPc (ci := 3) (q0 := 0) rfl rfl, fun U hU hW => ⟨rfl, by rw [hU], NW.warm hW hnw, by rw [hU]; exact hPc, va_K.moved hW.alike hK, hDc.weaken (fun _ _ _ _ => trivial)⟩⟩ rfl rfl hl.1 rfl (lv_room (Nat.le_of_ble_eq_true rfl)) dX3_readWord_73 ⟨Nat.zero_le _, Nat.zero_le _⟩) hS (fun q _ h => hFc q h) hFc (fun r_14 u t H1 locs ht hvm hw hB hz1 hk1 hS => ?_)
            cases u
            obtain ⟨hP1, hK1, hD1⟩ := hB
            rw [ht] at hP1
            have hw : (r_14 = o_12) := hw
            subst hw
            obtain ⟨hP, hD⟩ := va_join (wr := []) (w1 := [(h, .inr (3, [.ref h1, .int (v_h_11 0 0), .int (v_h_11 0 1), .int (v_h_11 0 2), .int (v_h_11 0 3), .int (v_h_11 0 4), .int (v_h_11 0 5)])), (h1, .inl (cI, 400, .inl (v_h_11 1)))]) hP hD [0, 1] [] rfl rfl (by decide) (by decide) hk1 hFc hP1 hD1
            generalize H1 = H at hP hS ⊢
            have hP : va_P (dC, dI) vwCl [(h, .inr (3, [.ref h1, .int (v_h_11 0 0), .int (v_h_11 0 1), .int (v_h_11 0 2), .int (v_h_11 0 3), .int (v_h_11 0 4), .int (v_h_11 0 5)])), (h1, .inl (cI, 400, .inl (v_h_11 1)))] H := hP
            have hD : va_D (va_A (ww_X3_readWordy dC dI cI cJ cB h h1 s.heap.size v_h0 n9 v_h1) s.heap.size) [(h, .inr (3, [.ref h1, .int (v_h_11 0 0), .int (v_h_11 0 1), .int (v_h_11 0 2), .int (v_h_11 0 3), .int (v_h_11 0 4), .int (v_h_11 0 5)])), (h1, .inl (cI, 400, .inl (v_h_11 1)))] := hD
            clear hPc hDc hFc hP1 hK1 hD1 hk1 hz1 ht hvm g_13
            refine lv_istore_n (lv' := [(2, .int r_14), (1, .int x1_9), (0, .ref h)]) hx hb dX3_readWord_76 rfl hl (by decide) rfl (fun ls hl => ?_)
            refine lv_goto (tgt := 17) hx hb dX3_readWord_77 (by decide) ?_
            exact ih_17 x1_9 r_14 v_h_11 hf _ _ (hP.sub [0, 1] rfl) (hD.sub [0, 1] (by decide) rfl) hS ls (lv_sub hl [2, 1, 0] rfl)
          · replace hf := xi_f c_7 hf
            refine lv_aload_n hx hb dX3_readWord_38 rfl (lv_at hl 0 rfl) ?_
            refine va_get (D := (dC, dI)) (ci := 3) (v := .int (v_h 0 5)) (C := RX3) (T := TX3) (N := 7) hx hb hts kk1_ hown hK hP 0 rfl rfl 6 (by decide) kk0_ (fun _ h9 => h9) rfl dX3_readWord_39 ?_
            refine lv_bipush (v := 32) hx hb dX3_readWord_42 (by decide) ?_
            refine lv_imul hx hb dX3_readWord_44 ?_
            refine lv_topi (fun y_16 ey_16 => ?_)
            replace hf := xl_to (v := (v_h 0 5) * ((32 : Int32))) ey_16 hf
            refine lv_iload_n hx hb dX3_readWord_45 rfl (lv_at hl 2 rfl) ?_
            refine lv_bipush (v := 97) hx hb dX3_readWord_46 (by decide) ?_
            refine lv_isub hx hb dX3_readWord_48 ?_
            refine lv_topi (fun y_17 ey_17 => ?_)
            replace hf := xl_to (v := x2 - ((97 : Int32))) ey_17 hf
            refine lv_iconst (v := 1) hx hb dX3_readWord_49 (by decide) ?_
            refine lv_iadd hx hb dX3_readWord_50 ?_
            refine lv_topi (fun y_18 ey_18 => ?_)
            replace hf := xl_to (v := y_17 + ((1 : Int32))) ey_18 hf
            refine lv_iadd hx hb dX3_readWord_51 ?_
            refine lv_topi (fun y_19 ey_19 => ?_)
            replace hf := xl_to (v := y_16 + y_18) ey_19 hf
            refine lv_goto (tgt := 56) hx hb dX3_readWord_52 (by decide) ?_
            refine va_put (D := (dC, dI)) (ci := 3) (v := .int y_19) (ty := .int) (C := RX3) (T := TX3) (N := 7) hx hb hts kk1_ tyX3 tyX3_ok nmX3 hown hK hP hD hS 0 rfl rfl 6 (by decide) kk0_ (fun _ h9 => h9) rfl (by decide +kernel) rfl rfl (Nat.le_of_ble_eq_true rfl) dX3_readWord_56 (fun H locs hP hD hS => ?_)
            obtain ⟨v_h_20, ev_h_20⟩ : ∃ z, z = mu v_h 0 5 y_19 := ⟨_, rfl⟩
            have hP : va_P (dC, dI) vwCl [(h, .inr (3, [.ref h1, .int (v_h_20 0 0), .int (v_h_20 0 1), .int (v_h_20 0 2), .int (v_h_20 0 3), .int (v_h_20 0 4), .int (v_h_20 0 5)])), (h1, .inl (cI, 400, .inl (v_h_20 1)))] H := by rw [ev_h_20]; exact hP
            have hD : va_D (va_A (ww_X3_readWordy dC dI cI cJ cB h h1 s.heap.size v_h0 n9 v_h1) s.heap.size) [(h, .inr (3, [.ref h1, .int (v_h_20 0 0), .int (v_h_20 0 1), .int (v_h_20 0 2), .int (v_h_20 0 3), .int (v_h_20 0 4), .int (v_h_20 0 5)])), (h1, .inl (cI, 400, .inl (v_h_20 1)))] := by rw [ev_h_20]; exact hD
            replace hf := xl_to ev_h_20 hf
            obtain ⟨x1_21, ex1_21⟩ : ∃ y : Int32, y = x1 + (1) := ⟨_, rfl⟩
            refine lv_iinc (v := x1_21) (lv' := [(1, .int x1_21), (0, .ref h), (2, .int x2)]) hx hb dX3_readWord_59 hl (k := 1) rfl (by rw [ex1_21]; rfl) (by decide) rfl (fun ls hl => ?_)
            replace hf := xl_to ex1_21 hf
            refine lv_aload_n hx hb dX3_readWord_62 rfl (lv_at hl 1 rfl) ?_
            refine lv_dup hx hb dX3_readWord_63 rfl ?_
            refine va_get (D := (dC, dI)) (ci := 3) (v := .int (v_h_20 0 2)) (C := RX3) (T := TX3) (N := 7) hx hb hts kk1_ hown hK hP 0 rfl rfl 3 (by decide) kk2_ (fun _ h9 => h9) rfl dX3_readWord_64 ?_
            refine lv_iconst (v := 1) hx hb dX3_readWord_67 (by decide) ?_
            refine lv_iadd hx hb dX3_readWord_68 ?_
            refine lv_topi (fun y_22 ey_22 => ?_)
            replace hf := xl_to (v := (v_h_20 0 2) + ((1 : Int32))) ey_22 hf
            refine va_put (D := (dC, dI)) (ci := 3) (v := .int y_22) (ty := .int) (C := RX3) (T := TX3) (N := 7) hx hb hts kk1_ tyX3 tyX3_ok nmX3 hown hK hP hD hS 0 rfl rfl 3 (by decide) kk2_ (fun _ h9 => h9) rfl (by decide +kernel) rfl rfl (Nat.le_of_ble_eq_true rfl) dX3_readWord_69 (fun H locs hP hD hS => ?_)
            obtain ⟨v_h_23, ev_h_23⟩ : ∃ z, z = mu v_h_20 0 2 y_22 := ⟨_, rfl⟩
            have hP : va_P (dC, dI) vwCl [(h, .inr (3, [.ref h1, .int (v_h_23 0 0), .int (v_h_23 0 1), .int (v_h_23 0 2), .int (v_h_23 0 3), .int (v_h_23 0 4), .int (v_h_23 0 5)])), (h1, .inl (cI, 400, .inl (v_h_23 1)))] H := by rw [ev_h_23]; exact hP
            have hD : va_D (va_A (ww_X3_readWordy dC dI cI cJ cB h h1 s.heap.size v_h0 n9 v_h1) s.heap.size) [(h, .inr (3, [.ref h1, .int (v_h_23 0 0), .int (v_h_23 0 1), .int (v_h_23 0 2), .int (v_h_23 0 3), .int (v_h_23 0 4), .int (v_h_23 0 5)])), (h1, .inl (cI, 400, .inl (v_h_23 1)))] := by rw [ev_h_23]; exact hD
            replace hf := xl_to ev_h_23 hf
            refine lv_aload_n hx hb dX3_readWord_72 rfl (lv_at hl 1 rfl) ?_
            replace hf := xb1_to hf
            obtain ⟨o_24, g_25, hf⟩ := hf
            have hPc := hP.sub (ws' := [(h, .inr (3, [.ref h1, .int (v_h_23 0 0), .int (v_h_23 0 1), .int (v_h_23 0 2), .int (v_h_23 0 3), .int (v_h_23 0 4), .int (v_h_23 0 5)])), (h1, .inl (cI, 400, .inl (v_h_23 1)))]) [0, 1] rfl
            have hDc := hD.sub (ws' := [(h, .inr (3, [.ref h1, .int (v_h_23 0 0), .int (v_h_23 0 1), .int (v_h_23 0 2), .int (v_h_23 0 3), .int (v_h_23 0 4), .int (v_h_23 0 5)])), (h1, .inl (cI, 400, .inl (v_h_23 1)))]) [0, 1] (by decide) rfl
            have hFc := va_free (wc := [(h, .inr (3, [.ref h1, .int (v_h_23 0 0), .int (v_h_23 0 1), .int (v_h_23 0 2), .int (v_h_23 0 3), .int (v_h_23 0 4), .int (v_h_23 0 5)])), (h1, .inl (cI, 400, .inl (v_h_23 1)))]) hD hS hA [0, 1] rfl
            refine va_calli (va_runV (As := []) (rest := []) ⟨hx, hb, hml, hown, hts⟩ (c_X3_looky l dC dI cI cJ cB h h1 H.size v_h_23 n9 o_24 g_25) (cwV 0 hts go_wo_X3_readWordy_2 rfl rfl rfl (by decide +kernel) ⟨Nat.le_of_ble_eq_true rfl, Nat.le_of_ble_eq_true rfl⟩) ⟨fun a U g mk q => by obtain ⟨q0, q1, qN, qP, qK, qD⟩ := q; exact ⟨q0, q1, NW.calling qN, qP, va_K.moved (u := U) (U := U.calling g mk a) (Vm.Alike.refl U.vm) qK, qD⟩, va_recv hK hPc (ci := 3) (q0 := 0) rfl rfl, fun U hU hW => ⟨rfl, by rw [hU], NW.warm hW hnw, by rw [hU]; exact hPc, va_K.moved hW.alike hK, hDc.weaken (fun _ _ _ _ => trivial)⟩⟩ rfl rfl hl.1 rfl (lv_room (Nat.le_of_ble_eq_true rfl)) dX3_readWord_73 ⟨Nat.zero_le _, Nat.zero_le _⟩) hS (fun q _ h => hFc q h) hFc (fun r_26 u t H1 locs ht hvm hw hB hz1 hk1 hS => ?_)
            cases u
            obtain ⟨hP1, hK1, hD1⟩ := hB
            rw [ht] at hP1
            have hw : (r_26 = o_24) := hw
            subst hw
            obtain ⟨hP, hD⟩ := va_join (wr := []) (w1 := [(h, .inr (3, [.ref h1, .int (v_h_23 0 0), .int (v_h_23 0 1), .int (v_h_23 0 2), .int (v_h_23 0 3), .int (v_h_23 0 4), .int (v_h_23 0 5)])), (h1, .inl (cI, 400, .inl (v_h_23 1)))]) hP hD [0, 1] [] rfl rfl (by decide) (by decide) hk1 hFc hP1 hD1
            generalize H1 = H at hP hS ⊢
            have hP : va_P (dC, dI) vwCl [(h, .inr (3, [.ref h1, .int (v_h_23 0 0), .int (v_h_23 0 1), .int (v_h_23 0 2), .int (v_h_23 0 3), .int (v_h_23 0 4), .int (v_h_23 0 5)])), (h1, .inl (cI, 400, .inl (v_h_23 1)))] H := hP
            have hD : va_D (va_A (ww_X3_readWordy dC dI cI cJ cB h h1 s.heap.size v_h0 n9 v_h1) s.heap.size) [(h, .inr (3, [.ref h1, .int (v_h_23 0 0), .int (v_h_23 0 1), .int (v_h_23 0 2), .int (v_h_23 0 3), .int (v_h_23 0 4), .int (v_h_23 0 5)])), (h1, .inl (cI, 400, .inl (v_h_23 1)))] := hD
            clear hPc hDc hFc hP1 hK1 hD1 hk1 hz1 ht hvm g_25
            refine lv_istore_n (lv' := [(2, .int r_26), (1, .int x1_21), (0, .ref h)]) hx hb dX3_readWord_76 rfl hl (by decide) rfl (fun ls hl => ?_)
            refine lv_goto (tgt := 17) hx hb dX3_readWord_77 (by decide) ?_
            exact ih_17 x1_21 r_26 v_h_23 hf _ _ (hP.sub [0, 1] rfl) (hD.sub [0, 1] (by decide) rfl) hS ls (lv_sub hl [2, 1, 0] rfl)
  refine lv_aload_n hx hb dX3_readWord_0 rfl (lv_at hl 0 rfl) ?_
  refine lv_iconst (v := 1) hx hb dX3_readWord_1 (by decide) ?_
  refine va_put (D := (dC, dI)) (ci := 3) (v := .int ((1 : Int32))) (ty := .int) (C := RX3) (T := TX3) (N := 7) hx hb hts kk1_ tyX3 tyX3_ok nmX3 hown hK hP hD hS 0 rfl rfl 4 (by decide) kk3_ (fun _ h9 => h9) rfl (by decide +kernel) rfl rfl (Nat.le_of_ble_eq_true rfl) dX3_readWord_2 (fun H locs hP hD hS => ?_)
  obtain ⟨v_h_28, ev_h_28⟩ : ∃ z, z = mu v_h0 0 3 ((1 : Int32)) := ⟨_, rfl⟩
  have hP : va_P (dC, dI) vwCl [(h, .inr (3, [.ref h1, .int (v_h_28 0 0), .int (v_h_28 0 1), .int (v_h_28 0 2), .int (v_h_28 0 3), .int (v_h_28 0 4), .int (v_h_28 0 5)])), (h1, .inl (cI, 400, .inl (v_h_28 1)))] H := by rw [ev_h_28]; exact hP
  have hD : va_D (va_A (ww_X3_readWordy dC dI cI cJ cB h h1 s.heap.size v_h0 n9 v_h1) s.heap.size) [(h, .inr (3, [.ref h1, .int (v_h_28 0 0), .int (v_h_28 0 1), .int (v_h_28 0 2), .int (v_h_28 0 3), .int (v_h_28 0 4), .int (v_h_28 0 5)])), (h1, .inl (cI, 400, .inl (v_h_28 1)))] := by rw [ev_h_28]; exact hD
  replace hf := xl_to ev_h_28 hf
  refine lv_aload_n hx hb dX3_readWord_5 rfl (lv_at hl 0 rfl) ?_
  refine lv_iconst (v := 0) hx hb dX3_readWord_6 (by decide) ?_
  refine va_put (D := (dC, dI)) (ci := 3) (v := .int ((0 : Int32))) (ty := .int) (C := RX3) (T := TX3) (N := 7) hx hb hts kk1_ tyX3 tyX3_ok nmX3 hown hK hP hD hS 0 rfl rfl 6 (by decide) kk0_ (fun _ h9 => h9) rfl (by decide +kernel) rfl rfl (Nat.le_of_ble_eq_true rfl) dX3_readWord_7 (fun H locs hP hD hS => ?_)
  obtain ⟨v_h_29, ev_h_29⟩ : ∃ z, z = mu v_h_28 0 5 ((0 : Int32)) := ⟨_, rfl⟩
  have hP : va_P (dC, dI) vwCl [(h, .inr (3, [.ref h1, .int (v_h_29 0 0), .int (v_h_29 0 1), .int (v_h_29 0 2), .int (v_h_29 0 3), .int (v_h_29 0 4), .int (v_h_29 0 5)])), (h1, .inl (cI, 400, .inl (v_h_29 1)))] H := by rw [ev_h_29]; exact hP
  have hD : va_D (va_A (ww_X3_readWordy dC dI cI cJ cB h h1 s.heap.size v_h0 n9 v_h1) s.heap.size) [(h, .inr (3, [.ref h1, .int (v_h_29 0 0), .int (v_h_29 0 1), .int (v_h_29 0 2), .int (v_h_29 0 3), .int (v_h_29 0 4), .int (v_h_29 0 5)])), (h1, .inl (cI, 400, .inl (v_h_29 1)))] := by rw [ev_h_29]; exact hD
  replace hf := xl_to ev_h_29 hf
  refine lv_iconst (v := 0) hx hb dX3_readWord_10 (by decide) ?_
  refine lv_istore_n (lv' := [(1, .int ((0 : Int32))), (0, .ref h)]) hx hb dX3_readWord_11 rfl hl (by decide) rfl (fun ls hl => ?_)
  refine lv_aload_n hx hb dX3_readWord_12 rfl (lv_at hl 1 rfl) ?_
  replace hf := xb1_to hf
  obtain ⟨o_30, g_31, hf⟩ := hf
  have hPc := hP.sub (ws' := [(h, .inr (3, [.ref h1, .int (v_h_29 0 0), .int (v_h_29 0 1), .int (v_h_29 0 2), .int (v_h_29 0 3), .int (v_h_29 0 4), .int (v_h_29 0 5)])), (h1, .inl (cI, 400, .inl (v_h_29 1)))]) [0, 1] rfl
  have hDc := hD.sub (ws' := [(h, .inr (3, [.ref h1, .int (v_h_29 0 0), .int (v_h_29 0 1), .int (v_h_29 0 2), .int (v_h_29 0 3), .int (v_h_29 0 4), .int (v_h_29 0 5)])), (h1, .inl (cI, 400, .inl (v_h_29 1)))]) [0, 1] (by decide) rfl
  have hFc := va_free (wc := [(h, .inr (3, [.ref h1, .int (v_h_29 0 0), .int (v_h_29 0 1), .int (v_h_29 0 2), .int (v_h_29 0 3), .int (v_h_29 0 4), .int (v_h_29 0 5)])), (h1, .inl (cI, 400, .inl (v_h_29 1)))]) hD hS hA [0, 1] rfl
  refine va_calli (va_runV (As := []) (rest := []) ⟨hx, hb, hml, hown, hts⟩ (c_X3_looky l dC dI cI cJ cB h h1 H.size v_h_29 n9 o_30 g_31) (cwV 0 hts go_wo_X3_readWordy_2 rfl rfl rfl (by decide +kernel) ⟨Nat.le_of_ble_eq_true rfl, Nat.le_of_ble_eq_true rfl⟩) ⟨fun a U g mk q => by obtain ⟨q0, q1, qN, qP, qK, qD⟩ := q; exact ⟨q0, q1, NW.calling qN, qP, va_K.moved (u := U) (U := U.calling g mk a) (Vm.Alike.refl U.vm) qK, qD⟩, va_recv hK hPc (ci := 3) (q0 := 0) rfl rfl, fun U hU hW => ⟨rfl, by rw [hU], NW.warm hW hnw, by rw [hU]; exact hPc, va_K.moved hW.alike hK, hDc.weaken (fun _ _ _ _ => trivial)⟩⟩ rfl rfl hl.1 rfl (lv_room (Nat.le_of_ble_eq_true rfl)) dX3_readWord_13 ⟨Nat.zero_le _, Nat.zero_le _⟩) hS (fun q _ h => hFc q h) hFc (fun r_32 u t H1 locs ht hvm hw hB hz1 hk1 hS => ?_)
  cases u
  obtain ⟨hP1, hK1, hD1⟩ := hB
  rw [ht] at hP1
  have hw : (r_32 = o_30) := hw
  subst hw
  obtain ⟨hP, hD⟩ := va_join (wr := []) (w1 := [(h, .inr (3, [.ref h1, .int (v_h_29 0 0), .int (v_h_29 0 1), .int (v_h_29 0 2), .int (v_h_29 0 3), .int (v_h_29 0 4), .int (v_h_29 0 5)])), (h1, .inl (cI, 400, .inl (v_h_29 1)))]) hP hD [0, 1] [] rfl rfl (by decide) (by decide) hk1 hFc hP1 hD1
  generalize H1 = H at hP hS ⊢
  have hP : va_P (dC, dI) vwCl [(h, .inr (3, [.ref h1, .int (v_h_29 0 0), .int (v_h_29 0 1), .int (v_h_29 0 2), .int (v_h_29 0 3), .int (v_h_29 0 4), .int (v_h_29 0 5)])), (h1, .inl (cI, 400, .inl (v_h_29 1)))] H := hP
  have hD : va_D (va_A (ww_X3_readWordy dC dI cI cJ cB h h1 s.heap.size v_h0 n9 v_h1) s.heap.size) [(h, .inr (3, [.ref h1, .int (v_h_29 0 0), .int (v_h_29 0 1), .int (v_h_29 0 2), .int (v_h_29 0 3), .int (v_h_29 0 4), .int (v_h_29 0 5)])), (h1, .inl (cI, 400, .inl (v_h_29 1)))] := hD
  clear hPc hDc hFc hP1 hK1 hD1 hk1 hz1 ht hvm g_31
  refine lv_istore_n (lv' := [(2, .int r_32), (1, .int ((0 : Int32))), (0, .ref h)]) hx hb dX3_readWord_16 rfl hl (by decide) rfl (fun ls hl => ?_)
  exact L_17 n9 ((0 : Int32)) r_32 v_h_29 hf _ _ (hP.sub [0, 1] rfl) (hD.sub [0, 1] (by decide) rfl) hS ls (lv_sub hl [2, 1, 0] rfl)
def wo_X3_readNumbery : List Cond := .code yX3_readNumber cX3_readNumber 3 none :: (([.fieldLink RX3 46 "SumRewriter$Scanner" "value" "I", .fieldLink RX3 26 "SumRewriter$Scanner" "at" "I", .fieldLink RX3 43 "SumRewriter$Scanner" "sort" "I"] : List Cond) ++ ((wsX30) ++ ((va_wsS RX3 55 yX3_isDigit wo_X3_isDigity) ++ ((wsV RX3 32 RX3 yX3_look wo_X3_looky)))))
set_option maxRecDepth 20000 in
theorem go_wo_X3_readNumbery_1 : GoodIn wo_X3_readNumbery (va_wsS RX3 55 yX3_isDigit wo_X3_isDigity) := goodIn_sub (fun _ h => (List.mem_cons_of_mem _ (List.mem_append_right _ (List.mem_append_right _ (List.mem_append_left _ h))))) (by decide +kernel)
set_option maxRecDepth 20000 in
theorem go_wo_X3_readNumbery_2 : GoodIn wo_X3_readNumbery (wsV RX3 32 RX3 yX3_look wo_X3_looky) := goodIn_sub (fun _ h => (List.mem_cons_of_mem _ (List.mem_append_right _ (List.mem_append_right _ (List.mem_append_right _ h))))) (by decide +kernel)
abbrev ww_X3_readNumbery (dC : Nat → ClassId) (dI : Nat → Nat → Nat) (cI cJ cB : ClassId) (h h1 : Nat) (sz : Nat) (v_h0 : Nat → Nat → Int32) (n9 : Nat) (v_h1 : Nat → Nat → Int32) : va_W := [(h, .inr (3, [.ref h1, .int (v_h0 0 0), .int (v_h0 0 1), .int (v_h0 0 2), .int (v_h0 0 3), .int (v_h0 0 4), .int (v_h0 0 5)])), (h1, .inl (cI, 400, .inl (v_h0 1)))]
abbrev at_X3_readNumbery (dC : Nat → ClassId) (dI : Nat → Nat → Nat) (cI cJ cB : ClassId) (h h1 : Nat) (sz : Nat) (v_h0 : Nat → Nat → Int32) (n9 : Nat) (v_h1 : Nat → Nat → Int32) (u : (Nat → Nat → Int32)) (t : State) : Prop := match u with
  | v_h => va_P (dC, dI) vwCl [(h, .inr (3, [.ref h1, .int (v_h 0 0), .int (v_h 0 1), .int (v_h 0 2), .int (v_h 0 3), .int (v_h 0 4), .int (v_h 0 5)])), (h1, .inl (cI, 400, .inl (v_h 1)))] t.heap ∧ va_K (dC, dI) vwCl (tyL cI cJ cB) t ∧ va_D (va_A (ww_X3_readNumbery dC dI cI cJ cB h h1 sz v_h0 n9 v_h1) sz) [(h, .inr (3, [.ref h1, .int (v_h 0 0), .int (v_h 0 1), .int (v_h 0 2), .int (v_h 0 3), .int (v_h 0 4), .int (v_h 0 5)])), (h1, .inl (cI, 400, .inl (v_h 1)))]
abbrev qc_X3_readNumbery (dC : Nat → ClassId) (dI : Nat → Nat → Nat) (cI cJ cB : ClassId) (h h1 : Nat) (sz : Nat) (v_h0 : Nat → Nat → Int32) (n9 : Nat) (v_h1 : Nat → Nat → Int32) : Array Value → State → Outcome → State → Prop := va_Qv (fun (u : (Nat → Nat → Int32)) => match u with | v_h => (v_h = v_h1)) (at_X3_readNumbery dC dI cI cJ cB h h1 sz v_h0 n9 v_h1) (va_A (ww_X3_readNumbery dC dI cI cJ cB h h1 sz v_h0 n9 v_h1) sz)
abbrev pc_X3_readNumbery (dC : Nat → ClassId) (dI : Nat → Nat → Nat) (cI cJ cB : ClassId) (h h1 : Nat) (sz : Nat) (v_h0 : Nat → Nat → Int32) (n9 : Nat) (v_h1 : Nat → Nat → Int32) : Array Value → State → Prop := va_Pc [.ref h] (fun U => U.heap.size = sz ∧ NW U ∧ va_P (dC, dI) vwCl (ww_X3_readNumbery dC dI cI cJ cB h h1 sz v_h0 n9 v_h1) U.heap ∧ va_K (dC, dI) vwCl (tyL cI cJ cB) U ∧ va_D (fun _ => True) (ww_X3_readNumbery dC dI cI cJ cB h h1 sz v_h0 n9 v_h1))
abbrev rm_X3_readNumbery : Room := { frames := 1, cells := 0, slots := 0, locals := 20 }
abbrev WW_X3_readNumbery (p : Program) (l : Launch) (e : Env) (s : State) (m : MethodId) (below : List Frame) (meth : Method) (c : Code) (dC : Nat → ClassId) (dI : Nat → Nat → Nat) (cI cJ cB : ClassId) (h h1 : Nat) (sz : Nat) (v_h0 : Nat → Nat → Int32) (n9 : Nat) (v_h1 : Nat → Nat → Int32) (H : Heap) (locs : List Loc) (g : JFrame) : Prop := W p l e rm_X3_readNumbery s m ([.ref h] : List Value).toArray below meth c H locs 0 0 (MQ below (qc_X3_readNumbery dC dI cI cJ cB h h1 sz v_h0 n9 v_h1) ([.ref h] : List Value).toArray s 0 0 (va_A (ww_X3_readNumbery dC dI cI cJ cB h h1 sz v_h0 n9 v_h1) sz)) g
set_option maxHeartbeats 4000000 in
set_option maxRecDepth 100000 in
theorem c_X3_readNumbery (l : Launch) (dC : Nat → ClassId) (dI : Nat → Nat → Nat) (cI cJ cB : ClassId) (h h1 : Nat) (sz : Nat) (v_h0 : Nat → Nat → Int32) (n9 : Nat) (v_h1 : Nat → Nat → Int32) (hf : fx_X3_readNumber n9 v_h0  = some (v_h1)) : Met l yX3_readNumber wo_X3_readNumbery rm_X3_readNumbery (pc_X3_readNumbery dC dI cI cJ cB h h1 sz v_h0 n9 v_h1) (qc_X3_readNumbery dC dI cI cJ cB h h1 sz v_h0 n9 v_h1) 0 0 (va_A (ww_X3_readNumbery dC dI cI cJ cB h h1 sz v_h0 n9 v_h1) sz) := by
  unfold fx_X3_readNumber at hf
  refine Met.ofW (cc := cX3_readNumber) (maxL := 3) (ret := none) (by decide) rfl ?_
  intro p e s m args below meth c s₁ B hml hv
  obtain ⟨rfl, hsz, hnw, hP, hK, hD0⟩ := hv
  have hx := B.exec
  have hb := B.bytes
  have hr := B.returns
  have hts := atoms_spec (ws := wo_X3_readNumbery) B.pre
  have hown : s.vm.findClass RX3 = some m.cls := findClass_of_methodNamed B.named
  have hlocks := B.notSynchronized
  clear B
  subst hsz
  have hD := hD0.self (sz := s.heap.size)
  clear hD0
  have kk0_ := hts (.fieldLink RX3 46 "SumRewriter$Scanner" "value" "I") (by decide +kernel)
  have kk1_ : ∀ w ∈ wsX30, w ∈ wo_X3_readNumbery := fun _ h => (List.mem_cons_of_mem _ (List.mem_append_right _ (List.mem_append_left _ h)))
  have kk2_ := hts (.fieldLink RX3 26 "SumRewriter$Scanner" "at" "I") (by decide +kernel)
  have kk3_ := hts (.fieldLink RX3 43 "SumRewriter$Scanner" "sort" "I") (by decide +kernel)
  have hA : ∀ q : Nat, s.heap.size ≤ q → (va_A (ww_X3_readNumbery dC dI cI cJ cB h h1 s.heap.size v_h0 n9 v_h1) s.heap.size) q := fun q h => Or.inr h
  have hS : va_S (va_A (ww_X3_readNumbery dC dI cI cJ cB h h1 s.heap.size v_h0 n9 v_h1) s.heap.size) s.heap s.heap [] := va_S.rf
  have hl := lv_entry ([.ref h]) (n := 3) (Nat.le_of_ble_eq_true rfl)
  rw [lg_entry_eq]
  generalize (lg_sl ([.ref h]) ++ List.replicate (3 - (lg_sl ([.ref h])).length) Slot.unset).toArray = ls at hl ⊢
  have hl : lv_has ls 3 [(0, .ref h)] := hl
  have hP : va_P (dC, dI) vwCl [(h, .inr (3, [.ref h1, .int (v_h0 0 0), .int (v_h0 0 1), .int (v_h0 0 2), .int (v_h0 0 3), .int (v_h0 0 4), .int (v_h0 0 5)])), (h1, .inl (cI, 400, .inl (v_h0 1)))] s.heap := hP
  have hD : va_D (va_A (ww_X3_readNumbery dC dI cI cJ cB h h1 s.heap.size v_h0 n9 v_h1) s.heap.size) [(h, .inr (3, [.ref h1, .int (v_h0 0 0), .int (v_h0 0 1), .int (v_h0 0 2), .int (v_h0 0 3), .int (v_h0 0 4), .int (v_h0 0 5)])), (h1, .inl (cI, 400, .inl (v_h0 1)))] := hD
  obtain ⟨H, hH⟩ : ∃ H, H = s.heap := ⟨_, rfl⟩
  obtain ⟨locs, hlc⟩ : ∃ L : List Loc, L = [] := ⟨_, rfl⟩
  have hS : va_S (va_A (ww_X3_readNumbery dC dI cI cJ cB h h1 s.heap.size v_h0 n9 v_h1) s.heap.size) s.heap H locs := by rw [hH, hlc]; exact hS
  have hP : va_P (dC, dI) vwCl [(h, .inr (3, [.ref h1, .int (v_h0 0 0), .int (v_h0 0 1), .int (v_h0 0 2), .int (v_h0 0 3), .int (v_h0 0 4), .int (v_h0 0 5)])), (h1, .inl (cI, 400, .inl (v_h0 1)))] H := by rw [hH]; exact hP
  suffices hgo : WW_X3_readNumbery p l e s m below meth c dC dI cI cJ cB h h1 s.heap.size v_h0 n9 v_h1 H locs (F0 m 0 ls []) by rw [hH, hlc] at hgo; exact hgo
  clear hH hlc
  have L_17 : ∀ (N_17 : Nat), ∀ (x1 : Int32) (x2 : Int32) (v_h : Nat → Nat → Int32), lx_X3_readNumber_17 n9 N_17 x1 x2 v_h = some (v_h1) → ∀ (H : Heap) (locs : List Loc), va_P (dC, dI) vwCl [(h, .inr (3, [.ref h1, .int (v_h 0 0), .int (v_h 0 1), .int (v_h 0 2), .int (v_h 0 3), .int (v_h 0 4), .int (v_h 0 5)])), (h1, .inl (cI, 400, .inl (v_h 1)))] H → va_D (va_A (ww_X3_readNumbery dC dI cI cJ cB h h1 s.heap.size v_h0 n9 v_h1) s.heap.size) [(h, .inr (3, [.ref h1, .int (v_h 0 0), .int (v_h 0 1), .int (v_h 0 2), .int (v_h 0 3), .int (v_h 0 4), .int (v_h 0 5)])), (h1, .inl (cI, 400, .inl (v_h 1)))] → va_S (va_A (ww_X3_readNumbery dC dI cI cJ cB h h1 s.heap.size v_h0 n9 v_h1) s.heap.size) s.heap H locs → ∀ ls : Array Slot, lv_has ls 3 [(0, .ref h), (1, .int x1), (2, .int x2)] → WW_X3_readNumbery p l e s m below meth c dC dI cI cJ cB h h1 s.heap.size v_h0 n9 v_h1 H locs (F0 m 17 ls []) := by
    intro N_17
    induction N_17 with
    | zero => intro x1 x2 v_h hf; exact xn_to hf
    | succ N_17 ih_17 =>
      intro x1 x2 v_h hf H locs hP hD hS ls hl
      replace hf : bx_X3_readNumber_17 n9 (lx_X3_readNumber_17 n9 N_17) x1 x2 v_h = some (v_h1) := hf
      generalize lx_X3_readNumber_17 n9 N_17 = k_17 at hf ih_17
      unfold bx_X3_readNumber_17 at hf
      refine lv_iload_n hx hb dX3_readNumber_17 rfl (lv_at hl 1 rfl) ?_
      refine lv_sipush (v := 400) hx hb dX3_readNumber_18 (by decide) ?_
      refine lv_icmp_ge (tgt := 68) hx hb dX3_readNumber_21 (by decide) (fun c_1 => ?_) (fun c_1 => ?_)
      · replace hf := xi_t c_1 hf
        have hP9 := hP.sub (ws' := [(h, .inr (3, [.ref h1, .int (v_h 0 0), .int (v_h 0 1), .int (v_h 0 2), .int (v_h 0 3), .int (v_h 0 4), .int (v_h 0 5)])), (h1, .inl (cI, 400, .inl (v_h 1)))]) [0, 1] rfl
        have hD9 := hD.sub (ws' := [(h, .inr (3, [.ref h1, .int (v_h 0 0), .int (v_h 0 1), .int (v_h 0 2), .int (v_h 0 3), .int (v_h 0 4), .int (v_h 0 5)])), (h1, .inl (cI, 400, .inl (v_h 1)))]) [0, 1] (by decide) rfl
        have r9_0 : v_h = v_h1 := (Option.some.inj hf)
        exact W.vret hx hb hr (fun t ht hW => ⟨⟨v_h, rfl, r9_0, by rw [ht]; exact hP9, va_K.moved hW.alike hK, hD9⟩, hS.F ht⟩) hS.2.2 dX3_readNumber_68
      · replace hf := xi_f c_1 hf
        refine lv_iload_n hx hb dX3_readNumber_24 rfl (lv_at hl 2 rfl) ?_
        replace hf := xb1_to hf
        obtain ⟨o_2, g_3, hf⟩ := hf
        have hPc := hP.sub (ws' := []) [] rfl
        have hDc := hD.sub (ws' := []) [] (by decide) rfl
        have hFc := va_free (wc := []) hD hS hA [] rfl
        refine va_calli (va_runS (As := [.int x2]) (rest := []) ⟨hx, hb, hml, hown, hts⟩ (c_X3_isDigity l dC dI cI cJ cB  H.size x2 n9 o_2 g_3) (va_cwS 1 hts go_wo_X3_readNumbery_1 rfl rfl rfl (by decide +kernel) ⟨Nat.le_of_ble_eq_true rfl, Nat.le_of_ble_eq_true rfl⟩) ⟨fun a U g mk q => by obtain ⟨q0, q1, qN, qP, qK, qD⟩ := q; exact ⟨q0, q1, NW.calling qN, qP, va_K.moved (u := U) (U := U.calling g mk a) (Vm.Alike.refl U.vm) qK, qD⟩, fun U hU hW => ⟨rfl, by rw [hU], NW.warm hW hnw, by rw [hU]; exact hPc, va_K.moved hW.alike hK, hDc.weaken (fun _ _ _ _ => trivial)⟩⟩ rfl rfl hl.1 rfl (lv_room (Nat.le_of_ble_eq_true rfl)) dX3_readNumber_25 ⟨Nat.zero_le _, Nat.zero_le _⟩) hS (fun q _ h => hFc q h) hFc (fun r_4 u t H1 locs ht hvm hw hB hz1 hk1 hS => ?_)
        cases u
        obtain ⟨hP1, hK1, hD1⟩ := hB
        rw [ht] at hP1
        have hw : (r_4 = o_2) := hw
        subst hw
        obtain ⟨hP, hD⟩ := va_join (wr := [(h, .inr (3, [.ref h1, .int (v_h 0 0), .int (v_h 0 1), .int (v_h 0 2), .int (v_h 0 3), .int (v_h 0 4), .int (v_h 0 5)])), (h1, .inl (cI, 400, .inl (v_h 1)))]) (w1 := []) hP hD [] [0, 1] rfl rfl (by decide) (by decide) hk1 hFc hP1 hD1
        generalize H1 = H at hP hS ⊢
        have hP : va_P (dC, dI) vwCl [(h, .inr (3, [.ref h1, .int (v_h 0 0), .int (v_h 0 1), .int (v_h 0 2), .int (v_h 0 3), .int (v_h 0 4), .int (v_h 0 5)])), (h1, .inl (cI, 400, .inl (v_h 1)))] H := hP
        have hD : va_D (va_A (ww_X3_readNumbery dC dI cI cJ cB h h1 s.heap.size v_h0 n9 v_h1) s.heap.size) [(h, .inr (3, [.ref h1, .int (v_h 0 0), .int (v_h 0 1), .int (v_h 0 2), .int (v_h 0 3), .int (v_h 0 4), .int (v_h 0 5)])), (h1, .inl (cI, 400, .inl (v_h 1)))] := hD
        clear hPc hDc hFc hP1 hK1 hD1 hk1 hz1 ht hvm g_3
        refine lv_if_eq (tgt := 68) hx hb dX3_readNumber_28 (by decide) (fun c_6 => ?_) (fun c_6 => ?_)
        · replace hf := xi_t c_6 hf
          have hP9 := hP.sub (ws' := [(h, .inr (3, [.ref h1, .int (v_h 0 0), .int (v_h 0 1), .int (v_h 0 2), .int (v_h 0 3), .int (v_h 0 4), .int (v_h 0 5)])), (h1, .inl (cI, 400, .inl (v_h 1)))]) [0, 1] rfl
          have hD9 := hD.sub (ws' := [(h, .inr (3, [.ref h1, .int (v_h 0 0), .int (v_h 0 1), .int (v_h 0 2), .int (v_h 0 3), .int (v_h 0 4), .int (v_h 0 5)])), (h1, .inl (cI, 400, .inl (v_h 1)))]) [0, 1] (by decide) rfl
          have r9_0 : v_h = v_h1 := (Option.some.inj hf)
          exact W.vret hx hb hr (fun t ht hW => ⟨⟨v_h, rfl, r9_0, by rw [ht]; exact hP9, va_K.moved hW.alike hK, hD9⟩, hS.F ht⟩) hS.2.2 dX3_readNumber_68
        · replace hf := xi_f c_6 hf
          refine lv_aload_n hx hb dX3_readNumber_31 rfl (lv_at hl 0 rfl) ?_
          refine lv_iload_n hx hb dX3_readNumber_32 rfl (lv_at hl 1 rfl) ?_
          refine lv_if_ne (tgt := 43) hx hb dX3_readNumber_33 (by decide) (fun c_7 => ?_) (fun c_7 => ?_)
          · replace hf := xi_f c_7 hf
            refine lv_iconst (v := -1) hx hb dX3_readNumber_43 (by decide) ?_
            refine va_put (D := (dC, dI)) (ci := 3) (v := .int ((-1 : Int32))) (ty := .int) (C := RX3) (T := TX3) (N := 7) hx hb hts kk1_ tyX3 tyX3_ok nmX3 hown hK hP hD hS 0 rfl rfl 6 (by decide) kk0_ (fun _ h9 => h9) rfl (by decide +kernel) rfl rfl (Nat.le_of_ble_eq_true rfl) dX3_readNumber_44 (fun H locs hP hD hS => ?_)
            obtain ⟨v_h_8, ev_h_8⟩ : ∃ z, z = mu v_h 0 5 ((-1 : Int32)) := ⟨_, rfl⟩
            have hP : va_P (dC, dI) vwCl [(h, .inr (3, [.ref h1, .int (v_h_8 0 0), .int (v_h_8 0 1), .int (v_h_8 0 2), .int (v_h_8 0 3), .int (v_h_8 0 4), .int (v_h_8 0 5)])), (h1, .inl (cI, 400, .inl (v_h_8 1)))] H := by rw [ev_h_8]; exact hP
            have hD : va_D (va_A (ww_X3_readNumbery dC dI cI cJ cB h h1 s.heap.size v_h0 n9 v_h1) s.heap.size) [(h, .inr (3, [.ref h1, .int (v_h_8 0 0), .int (v_h_8 0 1), .int (v_h_8 0 2), .int (v_h_8 0 3), .int (v_h_8 0 4), .int (v_h_8 0 5)])), (h1, .inl (cI, 400, .inl (v_h_8 1)))] := by rw [ev_h_8]; exact hD
            replace hf := xl_to ev_h_8 hf
            obtain ⟨x1_9, ex1_9⟩ : ∃ y : Int32, y = x1 + (1) := ⟨_, rfl⟩
            refine lv_iinc (v := x1_9) (lv' := [(1, .int x1_9), (0, .ref h), (2, .int x2)]) hx hb dX3_readNumber_47 hl (k := 1) rfl (by rw [ex1_9]; rfl) (by decide) rfl (fun ls hl => ?_)
            replace hf := xl_to ex1_9 hf
            refine lv_aload_n hx hb dX3_readNumber_50 rfl (lv_at hl 1 rfl) ?_
            refine lv_dup hx hb dX3_readNumber_51 rfl ?_
            refine va_get (D := (dC, dI)) (ci := 3) (v := .int (v_h_8 0 2)) (C := RX3) (T := TX3) (N := 7) hx hb hts kk1_ hown hK hP 0 rfl rfl 3 (by decide) kk2_ (fun _ h9 => h9) rfl dX3_readNumber_52 ?_
            refine lv_iconst (v := 1) hx hb dX3_readNumber_55 (by decide) ?_
            refine lv_iadd hx hb dX3_readNumber_56 ?_
            refine lv_topi (fun y_10 ey_10 => ?_)
            replace hf := xl_to (v := (v_h_8 0 2) + ((1 : Int32))) ey_10 hf
            refine va_put (D := (dC, dI)) (ci := 3) (v := .int y_10) (ty := .int) (C := RX3) (T := TX3) (N := 7) hx hb hts kk1_ tyX3 tyX3_ok nmX3 hown hK hP hD hS 0 rfl rfl 3 (by decide) kk2_ (fun _ h9 => h9) rfl (by decide +kernel) rfl rfl (Nat.le_of_ble_eq_true rfl) dX3_readNumber_57 (fun H locs hP hD hS => ?_)
            obtain ⟨v_h_11, ev_h_11⟩ : ∃ z, z = mu v_h_8 0 2 y_10 := ⟨_, rfl⟩
            have hP : va_P (dC, dI) vwCl [(h, .inr (3, [.ref h1, .int (v_h_11 0 0), .int (v_h_11 0 1), .int (v_h_11 0 2), .int (v_h_11 0 3), .int (v_h_11 0 4), .int (v_h_11 0 5)])), (h1, .inl (cI, 400, .inl (v_h_11 1)))] H := by rw [ev_h_11]; exact hP
            have hD : va_D (va_A (ww_X3_readNumbery dC dI cI cJ cB h h1 s.heap.size v_h0 n9 v_h1) s.heap.size) [(h, .inr (3, [.ref h1, .int (v_h_11 0 0), .int (v_h_11 0 1), .int (v_h_11 0 2), .int (v_h_11 0 3), .int (v_h_11 0 4), .int (v_h_11 0 5)])), (h1, .inl (cI, 400, .inl (v_h_11 1)))] := by rw [ev_h_11]; exact hD
            replace hf := xl_to ev_h_11 hf
            refine lv_aload_n hx hb dX3_readNumber_60 rfl (lv_at hl 1 rfl) ?_
            replace hf := xb1_to hf
            obtain ⟨o_12, g_13, hf⟩ := hf
            have hPc := hP.sub (ws' := [(h, .inr (3, [.ref h1, .int (v_h_11 0 0), .int (v_h_11 0 1), .int (v_h_11 0 2), .int (v_h_11 0 3), .int (v_h_11 0 4), .int (v_h_11 0 5)])), (h1, .inl (cI, 400, .inl (v_h_11 1)))]) [0, 1] rfl
            have hDc := hD.sub (ws' := [(h, .inr (3, [.ref h1, .int (v_h_11 0 0), .int (v_h_11 0 1), .int (v_h_11 0 2), .int (v_h_11 0 3), .int (v_h_11 0 4), .int (v_h_11 0 5)])), (h1, .inl (cI, 400, .inl (v_h_11 1)))]) [0, 1] (by decide) rfl
            have hFc := va_free (wc := [(h, .inr (3, [.ref h1, .int (v_h_11 0 0), .int (v_h_11 0 1), .int (v_h_11 0 2), .int (v_h_11 0 3), .int (v_h_11 0 4), .int (v_h_11 0 5)])), (h1, .inl (cI, 400, .inl (v_h_11 1)))]) hD hS hA [0, 1] rfl
            refine va_calli (va_runV (As := []) (rest := []) ⟨hx, hb, hml, hown, hts⟩ (c_X3_looky l dC dI cI cJ cB h h1 H.size v_h_11 n9 o_12 g_13) (cwV 0 hts go_wo_X3_readNumbery_2 rfl rfl rfl (by decide +kernel) ⟨Nat.le_of_ble_eq_true rfl, Nat.le_of_ble_eq_true rfl⟩) ⟨fun a U g mk q => by obtain ⟨q0, q1, qN, qP, qK, qD⟩ := q; exact ⟨q0, q1, NW.calling qN, qP, va_K.moved (u := U) (U := U.calling g mk a) (Vm.Alike.refl U.vm) qK, qD⟩, va_recv hK hPc (ci := 3) (q0 := 0) rfl rfl, fun U hU hW => ⟨rfl, by rw [hU], NW.warm hW hnw, by rw [hU]; exact hPc, va_K.moved hW.alike hK, hDc.weaken (fun _ _ _ _ => trivial)⟩⟩ rfl rfl hl.1 rfl (lv_room (Nat.le_of_ble_eq_true rfl)) dX3_readNumber_61 ⟨Nat.zero_le _, Nat.zero_le _⟩) hS (fun q _ h => hFc q h) hFc (fun r_14 u t H1 locs ht hvm hw hB hz1 hk1 hS => ?_)
            cases u
            obtain ⟨hP1, hK1, hD1⟩ := hB
            rw [ht] at hP1
            have hw : (r_14 = o_12) := hw
            subst hw
            obtain ⟨hP, hD⟩ := va_join (wr := []) (w1 := [(h, .inr (3, [.ref h1, .int (v_h_11 0 0), .int (v_h_11 0 1), .int (v_h_11 0 2), .int (v_h_11 0 3), .int (v_h_11 0 4), .int (v_h_11 0 5)])), (h1, .inl (cI, 400, .inl (v_h_11 1)))]) hP hD [0, 1] [] rfl rfl (by decide) (by decide) hk1 hFc hP1 hD1
            generalize H1 = H at hP hS ⊢
            have hP : va_P (dC, dI) vwCl [(h, .inr (3, [.ref h1, .int (v_h_11 0 0), .int (v_h_11 0 1), .int (v_h_11 0 2), .int (v_h_11 0 3), .int (v_h_11 0 4), .int (v_h_11 0 5)])), (h1, .inl (cI, 400, .inl (v_h_11 1)))] H := hP
            have hD : va_D (va_A (ww_X3_readNumbery dC dI cI cJ cB h h1 s.heap.size v_h0 n9 v_h1) s.heap.size) [(h, .inr (3, [.ref h1, .int (v_h_11 0 0), .int (v_h_11 0 1), .int (v_h_11 0 2), .int (v_h_11 0 3), .int (v_h_11 0 4), .int (v_h_11 0 5)])), (h1, .inl (cI, 400, .inl (v_h_11 1)))] := hD
            clear hPc hDc hFc hP1 hK1 hD1 hk1 hz1 ht hvm g_13
            refine lv_istore_n (lv' := [(2, .int r_14), (1, .int x1_9), (0, .ref h)]) hx hb dX3_readNumber_64 rfl hl (by decide) rfl (fun ls hl => ?_)
            refine lv_goto (tgt := 17) hx hb dX3_readNumber_65 (by decide) ?_
            exact ih_17 x1_9 r_14 v_h_11 hf _ _ (hP.sub [0, 1] rfl) (hD.sub [0, 1] (by decide) rfl) hS ls (lv_sub hl [2, 1, 0] rfl)
          · replace hf := xi_t c_7 hf
            refine lv_iload_n hx hb dX3_readNumber_36 rfl (lv_at hl 2 rfl) ?_
            refine lv_bipush (v := 48) hx hb dX3_readNumber_37 (by decide) ?_
            refine lv_isub hx hb dX3_readNumber_39 ?_
            refine lv_topi (fun y_16 ey_16 => ?_)
            replace hf := xl_to (v := x2 - ((48 : Int32))) ey_16 hf
            refine lv_goto (tgt := 44) hx hb dX3_readNumber_40 (by decide) ?_
            refine va_put (D := (dC, dI)) (ci := 3) (v := .int y_16) (ty := .int) (C := RX3) (T := TX3) (N := 7) hx hb hts kk1_ tyX3 tyX3_ok nmX3 hown hK hP hD hS 0 rfl rfl 6 (by decide) kk0_ (fun _ h9 => h9) rfl (by decide +kernel) rfl rfl (Nat.le_of_ble_eq_true rfl) dX3_readNumber_44 (fun H locs hP hD hS => ?_)
            obtain ⟨v_h_17, ev_h_17⟩ : ∃ z, z = mu v_h 0 5 y_16 := ⟨_, rfl⟩
            have hP : va_P (dC, dI) vwCl [(h, .inr (3, [.ref h1, .int (v_h_17 0 0), .int (v_h_17 0 1), .int (v_h_17 0 2), .int (v_h_17 0 3), .int (v_h_17 0 4), .int (v_h_17 0 5)])), (h1, .inl (cI, 400, .inl (v_h_17 1)))] H := by rw [ev_h_17]; exact hP
            have hD : va_D (va_A (ww_X3_readNumbery dC dI cI cJ cB h h1 s.heap.size v_h0 n9 v_h1) s.heap.size) [(h, .inr (3, [.ref h1, .int (v_h_17 0 0), .int (v_h_17 0 1), .int (v_h_17 0 2), .int (v_h_17 0 3), .int (v_h_17 0 4), .int (v_h_17 0 5)])), (h1, .inl (cI, 400, .inl (v_h_17 1)))] := by rw [ev_h_17]; exact hD
            replace hf := xl_to ev_h_17 hf
            obtain ⟨x1_18, ex1_18⟩ : ∃ y : Int32, y = x1 + (1) := ⟨_, rfl⟩
            refine lv_iinc (v := x1_18) (lv' := [(1, .int x1_18), (0, .ref h), (2, .int x2)]) hx hb dX3_readNumber_47 hl (k := 1) rfl (by rw [ex1_18]; rfl) (by decide) rfl (fun ls hl => ?_)
            replace hf := xl_to ex1_18 hf
            refine lv_aload_n hx hb dX3_readNumber_50 rfl (lv_at hl 1 rfl) ?_
            refine lv_dup hx hb dX3_readNumber_51 rfl ?_
            refine va_get (D := (dC, dI)) (ci := 3) (v := .int (v_h_17 0 2)) (C := RX3) (T := TX3) (N := 7) hx hb hts kk1_ hown hK hP 0 rfl rfl 3 (by decide) kk2_ (fun _ h9 => h9) rfl dX3_readNumber_52 ?_
            refine lv_iconst (v := 1) hx hb dX3_readNumber_55 (by decide) ?_
            refine lv_iadd hx hb dX3_readNumber_56 ?_
            refine lv_topi (fun y_19 ey_19 => ?_)
            replace hf := xl_to (v := (v_h_17 0 2) + ((1 : Int32))) ey_19 hf
            refine va_put (D := (dC, dI)) (ci := 3) (v := .int y_19) (ty := .int) (C := RX3) (T := TX3) (N := 7) hx hb hts kk1_ tyX3 tyX3_ok nmX3 hown hK hP hD hS 0 rfl rfl 3 (by decide) kk2_ (fun _ h9 => h9) rfl (by decide +kernel) rfl rfl (Nat.le_of_ble_eq_true rfl) dX3_readNumber_57 (fun H locs hP hD hS => ?_)
            obtain ⟨v_h_20, ev_h_20⟩ : ∃ z, z = mu v_h_17 0 2 y_19 := ⟨_, rfl⟩
            have hP : va_P (dC, dI) vwCl [(h, .inr (3, [.ref h1, .int (v_h_20 0 0), .int (v_h_20 0 1), .int (v_h_20 0 2), .int (v_h_20 0 3), .int (v_h_20 0 4), .int (v_h_20 0 5)])), (h1, .inl (cI, 400, .inl (v_h_20 1)))] H := by rw [ev_h_20]; exact hP
            have hD : va_D (va_A (ww_X3_readNumbery dC dI cI cJ cB h h1 s.heap.size v_h0 n9 v_h1) s.heap.size) [(h, .inr (3, [.ref h1, .int (v_h_20 0 0), .int (v_h_20 0 1), .int (v_h_20 0 2), .int (v_h_20 0 3), .int (v_h_20 0 4), .int (v_h_20 0 5)])), (h1, .inl (cI, 400, .inl (v_h_20 1)))] := by rw [ev_h_20]; exact hD
            replace hf := xl_to ev_h_20 hf
            refine lv_aload_n hx hb dX3_readNumber_60 rfl (lv_at hl 1 rfl) ?_
            replace hf := xb1_to hf
            obtain ⟨o_21, g_22, hf⟩ := hf
            have hPc := hP.sub (ws' := [(h, .inr (3, [.ref h1, .int (v_h_20 0 0), .int (v_h_20 0 1), .int (v_h_20 0 2), .int (v_h_20 0 3), .int (v_h_20 0 4), .int (v_h_20 0 5)])), (h1, .inl (cI, 400, .inl (v_h_20 1)))]) [0, 1] rfl
            have hDc := hD.sub (ws' := [(h, .inr (3, [.ref h1, .int (v_h_20 0 0), .int (v_h_20 0 1), .int (v_h_20 0 2), .int (v_h_20 0 3), .int (v_h_20 0 4), .int (v_h_20 0 5)])), (h1, .inl (cI, 400, .inl (v_h_20 1)))]) [0, 1] (by decide) rfl
            have hFc := va_free (wc := [(h, .inr (3, [.ref h1, .int (v_h_20 0 0), .int (v_h_20 0 1), .int (v_h_20 0 2), .int (v_h_20 0 3), .int (v_h_20 0 4), .int (v_h_20 0 5)])), (h1, .inl (cI, 400, .inl (v_h_20 1)))]) hD hS hA [0, 1] rfl
            refine va_calli (va_runV (As := []) (rest := []) ⟨hx, hb, hml, hown, hts⟩ (c_X3_looky l dC dI cI cJ cB h h1 H.size v_h_20 n9 o_21 g_22) (cwV 0 hts go_wo_X3_readNumbery_2 rfl rfl rfl (by decide +kernel) ⟨Nat.le_of_ble_eq_true rfl, Nat.le_of_ble_eq_true rfl⟩) ⟨fun a U g mk q => by obtain ⟨q0, q1, qN, qP, qK, qD⟩ := q; exact ⟨q0, q1, NW.calling qN, qP, va_K.moved (u := U) (U := U.calling g mk a) (Vm.Alike.refl U.vm) qK, qD⟩, va_recv hK hPc (ci := 3) (q0 := 0) rfl rfl, fun U hU hW => ⟨rfl, by rw [hU], NW.warm hW hnw, by rw [hU]; exact hPc, va_K.moved hW.alike hK, hDc.weaken (fun _ _ _ _ => trivial)⟩⟩ rfl rfl hl.1 rfl (lv_room (Nat.le_of_ble_eq_true rfl)) dX3_readNumber_61 ⟨Nat.zero_le _, Nat.zero_le _⟩) hS (fun q _ h => hFc q h) hFc (fun r_23 u t H1 locs ht hvm hw hB hz1 hk1 hS => ?_)
            cases u
            obtain ⟨hP1, hK1, hD1⟩ := hB
            rw [ht] at hP1
            have hw : (r_23 = o_21) := hw
            subst hw
            obtain ⟨hP, hD⟩ := va_join (wr := []) (w1 := [(h, .inr (3, [.ref h1, .int (v_h_20 0 0), .int (v_h_20 0 1), .int (v_h_20 0 2), .int (v_h_20 0 3), .int (v_h_20 0 4), .int (v_h_20 0 5)])), (h1, .inl (cI, 400, .inl (v_h_20 1)))]) hP hD [0, 1] [] rfl rfl (by decide) (by decide) hk1 hFc hP1 hD1
            generalize H1 = H at hP hS ⊢
            have hP : va_P (dC, dI) vwCl [(h, .inr (3, [.ref h1, .int (v_h_20 0 0), .int (v_h_20 0 1), .int (v_h_20 0 2), .int (v_h_20 0 3), .int (v_h_20 0 4), .int (v_h_20 0 5)])), (h1, .inl (cI, 400, .inl (v_h_20 1)))] H := hP
            have hD : va_D (va_A (ww_X3_readNumbery dC dI cI cJ cB h h1 s.heap.size v_h0 n9 v_h1) s.heap.size) [(h, .inr (3, [.ref h1, .int (v_h_20 0 0), .int (v_h_20 0 1), .int (v_h_20 0 2), .int (v_h_20 0 3), .int (v_h_20 0 4), .int (v_h_20 0 5)])), (h1, .inl (cI, 400, .inl (v_h_20 1)))] := hD
            clear hPc hDc hFc hP1 hK1 hD1 hk1 hz1 ht hvm g_22
            refine lv_istore_n (lv' := [(2, .int r_23), (1, .int x1_18), (0, .ref h)]) hx hb dX3_readNumber_64 rfl hl (by decide) rfl (fun ls hl => ?_)
            refine lv_goto (tgt := 17) hx hb dX3_readNumber_65 (by decide) ?_
            exact ih_17 x1_18 r_23 v_h_20 hf _ _ (hP.sub [0, 1] rfl) (hD.sub [0, 1] (by decide) rfl) hS ls (lv_sub hl [2, 1, 0] rfl)
  refine lv_aload_n hx hb dX3_readNumber_0 rfl (lv_at hl 0 rfl) ?_
  refine lv_iconst (v := 2) hx hb dX3_readNumber_1 (by decide) ?_
  refine va_put (D := (dC, dI)) (ci := 3) (v := .int ((2 : Int32))) (ty := .int) (C := RX3) (T := TX3) (N := 7) hx hb hts kk1_ tyX3 tyX3_ok nmX3 hown hK hP hD hS 0 rfl rfl 4 (by decide) kk3_ (fun _ h9 => h9) rfl (by decide +kernel) rfl rfl (Nat.le_of_ble_eq_true rfl) dX3_readNumber_2 (fun H locs hP hD hS => ?_)
  obtain ⟨v_h_25, ev_h_25⟩ : ∃ z, z = mu v_h0 0 3 ((2 : Int32)) := ⟨_, rfl⟩
  have hP : va_P (dC, dI) vwCl [(h, .inr (3, [.ref h1, .int (v_h_25 0 0), .int (v_h_25 0 1), .int (v_h_25 0 2), .int (v_h_25 0 3), .int (v_h_25 0 4), .int (v_h_25 0 5)])), (h1, .inl (cI, 400, .inl (v_h_25 1)))] H := by rw [ev_h_25]; exact hP
  have hD : va_D (va_A (ww_X3_readNumbery dC dI cI cJ cB h h1 s.heap.size v_h0 n9 v_h1) s.heap.size) [(h, .inr (3, [.ref h1, .int (v_h_25 0 0), .int (v_h_25 0 1), .int (v_h_25 0 2), .int (v_h_25 0 3), .int (v_h_25 0 4), .int (v_h_25 0 5)])), (h1, .inl (cI, 400, .inl (v_h_25 1)))] := by rw [ev_h_25]; exact hD
  replace hf := xl_to ev_h_25 hf
  refine lv_aload_n hx hb dX3_readNumber_5 rfl (lv_at hl 0 rfl) ?_
  refine lv_iconst (v := -1) hx hb dX3_readNumber_6 (by decide) ?_
  refine va_put (D := (dC, dI)) (ci := 3) (v := .int ((-1 : Int32))) (ty := .int) (C := RX3) (T := TX3) (N := 7) hx hb hts kk1_ tyX3 tyX3_ok nmX3 hown hK hP hD hS 0 rfl rfl 6 (by decide) kk0_ (fun _ h9 => h9) rfl (by decide +kernel) rfl rfl (Nat.le_of_ble_eq_true rfl) dX3_readNumber_7 (fun H locs hP hD hS => ?_)
  obtain ⟨v_h_26, ev_h_26⟩ : ∃ z, z = mu v_h_25 0 5 ((-1 : Int32)) := ⟨_, rfl⟩
  have hP : va_P (dC, dI) vwCl [(h, .inr (3, [.ref h1, .int (v_h_26 0 0), .int (v_h_26 0 1), .int (v_h_26 0 2), .int (v_h_26 0 3), .int (v_h_26 0 4), .int (v_h_26 0 5)])), (h1, .inl (cI, 400, .inl (v_h_26 1)))] H := by rw [ev_h_26]; exact hP
  have hD : va_D (va_A (ww_X3_readNumbery dC dI cI cJ cB h h1 s.heap.size v_h0 n9 v_h1) s.heap.size) [(h, .inr (3, [.ref h1, .int (v_h_26 0 0), .int (v_h_26 0 1), .int (v_h_26 0 2), .int (v_h_26 0 3), .int (v_h_26 0 4), .int (v_h_26 0 5)])), (h1, .inl (cI, 400, .inl (v_h_26 1)))] := by rw [ev_h_26]; exact hD
  replace hf := xl_to ev_h_26 hf
  refine lv_iconst (v := 0) hx hb dX3_readNumber_10 (by decide) ?_
  refine lv_istore_n (lv' := [(1, .int ((0 : Int32))), (0, .ref h)]) hx hb dX3_readNumber_11 rfl hl (by decide) rfl (fun ls hl => ?_)
  refine lv_aload_n hx hb dX3_readNumber_12 rfl (lv_at hl 1 rfl) ?_
  replace hf := xb1_to hf
  obtain ⟨o_27, g_28, hf⟩ := hf
  have hPc := hP.sub (ws' := [(h, .inr (3, [.ref h1, .int (v_h_26 0 0), .int (v_h_26 0 1), .int (v_h_26 0 2), .int (v_h_26 0 3), .int (v_h_26 0 4), .int (v_h_26 0 5)])), (h1, .inl (cI, 400, .inl (v_h_26 1)))]) [0, 1] rfl
  have hDc := hD.sub (ws' := [(h, .inr (3, [.ref h1, .int (v_h_26 0 0), .int (v_h_26 0 1), .int (v_h_26 0 2), .int (v_h_26 0 3), .int (v_h_26 0 4), .int (v_h_26 0 5)])), (h1, .inl (cI, 400, .inl (v_h_26 1)))]) [0, 1] (by decide) rfl
  have hFc := va_free (wc := [(h, .inr (3, [.ref h1, .int (v_h_26 0 0), .int (v_h_26 0 1), .int (v_h_26 0 2), .int (v_h_26 0 3), .int (v_h_26 0 4), .int (v_h_26 0 5)])), (h1, .inl (cI, 400, .inl (v_h_26 1)))]) hD hS hA [0, 1] rfl
  refine va_calli (va_runV (As := []) (rest := []) ⟨hx, hb, hml, hown, hts⟩ (c_X3_looky l dC dI cI cJ cB h h1 H.size v_h_26 n9 o_27 g_28) (cwV 0 hts go_wo_X3_readNumbery_2 rfl rfl rfl (by decide +kernel) ⟨Nat.le_of_ble_eq_true rfl, Nat.le_of_ble_eq_true rfl⟩) ⟨fun a U g mk q => by obtain ⟨q0, q1, qN, qP, qK, qD⟩ := q; exact ⟨q0, q1, NW.calling qN, qP, va_K.moved (u := U) (U := U.calling g mk a) (Vm.Alike.refl U.vm) qK, qD⟩, va_recv hK hPc (ci := 3) (q0 := 0) rfl rfl, fun U hU hW => ⟨rfl, by rw [hU], NW.warm hW hnw, by rw [hU]; exact hPc, va_K.moved hW.alike hK, hDc.weaken (fun _ _ _ _ => trivial)⟩⟩ rfl rfl hl.1 rfl (lv_room (Nat.le_of_ble_eq_true rfl)) dX3_readNumber_13 ⟨Nat.zero_le _, Nat.zero_le _⟩) hS (fun q _ h => hFc q h) hFc (fun r_29 u t H1 locs ht hvm hw hB hz1 hk1 hS => ?_)
  cases u
  obtain ⟨hP1, hK1, hD1⟩ := hB
  rw [ht] at hP1
  have hw : (r_29 = o_27) := hw
  subst hw
  obtain ⟨hP, hD⟩ := va_join (wr := []) (w1 := [(h, .inr (3, [.ref h1, .int (v_h_26 0 0), .int (v_h_26 0 1), .int (v_h_26 0 2), .int (v_h_26 0 3), .int (v_h_26 0 4), .int (v_h_26 0 5)])), (h1, .inl (cI, 400, .inl (v_h_26 1)))]) hP hD [0, 1] [] rfl rfl (by decide) (by decide) hk1 hFc hP1 hD1
  generalize H1 = H at hP hS ⊢
  have hP : va_P (dC, dI) vwCl [(h, .inr (3, [.ref h1, .int (v_h_26 0 0), .int (v_h_26 0 1), .int (v_h_26 0 2), .int (v_h_26 0 3), .int (v_h_26 0 4), .int (v_h_26 0 5)])), (h1, .inl (cI, 400, .inl (v_h_26 1)))] H := hP
  have hD : va_D (va_A (ww_X3_readNumbery dC dI cI cJ cB h h1 s.heap.size v_h0 n9 v_h1) s.heap.size) [(h, .inr (3, [.ref h1, .int (v_h_26 0 0), .int (v_h_26 0 1), .int (v_h_26 0 2), .int (v_h_26 0 3), .int (v_h_26 0 4), .int (v_h_26 0 5)])), (h1, .inl (cI, 400, .inl (v_h_26 1)))] := hD
  clear hPc hDc hFc hP1 hK1 hD1 hk1 hz1 ht hvm g_28
  refine lv_istore_n (lv' := [(2, .int r_29), (1, .int ((0 : Int32))), (0, .ref h)]) hx hb dX3_readNumber_16 rfl hl (by decide) rfl (fun ls hl => ?_)
  exact L_17 n9 ((0 : Int32)) r_29 v_h_26 hf _ _ (hP.sub [0, 1] rfl) (hD.sub [0, 1] (by decide) rfl) hS ls (lv_sub hl [2, 1, 0] rfl)
def wo_X3_advancey : List Cond := .code yX3_advance cX3_advance 3 none :: (([.fieldLink RX3 26 "SumRewriter$Scanner" "at" "I", .fieldLink RX3 40 "SumRewriter$Scanner" "start" "I", .fieldLink RX3 43 "SumRewriter$Scanner" "sort" "I", .fieldLink RX3 46 "SumRewriter$Scanner" "value" "I"] : List Cond) ++ ((wsX30) ++ ((va_wsS RX3 49 yX3_isLetter wo_X3_isLettery) ++ ((va_wsS RX3 55 yX3_isDigit wo_X3_isDigity) ++ ((wsV RX3 58 RX3 yX3_readNumber wo_X3_readNumbery) ++ ((wsV RX3 52 RX3 yX3_readWord wo_X3_readWordy) ++ ((va_wsS RX3 36 yX3_isBlank wo_X3_isBlanky) ++ ((wsV RX3 32 RX3 yX3_look wo_X3_looky)))))))))
set_option maxRecDepth 20000 in
theorem go_wo_X3_advancey_1 : GoodIn wo_X3_advancey (va_wsS RX3 49 yX3_isLetter wo_X3_isLettery) := goodIn_sub (fun _ h => (List.mem_cons_of_mem _ (List.mem_append_right _ (List.mem_append_right _ (List.mem_append_left _ h))))) (by decide +kernel)
set_option maxRecDepth 20000 in
theorem go_wo_X3_advancey_2 : GoodIn wo_X3_advancey (va_wsS RX3 55 yX3_isDigit wo_X3_isDigity) := goodIn_sub (fun _ h => (List.mem_cons_of_mem _ (List.mem_append_right _ (List.mem_append_right _ (List.mem_append_right _ (List.mem_append_left _ h)))))) (by decide +kernel)
set_option maxRecDepth 20000 in
theorem go_wo_X3_advancey_3 : GoodIn wo_X3_advancey (wsV RX3 58 RX3 yX3_readNumber wo_X3_readNumbery) := goodIn_sub (fun _ h => (List.mem_cons_of_mem _ (List.mem_append_right _ (List.mem_append_right _ (List.mem_append_right _ (List.mem_append_right _ (List.mem_append_left _ h))))))) (by decide +kernel)
set_option maxRecDepth 20000 in
theorem go_wo_X3_advancey_4 : GoodIn wo_X3_advancey (wsV RX3 52 RX3 yX3_readWord wo_X3_readWordy) := goodIn_sub (fun _ h => (List.mem_cons_of_mem _ (List.mem_append_right _ (List.mem_append_right _ (List.mem_append_right _ (List.mem_append_right _ (List.mem_append_right _ (List.mem_append_left _ h)))))))) (by decide +kernel)
set_option maxRecDepth 20000 in
theorem go_wo_X3_advancey_5 : GoodIn wo_X3_advancey (va_wsS RX3 36 yX3_isBlank wo_X3_isBlanky) := goodIn_sub (fun _ h => (List.mem_cons_of_mem _ (List.mem_append_right _ (List.mem_append_right _ (List.mem_append_right _ (List.mem_append_right _ (List.mem_append_right _ (List.mem_append_right _ (List.mem_append_left _ h))))))))) (by decide +kernel)
set_option maxRecDepth 20000 in
theorem go_wo_X3_advancey_6 : GoodIn wo_X3_advancey (wsV RX3 32 RX3 yX3_look wo_X3_looky) := goodIn_sub (fun _ h => (List.mem_cons_of_mem _ (List.mem_append_right _ (List.mem_append_right _ (List.mem_append_right _ (List.mem_append_right _ (List.mem_append_right _ (List.mem_append_right _ (List.mem_append_right _ h))))))))) (by decide +kernel)
abbrev ww_X3_advancey (dC : Nat → ClassId) (dI : Nat → Nat → Nat) (cI cJ cB : ClassId) (h h1 : Nat) (sz : Nat) (v_h0 : Nat → Nat → Int32) (n9 : Nat) (v_h1 : Nat → Nat → Int32) : va_W := [(h, .inr (3, [.ref h1, .int (v_h0 0 0), .int (v_h0 0 1), .int (v_h0 0 2), .int (v_h0 0 3), .int (v_h0 0 4), .int (v_h0 0 5)])), (h1, .inl (cI, 400, .inl (v_h0 1)))]
abbrev at_X3_advancey (dC : Nat → ClassId) (dI : Nat → Nat → Nat) (cI cJ cB : ClassId) (h h1 : Nat) (sz : Nat) (v_h0 : Nat → Nat → Int32) (n9 : Nat) (v_h1 : Nat → Nat → Int32) (u : (Nat → Nat → Int32)) (t : State) : Prop := match u with
  | v_h => va_P (dC, dI) vwCl [(h, .inr (3, [.ref h1, .int (v_h 0 0), .int (v_h 0 1), .int (v_h 0 2), .int (v_h 0 3), .int (v_h 0 4), .int (v_h 0 5)])), (h1, .inl (cI, 400, .inl (v_h 1)))] t.heap ∧ va_K (dC, dI) vwCl (tyL cI cJ cB) t ∧ va_D (va_A (ww_X3_advancey dC dI cI cJ cB h h1 sz v_h0 n9 v_h1) sz) [(h, .inr (3, [.ref h1, .int (v_h 0 0), .int (v_h 0 1), .int (v_h 0 2), .int (v_h 0 3), .int (v_h 0 4), .int (v_h 0 5)])), (h1, .inl (cI, 400, .inl (v_h 1)))]
abbrev qc_X3_advancey (dC : Nat → ClassId) (dI : Nat → Nat → Nat) (cI cJ cB : ClassId) (h h1 : Nat) (sz : Nat) (v_h0 : Nat → Nat → Int32) (n9 : Nat) (v_h1 : Nat → Nat → Int32) : Array Value → State → Outcome → State → Prop := va_Qv (fun (u : (Nat → Nat → Int32)) => match u with | v_h => (v_h = v_h1)) (at_X3_advancey dC dI cI cJ cB h h1 sz v_h0 n9 v_h1) (va_A (ww_X3_advancey dC dI cI cJ cB h h1 sz v_h0 n9 v_h1) sz)
abbrev pc_X3_advancey (dC : Nat → ClassId) (dI : Nat → Nat → Nat) (cI cJ cB : ClassId) (h h1 : Nat) (sz : Nat) (v_h0 : Nat → Nat → Int32) (n9 : Nat) (v_h1 : Nat → Nat → Int32) : Array Value → State → Prop := va_Pc [.ref h] (fun U => U.heap.size = sz ∧ NW U ∧ va_P (dC, dI) vwCl (ww_X3_advancey dC dI cI cJ cB h h1 sz v_h0 n9 v_h1) U.heap ∧ va_K (dC, dI) vwCl (tyL cI cJ cB) U ∧ va_D (fun _ => True) (ww_X3_advancey dC dI cI cJ cB h h1 sz v_h0 n9 v_h1))
abbrev rm_X3_advancey : Room := { frames := 2, cells := 0, slots := 0, locals := 42 }
abbrev WW_X3_advancey (p : Program) (l : Launch) (e : Env) (s : State) (m : MethodId) (below : List Frame) (meth : Method) (c : Code) (dC : Nat → ClassId) (dI : Nat → Nat → Nat) (cI cJ cB : ClassId) (h h1 : Nat) (sz : Nat) (v_h0 : Nat → Nat → Int32) (n9 : Nat) (v_h1 : Nat → Nat → Int32) (H : Heap) (locs : List Loc) (g : JFrame) : Prop := W p l e rm_X3_advancey s m ([.ref h] : List Value).toArray below meth c H locs 0 0 (MQ below (qc_X3_advancey dC dI cI cJ cB h h1 sz v_h0 n9 v_h1) ([.ref h] : List Value).toArray s 0 0 (va_A (ww_X3_advancey dC dI cI cJ cB h h1 sz v_h0 n9 v_h1) sz)) g
set_option maxHeartbeats 4000000 in
set_option maxRecDepth 100000 in
theorem c_X3_advancey (l : Launch) (dC : Nat → ClassId) (dI : Nat → Nat → Nat) (cI cJ cB : ClassId) (h h1 : Nat) (sz : Nat) (v_h0 : Nat → Nat → Int32) (n9 : Nat) (v_h1 : Nat → Nat → Int32) (hf : fx_X3_advance n9 v_h0  = some (v_h1)) : Met l yX3_advance wo_X3_advancey rm_X3_advancey (pc_X3_advancey dC dI cI cJ cB h h1 sz v_h0 n9 v_h1) (qc_X3_advancey dC dI cI cJ cB h h1 sz v_h0 n9 v_h1) 0 0 (va_A (ww_X3_advancey dC dI cI cJ cB h h1 sz v_h0 n9 v_h1) sz) := by
  unfold fx_X3_advance at hf
  refine Met.ofW (cc := cX3_advance) (maxL := 3) (ret := none) (by decide) rfl ?_
  intro p e s m args below meth c s₁ B hml hv
  obtain ⟨rfl, hsz, hnw, hP, hK, hD0⟩ := hv
  have hx := B.exec
  have hb := B.bytes
  have hr := B.returns
  have hts := atoms_spec (ws := wo_X3_advancey) B.pre
  have hown : s.vm.findClass RX3 = some m.cls := findClass_of_methodNamed B.named
  have hlocks := B.notSynchronized
  clear B
  subst hsz
  have hD := hD0.self (sz := s.heap.size)
  clear hD0
  have kk0_ := hts (.fieldLink RX3 26 "SumRewriter$Scanner" "at" "I") (by decide +kernel)
  have kk1_ : ∀ w ∈ wsX30, w ∈ wo_X3_advancey := fun _ h => (List.mem_cons_of_mem _ (List.mem_append_right _ (List.mem_append_left _ h)))
  have kk2_ := hts (.fieldLink RX3 40 "SumRewriter$Scanner" "start" "I") (by decide +kernel)
  have kk3_ := hts (.fieldLink RX3 43 "SumRewriter$Scanner" "sort" "I") (by decide +kernel)
  have kk4_ := hts (.fieldLink RX3 46 "SumRewriter$Scanner" "value" "I") (by decide +kernel)
  have hA : ∀ q : Nat, s.heap.size ≤ q → (va_A (ww_X3_advancey dC dI cI cJ cB h h1 s.heap.size v_h0 n9 v_h1) s.heap.size) q := fun q h => Or.inr h
  have hS : va_S (va_A (ww_X3_advancey dC dI cI cJ cB h h1 s.heap.size v_h0 n9 v_h1) s.heap.size) s.heap s.heap [] := va_S.rf
  have hl := lv_entry ([.ref h]) (n := 3) (Nat.le_of_ble_eq_true rfl)
  rw [lg_entry_eq]
  generalize (lg_sl ([.ref h]) ++ List.replicate (3 - (lg_sl ([.ref h])).length) Slot.unset).toArray = ls at hl ⊢
  have hl : lv_has ls 3 [(0, .ref h)] := hl
  have hP : va_P (dC, dI) vwCl [(h, .inr (3, [.ref h1, .int (v_h0 0 0), .int (v_h0 0 1), .int (v_h0 0 2), .int (v_h0 0 3), .int (v_h0 0 4), .int (v_h0 0 5)])), (h1, .inl (cI, 400, .inl (v_h0 1)))] s.heap := hP
  have hD : va_D (va_A (ww_X3_advancey dC dI cI cJ cB h h1 s.heap.size v_h0 n9 v_h1) s.heap.size) [(h, .inr (3, [.ref h1, .int (v_h0 0 0), .int (v_h0 0 1), .int (v_h0 0 2), .int (v_h0 0 3), .int (v_h0 0 4), .int (v_h0 0 5)])), (h1, .inl (cI, 400, .inl (v_h0 1)))] := hD
  obtain ⟨H, hH⟩ : ∃ H, H = s.heap := ⟨_, rfl⟩
  obtain ⟨locs, hlc⟩ : ∃ L : List Loc, L = [] := ⟨_, rfl⟩
  have hS : va_S (va_A (ww_X3_advancey dC dI cI cJ cB h h1 s.heap.size v_h0 n9 v_h1) s.heap.size) s.heap H locs := by rw [hH, hlc]; exact hS
  have hP : va_P (dC, dI) vwCl [(h, .inr (3, [.ref h1, .int (v_h0 0 0), .int (v_h0 0 1), .int (v_h0 0 2), .int (v_h0 0 3), .int (v_h0 0 4), .int (v_h0 0 5)])), (h1, .inl (cI, 400, .inl (v_h0 1)))] H := by rw [hH]; exact hP
  suffices hgo : WW_X3_advancey p l e s m below meth c dC dI cI cJ cB h h1 s.heap.size v_h0 n9 v_h1 H locs (F0 m 0 ls []) by rw [hH, hlc] at hgo; exact hgo
  clear hH hlc
  have J_42 : ∀ (x1 : Int32) (x2 : Int32) (v_h : Nat → Nat → Int32), jx_X3_advance_42 n9 x1 x2 v_h = some (v_h1) → ∀ (H : Heap) (locs : List Loc), va_P (dC, dI) vwCl [(h, .inr (3, [.ref h1, .int (v_h 0 0), .int (v_h 0 1), .int (v_h 0 2), .int (v_h 0 3), .int (v_h 0 4), .int (v_h 0 5)])), (h1, .inl (cI, 400, .inl (v_h 1)))] H → va_D (va_A (ww_X3_advancey dC dI cI cJ cB h h1 s.heap.size v_h0 n9 v_h1) s.heap.size) [(h, .inr (3, [.ref h1, .int (v_h 0 0), .int (v_h 0 1), .int (v_h 0 2), .int (v_h 0 3), .int (v_h 0 4), .int (v_h 0 5)])), (h1, .inl (cI, 400, .inl (v_h 1)))] → va_S (va_A (ww_X3_advancey dC dI cI cJ cB h h1 s.heap.size v_h0 n9 v_h1) s.heap.size) s.heap H locs → ∀ ls : Array Slot, lv_has ls 3 [(0, .ref h), (1, .int x1), (2, .int x2)] → WW_X3_advancey p l e s m below meth c dC dI cI cJ cB h h1 s.heap.size v_h0 n9 v_h1 H locs (F0 m 42 ls []) := by
    intro x1 x2 v_h hf H locs hP hD hS ls hl
    unfold jx_X3_advance_42 at hf
    refine lv_aload_n hx hb dX3_advance_42 rfl (lv_at hl 0 rfl) ?_
    refine lv_aload_n hx hb dX3_advance_43 rfl (lv_at hl 0 rfl) ?_
    refine va_get (D := (dC, dI)) (ci := 3) (v := .int (v_h 0 2)) (C := RX3) (T := TX3) (N := 7) hx hb hts kk1_ hown hK hP 0 rfl rfl 3 (by decide) kk0_ (fun _ h9 => h9) rfl dX3_advance_44 ?_
    refine va_put (D := (dC, dI)) (ci := 3) (v := .int (v_h 0 2)) (ty := .int) (C := RX3) (T := TX3) (N := 7) hx hb hts kk1_ tyX3 tyX3_ok nmX3 hown hK hP hD hS 0 rfl rfl 5 (by decide) kk2_ (fun _ h9 => h9) rfl (by decide +kernel) rfl rfl (Nat.le_of_ble_eq_true rfl) dX3_advance_47 (fun H locs hP hD hS => ?_)
    obtain ⟨v_h_1, ev_h_1⟩ : ∃ z, z = mu v_h 0 4 (v_h 0 2) := ⟨_, rfl⟩
    have hP : va_P (dC, dI) vwCl [(h, .inr (3, [.ref h1, .int (v_h_1 0 0), .int (v_h_1 0 1), .int (v_h_1 0 2), .int (v_h_1 0 3), .int (v_h_1 0 4), .int (v_h_1 0 5)])), (h1, .inl (cI, 400, .inl (v_h_1 1)))] H := by rw [ev_h_1]; exact hP
    have hD : va_D (va_A (ww_X3_advancey dC dI cI cJ cB h h1 s.heap.size v_h0 n9 v_h1) s.heap.size) [(h, .inr (3, [.ref h1, .int (v_h_1 0 0), .int (v_h_1 0 1), .int (v_h_1 0 2), .int (v_h_1 0 3), .int (v_h_1 0 4), .int (v_h_1 0 5)])), (h1, .inl (cI, 400, .inl (v_h_1 1)))] := by rw [ev_h_1]; exact hD
    replace hf := xl_to ev_h_1 hf
    refine lv_iload_n hx hb dX3_advance_50 rfl (lv_at hl 1 rfl) ?_
    refine lv_if_ge (tgt := 67) hx hb dX3_advance_51 (by decide) (fun c_2 => ?_) (fun c_2 => ?_)
    · replace hf := xi_t c_2 hf
      refine lv_iload_n hx hb dX3_advance_67 rfl (lv_at hl 1 rfl) ?_
      replace hf := xb1_to hf
      obtain ⟨o_3, g_4, hf⟩ := hf
      have hPc := hP.sub (ws' := []) [] rfl
      have hDc := hD.sub (ws' := []) [] (by decide) rfl
      have hFc := va_free (wc := []) hD hS hA [] rfl
      refine va_calli (va_runS (As := [.int x1]) (rest := []) ⟨hx, hb, hml, hown, hts⟩ (c_X3_isLettery l dC dI cI cJ cB  H.size x1 n9 o_3 g_4) (va_cwS 1 hts go_wo_X3_advancey_1 rfl rfl rfl (by decide +kernel) ⟨Nat.le_of_ble_eq_true rfl, Nat.le_of_ble_eq_true rfl⟩) ⟨fun a U g mk q => by obtain ⟨q0, q1, qN, qP, qK, qD⟩ := q; exact ⟨q0, q1, NW.calling qN, qP, va_K.moved (u := U) (U := U.calling g mk a) (Vm.Alike.refl U.vm) qK, qD⟩, fun U hU hW => ⟨rfl, by rw [hU], NW.warm hW hnw, by rw [hU]; exact hPc, va_K.moved hW.alike hK, hDc.weaken (fun _ _ _ _ => trivial)⟩⟩ rfl rfl hl.1 rfl (lv_room (Nat.le_of_ble_eq_true rfl)) dX3_advance_68 ⟨Nat.zero_le _, Nat.zero_le _⟩) hS (fun q _ h => hFc q h) hFc (fun r_5 u t H1 locs ht hvm hw hB hz1 hk1 hS => ?_)
      cases u
      obtain ⟨hP1, hK1, hD1⟩ := hB
      rw [ht] at hP1
      have hw : (r_5 = o_3) := hw
      subst hw
      obtain ⟨hP, hD⟩ := va_join (wr := [(h, .inr (3, [.ref h1, .int (v_h_1 0 0), .int (v_h_1 0 1), .int (v_h_1 0 2), .int (v_h_1 0 3), .int (v_h_1 0 4), .int (v_h_1 0 5)])), (h1, .inl (cI, 400, .inl (v_h_1 1)))]) (w1 := []) hP hD [] [0, 1] rfl rfl (by decide) (by decide) hk1 hFc hP1 hD1
      generalize H1 = H at hP hS ⊢
      have hP : va_P (dC, dI) vwCl [(h, .inr (3, [.ref h1, .int (v_h_1 0 0), .int (v_h_1 0 1), .int (v_h_1 0 2), .int (v_h_1 0 3), .int (v_h_1 0 4), .int (v_h_1 0 5)])), (h1, .inl (cI, 400, .inl (v_h_1 1)))] H := hP
      have hD : va_D (va_A (ww_X3_advancey dC dI cI cJ cB h h1 s.heap.size v_h0 n9 v_h1) s.heap.size) [(h, .inr (3, [.ref h1, .int (v_h_1 0 0), .int (v_h_1 0 1), .int (v_h_1 0 2), .int (v_h_1 0 3), .int (v_h_1 0 4), .int (v_h_1 0 5)])), (h1, .inl (cI, 400, .inl (v_h_1 1)))] := hD
      clear hPc hDc hFc hP1 hK1 hD1 hk1 hz1 ht hvm g_4
      refine lv_if_eq (tgt := 81) hx hb dX3_advance_71 (by decide) (fun c_7 => ?_) (fun c_7 => ?_)
      · replace hf := xi_t c_7 hf
        refine lv_iload_n hx hb dX3_advance_81 rfl (lv_at hl 1 rfl) ?_
        replace hf := xb1_to hf
        obtain ⟨o_8, g_9, hf⟩ := hf
        have hPc := hP.sub (ws' := []) [] rfl
        have hDc := hD.sub (ws' := []) [] (by decide) rfl
        have hFc := va_free (wc := []) hD hS hA [] rfl
        refine va_calli (va_runS (As := [.int x1]) (rest := []) ⟨hx, hb, hml, hown, hts⟩ (c_X3_isDigity l dC dI cI cJ cB  H.size x1 n9 o_8 g_9) (va_cwS 1 hts go_wo_X3_advancey_2 rfl rfl rfl (by decide +kernel) ⟨Nat.le_of_ble_eq_true rfl, Nat.le_of_ble_eq_true rfl⟩) ⟨fun a U g mk q => by obtain ⟨q0, q1, qN, qP, qK, qD⟩ := q; exact ⟨q0, q1, NW.calling qN, qP, va_K.moved (u := U) (U := U.calling g mk a) (Vm.Alike.refl U.vm) qK, qD⟩, fun U hU hW => ⟨rfl, by rw [hU], NW.warm hW hnw, by rw [hU]; exact hPc, va_K.moved hW.alike hK, hDc.weaken (fun _ _ _ _ => trivial)⟩⟩ rfl rfl hl.1 rfl (lv_room (Nat.le_of_ble_eq_true rfl)) dX3_advance_82 ⟨Nat.zero_le _, Nat.zero_le _⟩) hS (fun q _ h => hFc q h) hFc (fun r_10 u t H1 locs ht hvm hw hB hz1 hk1 hS => ?_)
        cases u
        obtain ⟨hP1, hK1, hD1⟩ := hB
        rw [ht] at hP1
        have hw : (r_10 = o_8) := hw
        subst hw
        obtain ⟨hP, hD⟩ := va_join (wr := [(h, .inr (3, [.ref h1, .int (v_h_1 0 0), .int (v_h_1 0 1), .int (v_h_1 0 2), .int (v_h_1 0 3), .int (v_h_1 0 4), .int (v_h_1 0 5)])), (h1, .inl (cI, 400, .inl (v_h_1 1)))]) (w1 := []) hP hD [] [0, 1] rfl rfl (by decide) (by decide) hk1 hFc hP1 hD1
        generalize H1 = H at hP hS ⊢
        have hP : va_P (dC, dI) vwCl [(h, .inr (3, [.ref h1, .int (v_h_1 0 0), .int (v_h_1 0 1), .int (v_h_1 0 2), .int (v_h_1 0 3), .int (v_h_1 0 4), .int (v_h_1 0 5)])), (h1, .inl (cI, 400, .inl (v_h_1 1)))] H := hP
        have hD : va_D (va_A (ww_X3_advancey dC dI cI cJ cB h h1 s.heap.size v_h0 n9 v_h1) s.heap.size) [(h, .inr (3, [.ref h1, .int (v_h_1 0 0), .int (v_h_1 0 1), .int (v_h_1 0 2), .int (v_h_1 0 3), .int (v_h_1 0 4), .int (v_h_1 0 5)])), (h1, .inl (cI, 400, .inl (v_h_1 1)))] := hD
        clear hPc hDc hFc hP1 hK1 hD1 hk1 hz1 ht hvm g_9
        refine lv_if_eq (tgt := 95) hx hb dX3_advance_85 (by decide) (fun c_12 => ?_) (fun c_12 => ?_)
        · replace hf := xi_t c_12 hf
          refine lv_aload_n hx hb dX3_advance_95 rfl (lv_at hl 0 rfl) ?_
          refine lv_iconst (v := 3) hx hb dX3_advance_96 (by decide) ?_
          refine va_put (D := (dC, dI)) (ci := 3) (v := .int ((3 : Int32))) (ty := .int) (C := RX3) (T := TX3) (N := 7) hx hb hts kk1_ tyX3 tyX3_ok nmX3 hown hK hP hD hS 0 rfl rfl 4 (by decide) kk3_ (fun _ h9 => h9) rfl (by decide +kernel) rfl rfl (Nat.le_of_ble_eq_true rfl) dX3_advance_97 (fun H locs hP hD hS => ?_)
          obtain ⟨v_h_13, ev_h_13⟩ : ∃ z, z = mu v_h_1 0 3 ((3 : Int32)) := ⟨_, rfl⟩
          have hP : va_P (dC, dI) vwCl [(h, .inr (3, [.ref h1, .int (v_h_13 0 0), .int (v_h_13 0 1), .int (v_h_13 0 2), .int (v_h_13 0 3), .int (v_h_13 0 4), .int (v_h_13 0 5)])), (h1, .inl (cI, 400, .inl (v_h_13 1)))] H := by rw [ev_h_13]; exact hP
          have hD : va_D (va_A (ww_X3_advancey dC dI cI cJ cB h h1 s.heap.size v_h0 n9 v_h1) s.heap.size) [(h, .inr (3, [.ref h1, .int (v_h_13 0 0), .int (v_h_13 0 1), .int (v_h_13 0 2), .int (v_h_13 0 3), .int (v_h_13 0 4), .int (v_h_13 0 5)])), (h1, .inl (cI, 400, .inl (v_h_13 1)))] := by rw [ev_h_13]; exact hD
          replace hf := xl_to ev_h_13 hf
          refine lv_aload_n hx hb dX3_advance_100 rfl (lv_at hl 0 rfl) ?_
          refine lv_iload_n hx hb dX3_advance_101 rfl (lv_at hl 1 rfl) ?_
          refine va_put (D := (dC, dI)) (ci := 3) (v := .int x1) (ty := .int) (C := RX3) (T := TX3) (N := 7) hx hb hts kk1_ tyX3 tyX3_ok nmX3 hown hK hP hD hS 0 rfl rfl 6 (by decide) kk4_ (fun _ h9 => h9) rfl (by decide +kernel) rfl rfl (Nat.le_of_ble_eq_true rfl) dX3_advance_102 (fun H locs hP hD hS => ?_)
          obtain ⟨v_h_14, ev_h_14⟩ : ∃ z, z = mu v_h_13 0 5 x1 := ⟨_, rfl⟩
          have hP : va_P (dC, dI) vwCl [(h, .inr (3, [.ref h1, .int (v_h_14 0 0), .int (v_h_14 0 1), .int (v_h_14 0 2), .int (v_h_14 0 3), .int (v_h_14 0 4), .int (v_h_14 0 5)])), (h1, .inl (cI, 400, .inl (v_h_14 1)))] H := by rw [ev_h_14]; exact hP
          have hD : va_D (va_A (ww_X3_advancey dC dI cI cJ cB h h1 s.heap.size v_h0 n9 v_h1) s.heap.size) [(h, .inr (3, [.ref h1, .int (v_h_14 0 0), .int (v_h_14 0 1), .int (v_h_14 0 2), .int (v_h_14 0 3), .int (v_h_14 0 4), .int (v_h_14 0 5)])), (h1, .inl (cI, 400, .inl (v_h_14 1)))] := by rw [ev_h_14]; exact hD
          replace hf := xl_to ev_h_14 hf
          refine lv_aload_n hx hb dX3_advance_105 rfl (lv_at hl 0 rfl) ?_
          refine lv_dup hx hb dX3_advance_106 rfl ?_
          refine va_get (D := (dC, dI)) (ci := 3) (v := .int (v_h_14 0 2)) (C := RX3) (T := TX3) (N := 7) hx hb hts kk1_ hown hK hP 0 rfl rfl 3 (by decide) kk0_ (fun _ h9 => h9) rfl dX3_advance_107 ?_
          refine lv_iconst (v := 1) hx hb dX3_advance_110 (by decide) ?_
          refine lv_iadd hx hb dX3_advance_111 ?_
          refine lv_topi (fun y_15 ey_15 => ?_)
          replace hf := xl_to (v := (v_h_14 0 2) + ((1 : Int32))) ey_15 hf
          refine va_put (D := (dC, dI)) (ci := 3) (v := .int y_15) (ty := .int) (C := RX3) (T := TX3) (N := 7) hx hb hts kk1_ tyX3 tyX3_ok nmX3 hown hK hP hD hS 0 rfl rfl 3 (by decide) kk0_ (fun _ h9 => h9) rfl (by decide +kernel) rfl rfl (Nat.le_of_ble_eq_true rfl) dX3_advance_112 (fun H locs hP hD hS => ?_)
          obtain ⟨v_h_16, ev_h_16⟩ : ∃ z, z = mu v_h_14 0 2 y_15 := ⟨_, rfl⟩
          have hP : va_P (dC, dI) vwCl [(h, .inr (3, [.ref h1, .int (v_h_16 0 0), .int (v_h_16 0 1), .int (v_h_16 0 2), .int (v_h_16 0 3), .int (v_h_16 0 4), .int (v_h_16 0 5)])), (h1, .inl (cI, 400, .inl (v_h_16 1)))] H := by rw [ev_h_16]; exact hP
          have hD : va_D (va_A (ww_X3_advancey dC dI cI cJ cB h h1 s.heap.size v_h0 n9 v_h1) s.heap.size) [(h, .inr (3, [.ref h1, .int (v_h_16 0 0), .int (v_h_16 0 1), .int (v_h_16 0 2), .int (v_h_16 0 3), .int (v_h_16 0 4), .int (v_h_16 0 5)])), (h1, .inl (cI, 400, .inl (v_h_16 1)))] := by rw [ev_h_16]; exact hD
          replace hf := xl_to ev_h_16 hf
          have hP9 := hP.sub (ws' := [(h, .inr (3, [.ref h1, .int (v_h_16 0 0), .int (v_h_16 0 1), .int (v_h_16 0 2), .int (v_h_16 0 3), .int (v_h_16 0 4), .int (v_h_16 0 5)])), (h1, .inl (cI, 400, .inl (v_h_16 1)))]) [0, 1] rfl
          have hD9 := hD.sub (ws' := [(h, .inr (3, [.ref h1, .int (v_h_16 0 0), .int (v_h_16 0 1), .int (v_h_16 0 2), .int (v_h_16 0 3), .int (v_h_16 0 4), .int (v_h_16 0 5)])), (h1, .inl (cI, 400, .inl (v_h_16 1)))]) [0, 1] (by decide) rfl
          have r9_0 : v_h_16 = v_h1 := (Option.some.inj hf)
          exact W.vret hx hb hr (fun t ht hW => ⟨⟨v_h_16, rfl, r9_0, by rw [ht]; exact hP9, va_K.moved hW.alike hK, hD9⟩, hS.F ht⟩) hS.2.2 dX3_advance_115
        · replace hf := xi_f c_12 hf
          refine lv_aload_n hx hb dX3_advance_88 rfl (lv_at hl 0 rfl) ?_
          replace hf := xb1_to hf
          obtain ⟨o_17, g_18, hf⟩ := hf
          have hPc := hP.sub (ws' := [(h, .inr (3, [.ref h1, .int (v_h_1 0 0), .int (v_h_1 0 1), .int (v_h_1 0 2), .int (v_h_1 0 3), .int (v_h_1 0 4), .int (v_h_1 0 5)])), (h1, .inl (cI, 400, .inl (v_h_1 1)))]) [0, 1] rfl
          have hDc := hD.sub (ws' := [(h, .inr (3, [.ref h1, .int (v_h_1 0 0), .int (v_h_1 0 1), .int (v_h_1 0 2), .int (v_h_1 0 3), .int (v_h_1 0 4), .int (v_h_1 0 5)])), (h1, .inl (cI, 400, .inl (v_h_1 1)))]) [0, 1] (by decide) rfl
          have hFc := va_free (wc := [(h, .inr (3, [.ref h1, .int (v_h_1 0 0), .int (v_h_1 0 1), .int (v_h_1 0 2), .int (v_h_1 0 3), .int (v_h_1 0 4), .int (v_h_1 0 5)])), (h1, .inl (cI, 400, .inl (v_h_1 1)))]) hD hS hA [0, 1] rfl
          refine va_callv (va_runV (As := []) (rest := []) ⟨hx, hb, hml, hown, hts⟩ (c_X3_readNumbery l dC dI cI cJ cB h h1 H.size v_h_1 n9 o_17 g_18) (cwV 0 hts go_wo_X3_advancey_3 rfl rfl rfl (by decide +kernel) ⟨Nat.le_of_ble_eq_true rfl, Nat.le_of_ble_eq_true rfl⟩) ⟨fun a U g mk q => by obtain ⟨q0, q1, qN, qP, qK, qD⟩ := q; exact ⟨q0, q1, NW.calling qN, qP, va_K.moved (u := U) (U := U.calling g mk a) (Vm.Alike.refl U.vm) qK, qD⟩, va_recv hK hPc (ci := 3) (q0 := 0) rfl rfl, fun U hU hW => ⟨rfl, by rw [hU], NW.warm hW hnw, by rw [hU]; exact hPc, va_K.moved hW.alike hK, hDc.weaken (fun _ _ _ _ => trivial)⟩⟩ rfl rfl hl.1 rfl (lv_room (Nat.le_of_ble_eq_true rfl)) dX3_advance_89 ⟨Nat.zero_le _, Nat.zero_le _⟩) hS (fun q _ h => hFc q h) hFc (fun u t H1 locs ht hvm hw hB hz1 hk1 hS => ?_)
          obtain ⟨v_h_20, rfl⟩ : ∃ z, z = u := ⟨_, rfl⟩
          obtain ⟨hP1, hK1, hD1⟩ := hB
          rw [ht] at hP1
          have hw : (v_h_20 = o_17) := hw
          subst hw
          obtain ⟨hP, hD⟩ := va_join (wr := []) (w1 := [(h, .inr (3, [.ref h1, .int (v_h_20 0 0), .int (v_h_20 0 1), .int (v_h_20 0 2), .int (v_h_20 0 3), .int (v_h_20 0 4), .int (v_h_20 0 5)])), (h1, .inl (cI, 400, .inl (v_h_20 1)))]) hP hD [0, 1] [] rfl rfl (by decide) (by decide) hk1 hFc hP1 hD1
          generalize H1 = H at hP hS ⊢
          have hP : va_P (dC, dI) vwCl [(h, .inr (3, [.ref h1, .int (v_h_20 0 0), .int (v_h_20 0 1), .int (v_h_20 0 2), .int (v_h_20 0 3), .int (v_h_20 0 4), .int (v_h_20 0 5)])), (h1, .inl (cI, 400, .inl (v_h_20 1)))] H := hP
          have hD : va_D (va_A (ww_X3_advancey dC dI cI cJ cB h h1 s.heap.size v_h0 n9 v_h1) s.heap.size) [(h, .inr (3, [.ref h1, .int (v_h_20 0 0), .int (v_h_20 0 1), .int (v_h_20 0 2), .int (v_h_20 0 3), .int (v_h_20 0 4), .int (v_h_20 0 5)])), (h1, .inl (cI, 400, .inl (v_h_20 1)))] := hD
          clear hPc hDc hFc hP1 hK1 hD1 hk1 hz1 ht hvm g_18
          refine lv_goto (tgt := 115) hx hb dX3_advance_92 (by decide) ?_
          have hP9 := hP.sub (ws' := [(h, .inr (3, [.ref h1, .int (v_h_20 0 0), .int (v_h_20 0 1), .int (v_h_20 0 2), .int (v_h_20 0 3), .int (v_h_20 0 4), .int (v_h_20 0 5)])), (h1, .inl (cI, 400, .inl (v_h_20 1)))]) [0, 1] rfl
          have hD9 := hD.sub (ws' := [(h, .inr (3, [.ref h1, .int (v_h_20 0 0), .int (v_h_20 0 1), .int (v_h_20 0 2), .int (v_h_20 0 3), .int (v_h_20 0 4), .int (v_h_20 0 5)])), (h1, .inl (cI, 400, .inl (v_h_20 1)))]) [0, 1] (by decide) rfl
          have r9_0 : v_h_20 = v_h1 := (Option.some.inj hf)
          exact W.vret hx hb hr (fun t ht hW => ⟨⟨v_h_20, rfl, r9_0, by rw [ht]; exact hP9, va_K.moved hW.alike hK, hD9⟩, hS.F ht⟩) hS.2.2 dX3_advance_115
      · replace hf := xi_f c_7 hf
        refine lv_aload_n hx hb dX3_advance_74 rfl (lv_at hl 0 rfl) ?_
        replace hf := xb1_to hf
        obtain ⟨o_22, g_23, hf⟩ := hf
        have hPc := hP.sub (ws' := [(h, .inr (3, [.ref h1, .int (v_h_1 0 0), .int (v_h_1 0 1), .int (v_h_1 0 2), .int (v_h_1 0 3), .int (v_h_1 0 4), .int (v_h_1 0 5)])), (h1, .inl (cI, 400, .inl (v_h_1 1)))]) [0, 1] rfl
        have hDc := hD.sub (ws' := [(h, .inr (3, [.ref h1, .int (v_h_1 0 0), .int (v_h_1 0 1), .int (v_h_1 0 2), .int (v_h_1 0 3), .int (v_h_1 0 4), .int (v_h_1 0 5)])), (h1, .inl (cI, 400, .inl (v_h_1 1)))]) [0, 1] (by decide) rfl
        have hFc := va_free (wc := [(h, .inr (3, [.ref h1, .int (v_h_1 0 0), .int (v_h_1 0 1), .int (v_h_1 0 2), .int (v_h_1 0 3), .int (v_h_1 0 4), .int (v_h_1 0 5)])), (h1, .inl (cI, 400, .inl (v_h_1 1)))]) hD hS hA [0, 1] rfl
        refine va_callv (va_runV (As := []) (rest := []) ⟨hx, hb, hml, hown, hts⟩ (c_X3_readWordy l dC dI cI cJ cB h h1 H.size v_h_1 n9 o_22 g_23) (cwV 0 hts go_wo_X3_advancey_4 rfl rfl rfl (by decide +kernel) ⟨Nat.le_of_ble_eq_true rfl, Nat.le_of_ble_eq_true rfl⟩) ⟨fun a U g mk q => by obtain ⟨q0, q1, qN, qP, qK, qD⟩ := q; exact ⟨q0, q1, NW.calling qN, qP, va_K.moved (u := U) (U := U.calling g mk a) (Vm.Alike.refl U.vm) qK, qD⟩, va_recv hK hPc (ci := 3) (q0 := 0) rfl rfl, fun U hU hW => ⟨rfl, by rw [hU], NW.warm hW hnw, by rw [hU]; exact hPc, va_K.moved hW.alike hK, hDc.weaken (fun _ _ _ _ => trivial)⟩⟩ rfl rfl hl.1 rfl (lv_room (Nat.le_of_ble_eq_true rfl)) dX3_advance_75 ⟨Nat.zero_le _, Nat.zero_le _⟩) hS (fun q _ h => hFc q h) hFc (fun u t H1 locs ht hvm hw hB hz1 hk1 hS => ?_)
        obtain ⟨v_h_25, rfl⟩ : ∃ z, z = u := ⟨_, rfl⟩
        obtain ⟨hP1, hK1, hD1⟩ := hB
        rw [ht] at hP1
        have hw : (v_h_25 = o_22) := hw
        subst hw
        obtain ⟨hP, hD⟩ := va_join (wr := []) (w1 := [(h, .inr (3, [.ref h1, .int (v_h_25 0 0), .int (v_h_25 0 1), .int (v_h_25 0 2), .int (v_h_25 0 3), .int (v_h_25 0 4), .int (v_h_25 0 5)])), (h1, .inl (cI, 400, .inl (v_h_25 1)))]) hP hD [0, 1] [] rfl rfl (by decide) (by decide) hk1 hFc hP1 hD1
        generalize H1 = H at hP hS ⊢
        have hP : va_P (dC, dI) vwCl [(h, .inr (3, [.ref h1, .int (v_h_25 0 0), .int (v_h_25 0 1), .int (v_h_25 0 2), .int (v_h_25 0 3), .int (v_h_25 0 4), .int (v_h_25 0 5)])), (h1, .inl (cI, 400, .inl (v_h_25 1)))] H := hP
        have hD : va_D (va_A (ww_X3_advancey dC dI cI cJ cB h h1 s.heap.size v_h0 n9 v_h1) s.heap.size) [(h, .inr (3, [.ref h1, .int (v_h_25 0 0), .int (v_h_25 0 1), .int (v_h_25 0 2), .int (v_h_25 0 3), .int (v_h_25 0 4), .int (v_h_25 0 5)])), (h1, .inl (cI, 400, .inl (v_h_25 1)))] := hD
        clear hPc hDc hFc hP1 hK1 hD1 hk1 hz1 ht hvm g_23
        refine lv_goto (tgt := 115) hx hb dX3_advance_78 (by decide) ?_
        have hP9 := hP.sub (ws' := [(h, .inr (3, [.ref h1, .int (v_h_25 0 0), .int (v_h_25 0 1), .int (v_h_25 0 2), .int (v_h_25 0 3), .int (v_h_25 0 4), .int (v_h_25 0 5)])), (h1, .inl (cI, 400, .inl (v_h_25 1)))]) [0, 1] rfl
        have hD9 := hD.sub (ws' := [(h, .inr (3, [.ref h1, .int (v_h_25 0 0), .int (v_h_25 0 1), .int (v_h_25 0 2), .int (v_h_25 0 3), .int (v_h_25 0 4), .int (v_h_25 0 5)])), (h1, .inl (cI, 400, .inl (v_h_25 1)))]) [0, 1] (by decide) rfl
        have r9_0 : v_h_25 = v_h1 := (Option.some.inj hf)
        exact W.vret hx hb hr (fun t ht hW => ⟨⟨v_h_25, rfl, r9_0, by rw [ht]; exact hP9, va_K.moved hW.alike hK, hD9⟩, hS.F ht⟩) hS.2.2 dX3_advance_115
    · replace hf := xi_f c_2 hf
      refine lv_aload_n hx hb dX3_advance_54 rfl (lv_at hl 0 rfl) ?_
      refine lv_iconst (v := 0) hx hb dX3_advance_55 (by decide) ?_
      refine va_put (D := (dC, dI)) (ci := 3) (v := .int ((0 : Int32))) (ty := .int) (C := RX3) (T := TX3) (N := 7) hx hb hts kk1_ tyX3 tyX3_ok nmX3 hown hK hP hD hS 0 rfl rfl 4 (by decide) kk3_ (fun _ h9 => h9) rfl (by decide +kernel) rfl rfl (Nat.le_of_ble_eq_true rfl) dX3_advance_56 (fun H locs hP hD hS => ?_)
      obtain ⟨v_h_27, ev_h_27⟩ : ∃ z, z = mu v_h_1 0 3 ((0 : Int32)) := ⟨_, rfl⟩
      have hP : va_P (dC, dI) vwCl [(h, .inr (3, [.ref h1, .int (v_h_27 0 0), .int (v_h_27 0 1), .int (v_h_27 0 2), .int (v_h_27 0 3), .int (v_h_27 0 4), .int (v_h_27 0 5)])), (h1, .inl (cI, 400, .inl (v_h_27 1)))] H := by rw [ev_h_27]; exact hP
      have hD : va_D (va_A (ww_X3_advancey dC dI cI cJ cB h h1 s.heap.size v_h0 n9 v_h1) s.heap.size) [(h, .inr (3, [.ref h1, .int (v_h_27 0 0), .int (v_h_27 0 1), .int (v_h_27 0 2), .int (v_h_27 0 3), .int (v_h_27 0 4), .int (v_h_27 0 5)])), (h1, .inl (cI, 400, .inl (v_h_27 1)))] := by rw [ev_h_27]; exact hD
      replace hf := xl_to ev_h_27 hf
      refine lv_aload_n hx hb dX3_advance_59 rfl (lv_at hl 0 rfl) ?_
      refine lv_iconst (v := 0) hx hb dX3_advance_60 (by decide) ?_
      refine va_put (D := (dC, dI)) (ci := 3) (v := .int ((0 : Int32))) (ty := .int) (C := RX3) (T := TX3) (N := 7) hx hb hts kk1_ tyX3 tyX3_ok nmX3 hown hK hP hD hS 0 rfl rfl 6 (by decide) kk4_ (fun _ h9 => h9) rfl (by decide +kernel) rfl rfl (Nat.le_of_ble_eq_true rfl) dX3_advance_61 (fun H locs hP hD hS => ?_)
      obtain ⟨v_h_28, ev_h_28⟩ : ∃ z, z = mu v_h_27 0 5 ((0 : Int32)) := ⟨_, rfl⟩
      have hP : va_P (dC, dI) vwCl [(h, .inr (3, [.ref h1, .int (v_h_28 0 0), .int (v_h_28 0 1), .int (v_h_28 0 2), .int (v_h_28 0 3), .int (v_h_28 0 4), .int (v_h_28 0 5)])), (h1, .inl (cI, 400, .inl (v_h_28 1)))] H := by rw [ev_h_28]; exact hP
      have hD : va_D (va_A (ww_X3_advancey dC dI cI cJ cB h h1 s.heap.size v_h0 n9 v_h1) s.heap.size) [(h, .inr (3, [.ref h1, .int (v_h_28 0 0), .int (v_h_28 0 1), .int (v_h_28 0 2), .int (v_h_28 0 3), .int (v_h_28 0 4), .int (v_h_28 0 5)])), (h1, .inl (cI, 400, .inl (v_h_28 1)))] := by rw [ev_h_28]; exact hD
      replace hf := xl_to ev_h_28 hf
      refine lv_goto (tgt := 115) hx hb dX3_advance_64 (by decide) ?_
      have hP9 := hP.sub (ws' := [(h, .inr (3, [.ref h1, .int (v_h_28 0 0), .int (v_h_28 0 1), .int (v_h_28 0 2), .int (v_h_28 0 3), .int (v_h_28 0 4), .int (v_h_28 0 5)])), (h1, .inl (cI, 400, .inl (v_h_28 1)))]) [0, 1] rfl
      have hD9 := hD.sub (ws' := [(h, .inr (3, [.ref h1, .int (v_h_28 0 0), .int (v_h_28 0 1), .int (v_h_28 0 2), .int (v_h_28 0 3), .int (v_h_28 0 4), .int (v_h_28 0 5)])), (h1, .inl (cI, 400, .inl (v_h_28 1)))]) [0, 1] (by decide) rfl
      have r9_0 : v_h_28 = v_h1 := (Option.some.inj hf)
      exact W.vret hx hb hr (fun t ht hW => ⟨⟨v_h_28, rfl, r9_0, by rw [ht]; exact hP9, va_K.moved hW.alike hK, hD9⟩, hS.F ht⟩) hS.2.2 dX3_advance_115
  have L_7 : ∀ (N_7 : Nat), ∀ (x1 : Int32) (x2 : Int32) (v_h : Nat → Nat → Int32), lx_X3_advance_7 n9 N_7 x1 x2 v_h = some (v_h1) → ∀ (H : Heap) (locs : List Loc), va_P (dC, dI) vwCl [(h, .inr (3, [.ref h1, .int (v_h 0 0), .int (v_h 0 1), .int (v_h 0 2), .int (v_h 0 3), .int (v_h 0 4), .int (v_h 0 5)])), (h1, .inl (cI, 400, .inl (v_h 1)))] H → va_D (va_A (ww_X3_advancey dC dI cI cJ cB h h1 s.heap.size v_h0 n9 v_h1) s.heap.size) [(h, .inr (3, [.ref h1, .int (v_h 0 0), .int (v_h 0 1), .int (v_h 0 2), .int (v_h 0 3), .int (v_h 0 4), .int (v_h 0 5)])), (h1, .inl (cI, 400, .inl (v_h 1)))] → va_S (va_A (ww_X3_advancey dC dI cI cJ cB h h1 s.heap.size v_h0 n9 v_h1) s.heap.size) s.heap H locs → ∀ ls : Array Slot, lv_has ls 3 [(0, .ref h), (1, .int x1), (2, .int x2)] → WW_X3_advancey p l e s m below meth c dC dI cI cJ cB h h1 s.heap.size v_h0 n9 v_h1 H locs (F0 m 7 ls []) := by
    intro N_7
    induction N_7 with
    | zero => intro x1 x2 v_h hf; exact xn_to hf
    | succ N_7 ih_7 =>
      intro x1 x2 v_h hf H locs hP hD hS ls hl
      replace hf : bx_X3_advance_7 n9 (lx_X3_advance_7 n9 N_7) x1 x2 v_h = some (v_h1) := hf
      generalize lx_X3_advance_7 n9 N_7 = k_7 at hf ih_7
      unfold bx_X3_advance_7 at hf
      refine lv_iload_n hx hb dX3_advance_7 rfl (lv_at hl 2 rfl) ?_
      refine lv_sipush (v := 400) hx hb dX3_advance_8 (by decide) ?_
      refine lv_icmp_ge (tgt := 42) hx hb dX3_advance_11 (by decide) (fun c_29 => ?_) (fun c_29 => ?_)
      · replace hf := xi_t c_29 hf
        exact J_42 x1 x2 v_h hf _ _ (hP.sub [0, 1] rfl) (hD.sub [0, 1] (by decide) rfl) hS ls (lv_sub hl [0, 1, 2] rfl)
      · replace hf := xi_f c_29 hf
        refine lv_iload_n hx hb dX3_advance_14 rfl (lv_at hl 1 rfl) ?_
        replace hf := xb1_to hf
        obtain ⟨o_30, g_31, hf⟩ := hf
        have hPc := hP.sub (ws' := []) [] rfl
        have hDc := hD.sub (ws' := []) [] (by decide) rfl
        have hFc := va_free (wc := []) hD hS hA [] rfl
        refine va_calli (va_runS (As := [.int x1]) (rest := []) ⟨hx, hb, hml, hown, hts⟩ (c_X3_isBlanky l dC dI cI cJ cB  H.size x1 n9 o_30 g_31) (va_cwS 1 hts go_wo_X3_advancey_5 rfl rfl rfl (by decide +kernel) ⟨Nat.le_of_ble_eq_true rfl, Nat.le_of_ble_eq_true rfl⟩) ⟨fun a U g mk q => by obtain ⟨q0, q1, qN, qP, qK, qD⟩ := q; exact ⟨q0, q1, NW.calling qN, qP, va_K.moved (u := U) (U := U.calling g mk a) (Vm.Alike.refl U.vm) qK, qD⟩, fun U hU hW => ⟨rfl, by rw [hU], NW.warm hW hnw, by rw [hU]; exact hPc, va_K.moved hW.alike hK, hDc.weaken (fun _ _ _ _ => trivial)⟩⟩ rfl rfl hl.1 rfl (lv_room (Nat.le_of_ble_eq_true rfl)) dX3_advance_15 ⟨Nat.zero_le _, Nat.zero_le _⟩) hS (fun q _ h => hFc q h) hFc (fun r_32 u t H1 locs ht hvm hw hB hz1 hk1 hS => ?_)
        cases u
        obtain ⟨hP1, hK1, hD1⟩ := hB
        rw [ht] at hP1
        have hw : (r_32 = o_30) := hw
        subst hw
        obtain ⟨hP, hD⟩ := va_join (wr := [(h, .inr (3, [.ref h1, .int (v_h 0 0), .int (v_h 0 1), .int (v_h 0 2), .int (v_h 0 3), .int (v_h 0 4), .int (v_h 0 5)])), (h1, .inl (cI, 400, .inl (v_h 1)))]) (w1 := []) hP hD [] [0, 1] rfl rfl (by decide) (by decide) hk1 hFc hP1 hD1
        generalize H1 = H at hP hS ⊢
        have hP : va_P (dC, dI) vwCl [(h, .inr (3, [.ref h1, .int (v_h 0 0), .int (v_h 0 1), .int (v_h 0 2), .int (v_h 0 3), .int (v_h 0 4), .int (v_h 0 5)])), (h1, .inl (cI, 400, .inl (v_h 1)))] H := hP
        have hD : va_D (va_A (ww_X3_advancey dC dI cI cJ cB h h1 s.heap.size v_h0 n9 v_h1) s.heap.size) [(h, .inr (3, [.ref h1, .int (v_h 0 0), .int (v_h 0 1), .int (v_h 0 2), .int (v_h 0 3), .int (v_h 0 4), .int (v_h 0 5)])), (h1, .inl (cI, 400, .inl (v_h 1)))] := hD
        clear hPc hDc hFc hP1 hK1 hD1 hk1 hz1 ht hvm g_31
        refine lv_if_eq (tgt := 42) hx hb dX3_advance_18 (by decide) (fun c_34 => ?_) (fun c_34 => ?_)
        · replace hf := xi_t c_34 hf
          exact J_42 x1 x2 v_h hf _ _ (hP.sub [0, 1] rfl) (hD.sub [0, 1] (by decide) rfl) hS ls (lv_sub hl [0, 1, 2] rfl)
        · replace hf := xi_f c_34 hf
          refine lv_aload_n hx hb dX3_advance_21 rfl (lv_at hl 0 rfl) ?_
          refine lv_dup hx hb dX3_advance_22 rfl ?_
          refine va_get (D := (dC, dI)) (ci := 3) (v := .int (v_h 0 2)) (C := RX3) (T := TX3) (N := 7) hx hb hts kk1_ hown hK hP 0 rfl rfl 3 (by decide) kk0_ (fun _ h9 => h9) rfl dX3_advance_23 ?_
          refine lv_iconst (v := 1) hx hb dX3_advance_26 (by decide) ?_
          refine lv_iadd hx hb dX3_advance_27 ?_
          refine lv_topi (fun y_35 ey_35 => ?_)
          replace hf := xl_to (v := (v_h 0 2) + ((1 : Int32))) ey_35 hf
          refine va_put (D := (dC, dI)) (ci := 3) (v := .int y_35) (ty := .int) (C := RX3) (T := TX3) (N := 7) hx hb hts kk1_ tyX3 tyX3_ok nmX3 hown hK hP hD hS 0 rfl rfl 3 (by decide) kk0_ (fun _ h9 => h9) rfl (by decide +kernel) rfl rfl (Nat.le_of_ble_eq_true rfl) dX3_advance_28 (fun H locs hP hD hS => ?_)
          obtain ⟨v_h_36, ev_h_36⟩ : ∃ z, z = mu v_h 0 2 y_35 := ⟨_, rfl⟩
          have hP : va_P (dC, dI) vwCl [(h, .inr (3, [.ref h1, .int (v_h_36 0 0), .int (v_h_36 0 1), .int (v_h_36 0 2), .int (v_h_36 0 3), .int (v_h_36 0 4), .int (v_h_36 0 5)])), (h1, .inl (cI, 400, .inl (v_h_36 1)))] H := by rw [ev_h_36]; exact hP
          have hD : va_D (va_A (ww_X3_advancey dC dI cI cJ cB h h1 s.heap.size v_h0 n9 v_h1) s.heap.size) [(h, .inr (3, [.ref h1, .int (v_h_36 0 0), .int (v_h_36 0 1), .int (v_h_36 0 2), .int (v_h_36 0 3), .int (v_h_36 0 4), .int (v_h_36 0 5)])), (h1, .inl (cI, 400, .inl (v_h_36 1)))] := by rw [ev_h_36]; exact hD
          replace hf := xl_to ev_h_36 hf
          refine lv_aload_n hx hb dX3_advance_31 rfl (lv_at hl 0 rfl) ?_
          replace hf := xb1_to hf
          obtain ⟨o_37, g_38, hf⟩ := hf
          have hPc := hP.sub (ws' := [(h, .inr (3, [.ref h1, .int (v_h_36 0 0), .int (v_h_36 0 1), .int (v_h_36 0 2), .int (v_h_36 0 3), .int (v_h_36 0 4), .int (v_h_36 0 5)])), (h1, .inl (cI, 400, .inl (v_h_36 1)))]) [0, 1] rfl
          have hDc := hD.sub (ws' := [(h, .inr (3, [.ref h1, .int (v_h_36 0 0), .int (v_h_36 0 1), .int (v_h_36 0 2), .int (v_h_36 0 3), .int (v_h_36 0 4), .int (v_h_36 0 5)])), (h1, .inl (cI, 400, .inl (v_h_36 1)))]) [0, 1] (by decide) rfl
          have hFc := va_free (wc := [(h, .inr (3, [.ref h1, .int (v_h_36 0 0), .int (v_h_36 0 1), .int (v_h_36 0 2), .int (v_h_36 0 3), .int (v_h_36 0 4), .int (v_h_36 0 5)])), (h1, .inl (cI, 400, .inl (v_h_36 1)))]) hD hS hA [0, 1] rfl
          refine va_calli (va_runV (As := []) (rest := []) ⟨hx, hb, hml, hown, hts⟩ (c_X3_looky l dC dI cI cJ cB h h1 H.size v_h_36 n9 o_37 g_38) (cwV 0 hts go_wo_X3_advancey_6 rfl rfl rfl (by decide +kernel) ⟨Nat.le_of_ble_eq_true rfl, Nat.le_of_ble_eq_true rfl⟩) ⟨fun a U g mk q => by obtain ⟨q0, q1, qN, qP, qK, qD⟩ := q; exact ⟨q0, q1, NW.calling qN, qP, va_K.moved (u := U) (U := U.calling g mk a) (Vm.Alike.refl U.vm) qK, qD⟩, va_recv hK hPc (ci := 3) (q0 := 0) rfl rfl, fun U hU hW => ⟨rfl, by rw [hU], NW.warm hW hnw, by rw [hU]; exact hPc, va_K.moved hW.alike hK, hDc.weaken (fun _ _ _ _ => trivial)⟩⟩ rfl rfl hl.1 rfl (lv_room (Nat.le_of_ble_eq_true rfl)) dX3_advance_32 ⟨Nat.zero_le _, Nat.zero_le _⟩) hS (fun q _ h => hFc q h) hFc (fun r_39 u t H1 locs ht hvm hw hB hz1 hk1 hS => ?_)
          cases u
          obtain ⟨hP1, hK1, hD1⟩ := hB
          rw [ht] at hP1
          have hw : (r_39 = o_37) := hw
          subst hw
          obtain ⟨hP, hD⟩ := va_join (wr := []) (w1 := [(h, .inr (3, [.ref h1, .int (v_h_36 0 0), .int (v_h_36 0 1), .int (v_h_36 0 2), .int (v_h_36 0 3), .int (v_h_36 0 4), .int (v_h_36 0 5)])), (h1, .inl (cI, 400, .inl (v_h_36 1)))]) hP hD [0, 1] [] rfl rfl (by decide) (by decide) hk1 hFc hP1 hD1
          generalize H1 = H at hP hS ⊢
          have hP : va_P (dC, dI) vwCl [(h, .inr (3, [.ref h1, .int (v_h_36 0 0), .int (v_h_36 0 1), .int (v_h_36 0 2), .int (v_h_36 0 3), .int (v_h_36 0 4), .int (v_h_36 0 5)])), (h1, .inl (cI, 400, .inl (v_h_36 1)))] H := hP
          have hD : va_D (va_A (ww_X3_advancey dC dI cI cJ cB h h1 s.heap.size v_h0 n9 v_h1) s.heap.size) [(h, .inr (3, [.ref h1, .int (v_h_36 0 0), .int (v_h_36 0 1), .int (v_h_36 0 2), .int (v_h_36 0 3), .int (v_h_36 0 4), .int (v_h_36 0 5)])), (h1, .inl (cI, 400, .inl (v_h_36 1)))] := hD
          clear hPc hDc hFc hP1 hK1 hD1 hk1 hz1 ht hvm g_38
          refine lv_istore_n (lv' := [(1, .int r_39), (0, .ref h), (2, .int x2)]) hx hb dX3_advance_35 rfl hl (by decide) rfl (fun ls hl => ?_)
          obtain ⟨x2_41, ex2_41⟩ : ∃ y : Int32, y = x2 + (1) := ⟨_, rfl⟩
          refine lv_iinc (v := x2_41) (lv' := [(2, .int x2_41), (1, .int r_39), (0, .ref h)]) hx hb dX3_advance_36 hl (k := 2) rfl (by rw [ex2_41]; rfl) (by decide) rfl (fun ls hl => ?_)
          replace hf := xl_to ex2_41 hf
          refine lv_goto (tgt := 7) hx hb dX3_advance_39 (by decide) ?_
          exact ih_7 r_39 x2_41 v_h_36 hf _ _ (hP.sub [0, 1] rfl) (hD.sub [0, 1] (by decide) rfl) hS ls (lv_sub hl [2, 1, 0] rfl)
  refine lv_aload_n hx hb dX3_advance_0 rfl (lv_at hl 0 rfl) ?_
  replace hf := xb1_to hf
  obtain ⟨o_42, g_43, hf⟩ := hf
  have hPc := hP.sub (ws' := [(h, .inr (3, [.ref h1, .int (v_h0 0 0), .int (v_h0 0 1), .int (v_h0 0 2), .int (v_h0 0 3), .int (v_h0 0 4), .int (v_h0 0 5)])), (h1, .inl (cI, 400, .inl (v_h0 1)))]) [0, 1] rfl
  have hDc := hD.sub (ws' := [(h, .inr (3, [.ref h1, .int (v_h0 0 0), .int (v_h0 0 1), .int (v_h0 0 2), .int (v_h0 0 3), .int (v_h0 0 4), .int (v_h0 0 5)])), (h1, .inl (cI, 400, .inl (v_h0 1)))]) [0, 1] (by decide) rfl
  have hFc := va_free (wc := [(h, .inr (3, [.ref h1, .int (v_h0 0 0), .int (v_h0 0 1), .int (v_h0 0 2), .int (v_h0 0 3), .int (v_h0 0 4), .int (v_h0 0 5)])), (h1, .inl (cI, 400, .inl (v_h0 1)))]) hD hS hA [0, 1] rfl
  refine va_calli (va_runV (As := []) (rest := []) ⟨hx, hb, hml, hown, hts⟩ (c_X3_looky l dC dI cI cJ cB h h1 H.size v_h0 n9 o_42 g_43) (cwV 0 hts go_wo_X3_advancey_6 rfl rfl rfl (by decide +kernel) ⟨Nat.le_of_ble_eq_true rfl, Nat.le_of_ble_eq_true rfl⟩) ⟨fun a U g mk q => by obtain ⟨q0, q1, qN, qP, qK, qD⟩ := q; exact ⟨q0, q1, NW.calling qN, qP, va_K.moved (u := U) (U := U.calling g mk a) (Vm.Alike.refl U.vm) qK, qD⟩, va_recv hK hPc (ci := 3) (q0 := 0) rfl rfl, fun U hU hW => ⟨rfl, by rw [hU], NW.warm hW hnw, by rw [hU]; exact hPc, va_K.moved hW.alike hK, hDc.weaken (fun _ _ _ _ => trivial)⟩⟩ rfl rfl hl.1 rfl (lv_room (Nat.le_of_ble_eq_true rfl)) dX3_advance_1 ⟨Nat.zero_le _, Nat.zero_le _⟩) hS (fun q _ h => hFc q h) hFc (fun r_44 u t H1 locs ht hvm hw hB hz1 hk1 hS => ?_)
  cases u
  obtain ⟨hP1, hK1, hD1⟩ := hB
  rw [ht] at hP1
  have hw : (r_44 = o_42) := hw
  subst hw
  obtain ⟨hP, hD⟩ := va_join (wr := []) (w1 := [(h, .inr (3, [.ref h1, .int (v_h0 0 0), .int (v_h0 0 1), .int (v_h0 0 2), .int (v_h0 0 3), .int (v_h0 0 4), .int (v_h0 0 5)])), (h1, .inl (cI, 400, .inl (v_h0 1)))]) hP hD [0, 1] [] rfl rfl (by decide) (by decide) hk1 hFc hP1 hD1
  generalize H1 = H at hP hS ⊢
  have hP : va_P (dC, dI) vwCl [(h, .inr (3, [.ref h1, .int (v_h0 0 0), .int (v_h0 0 1), .int (v_h0 0 2), .int (v_h0 0 3), .int (v_h0 0 4), .int (v_h0 0 5)])), (h1, .inl (cI, 400, .inl (v_h0 1)))] H := hP
  have hD : va_D (va_A (ww_X3_advancey dC dI cI cJ cB h h1 s.heap.size v_h0 n9 v_h1) s.heap.size) [(h, .inr (3, [.ref h1, .int (v_h0 0 0), .int (v_h0 0 1), .int (v_h0 0 2), .int (v_h0 0 3), .int (v_h0 0 4), .int (v_h0 0 5)])), (h1, .inl (cI, 400, .inl (v_h0 1)))] := hD
  clear hPc hDc hFc hP1 hK1 hD1 hk1 hz1 ht hvm g_43
  refine lv_istore_n (lv' := [(1, .int r_44), (0, .ref h)]) hx hb dX3_advance_4 rfl hl (by decide) rfl (fun ls hl => ?_)
  refine lv_iconst (v := 0) hx hb dX3_advance_5 (by decide) ?_
  refine lv_istore_n (lv' := [(2, .int ((0 : Int32))), (1, .int r_44), (0, .ref h)]) hx hb dX3_advance_6 rfl hl (by decide) rfl (fun ls hl => ?_)
  exact L_7 n9 r_44 ((0 : Int32)) v_h0 hf _ _ (hP.sub [0, 1] rfl) (hD.sub [0, 1] (by decide) rfl) hS ls (lv_sub hl [2, 1, 0] rfl)
def wo_X3_openy : List Cond := .code yX3_open cX3_open 1 none :: (([.fieldLink RX3 15 "SumRewriter$Scanner" "length" "I", .fieldLink RX3 23 "SumRewriter$Scanner" "limit" "I", .fieldLink RX3 26 "SumRewriter$Scanner" "at" "I"] : List Cond) ++ ((wsX30) ++ ((wsV RX3 29 RX3 yX3_advance wo_X3_advancey))))
set_option maxRecDepth 20000 in
theorem go_wo_X3_openy_1 : GoodIn wo_X3_openy (wsV RX3 29 RX3 yX3_advance wo_X3_advancey) := goodIn_sub (fun _ h => (List.mem_cons_of_mem _ (List.mem_append_right _ (List.mem_append_right _ h)))) (by decide +kernel)
abbrev ww_X3_openy (dC : Nat → ClassId) (dI : Nat → Nat → Nat) (cI cJ cB : ClassId) (h h1 : Nat) (sz : Nat) (v_h0 : Nat → Nat → Int32) (n9 : Nat) (v_h1 : Nat → Nat → Int32) : va_W := [(h, .inr (3, [.ref h1, .int (v_h0 0 0), .int (v_h0 0 1), .int (v_h0 0 2), .int (v_h0 0 3), .int (v_h0 0 4), .int (v_h0 0 5)])), (h1, .inl (cI, 400, .inl (v_h0 1)))]
abbrev at_X3_openy (dC : Nat → ClassId) (dI : Nat → Nat → Nat) (cI cJ cB : ClassId) (h h1 : Nat) (sz : Nat) (v_h0 : Nat → Nat → Int32) (n9 : Nat) (v_h1 : Nat → Nat → Int32) (u : (Nat → Nat → Int32)) (t : State) : Prop := match u with
  | v_h => va_P (dC, dI) vwCl [(h, .inr (3, [.ref h1, .int (v_h 0 0), .int (v_h 0 1), .int (v_h 0 2), .int (v_h 0 3), .int (v_h 0 4), .int (v_h 0 5)])), (h1, .inl (cI, 400, .inl (v_h 1)))] t.heap ∧ va_K (dC, dI) vwCl (tyL cI cJ cB) t ∧ va_D (va_A (ww_X3_openy dC dI cI cJ cB h h1 sz v_h0 n9 v_h1) sz) [(h, .inr (3, [.ref h1, .int (v_h 0 0), .int (v_h 0 1), .int (v_h 0 2), .int (v_h 0 3), .int (v_h 0 4), .int (v_h 0 5)])), (h1, .inl (cI, 400, .inl (v_h 1)))]
abbrev qc_X3_openy (dC : Nat → ClassId) (dI : Nat → Nat → Nat) (cI cJ cB : ClassId) (h h1 : Nat) (sz : Nat) (v_h0 : Nat → Nat → Int32) (n9 : Nat) (v_h1 : Nat → Nat → Int32) : Array Value → State → Outcome → State → Prop := va_Qv (fun (u : (Nat → Nat → Int32)) => match u with | v_h => (v_h = v_h1)) (at_X3_openy dC dI cI cJ cB h h1 sz v_h0 n9 v_h1) (va_A (ww_X3_openy dC dI cI cJ cB h h1 sz v_h0 n9 v_h1) sz)
abbrev pc_X3_openy (dC : Nat → ClassId) (dI : Nat → Nat → Nat) (cI cJ cB : ClassId) (h h1 : Nat) (sz : Nat) (v_h0 : Nat → Nat → Int32) (n9 : Nat) (v_h1 : Nat → Nat → Int32) : Array Value → State → Prop := va_Pc [.ref h] (fun U => U.heap.size = sz ∧ NW U ∧ va_P (dC, dI) vwCl (ww_X3_openy dC dI cI cJ cB h h1 sz v_h0 n9 v_h1) U.heap ∧ va_K (dC, dI) vwCl (tyL cI cJ cB) U ∧ va_D (fun _ => True) (ww_X3_openy dC dI cI cJ cB h h1 sz v_h0 n9 v_h1))
abbrev rm_X3_openy : Room := { frames := 3, cells := 0, slots := 0, locals := 64 }
abbrev WW_X3_openy (p : Program) (l : Launch) (e : Env) (s : State) (m : MethodId) (below : List Frame) (meth : Method) (c : Code) (dC : Nat → ClassId) (dI : Nat → Nat → Nat) (cI cJ cB : ClassId) (h h1 : Nat) (sz : Nat) (v_h0 : Nat → Nat → Int32) (n9 : Nat) (v_h1 : Nat → Nat → Int32) (H : Heap) (locs : List Loc) (g : JFrame) : Prop := W p l e rm_X3_openy s m ([.ref h] : List Value).toArray below meth c H locs 0 0 (MQ below (qc_X3_openy dC dI cI cJ cB h h1 sz v_h0 n9 v_h1) ([.ref h] : List Value).toArray s 0 0 (va_A (ww_X3_openy dC dI cI cJ cB h h1 sz v_h0 n9 v_h1) sz)) g
set_option maxHeartbeats 4000000 in
set_option maxRecDepth 100000 in
theorem c_X3_openy (l : Launch) (dC : Nat → ClassId) (dI : Nat → Nat → Nat) (cI cJ cB : ClassId) (h h1 : Nat) (sz : Nat) (v_h0 : Nat → Nat → Int32) (n9 : Nat) (v_h1 : Nat → Nat → Int32) (hf : fx_X3_open n9 v_h0  = some (v_h1)) : Met l yX3_open wo_X3_openy rm_X3_openy (pc_X3_openy dC dI cI cJ cB h h1 sz v_h0 n9 v_h1) (qc_X3_openy dC dI cI cJ cB h h1 sz v_h0 n9 v_h1) 0 0 (va_A (ww_X3_openy dC dI cI cJ cB h h1 sz v_h0 n9 v_h1) sz) := by
  unfold fx_X3_open at hf
  refine Met.ofW (cc := cX3_open) (maxL := 1) (ret := none) (by decide) rfl ?_
  intro p e s m args below meth c s₁ B hml hv
  obtain ⟨rfl, hsz, hnw, hP, hK, hD0⟩ := hv
  have hx := B.exec
  have hb := B.bytes
  have hr := B.returns
  have hts := atoms_spec (ws := wo_X3_openy) B.pre
  have hown : s.vm.findClass RX3 = some m.cls := findClass_of_methodNamed B.named
  have hlocks := B.notSynchronized
  clear B
  subst hsz
  have hD := hD0.self (sz := s.heap.size)
  clear hD0
  have kk0_ := hts (.fieldLink RX3 15 "SumRewriter$Scanner" "length" "I") (by decide +kernel)
  have kk1_ : ∀ w ∈ wsX30, w ∈ wo_X3_openy := fun _ h => (List.mem_cons_of_mem _ (List.mem_append_right _ (List.mem_append_left _ h)))
  have kk2_ := hts (.fieldLink RX3 23 "SumRewriter$Scanner" "limit" "I") (by decide +kernel)
  have kk3_ := hts (.fieldLink RX3 26 "SumRewriter$Scanner" "at" "I") (by decide +kernel)
  have hA : ∀ q : Nat, s.heap.size ≤ q → (va_A (ww_X3_openy dC dI cI cJ cB h h1 s.heap.size v_h0 n9 v_h1) s.heap.size) q := fun q h => Or.inr h
  have hS : va_S (va_A (ww_X3_openy dC dI cI cJ cB h h1 s.heap.size v_h0 n9 v_h1) s.heap.size) s.heap s.heap [] := va_S.rf
  have hl := lv_entry ([.ref h]) (n := 1) (Nat.le_of_ble_eq_true rfl)
  rw [lg_entry_eq]
  generalize (lg_sl ([.ref h]) ++ List.replicate (1 - (lg_sl ([.ref h])).length) Slot.unset).toArray = ls at hl ⊢
  have hl : lv_has ls 1 [(0, .ref h)] := hl
  have hP : va_P (dC, dI) vwCl [(h, .inr (3, [.ref h1, .int (v_h0 0 0), .int (v_h0 0 1), .int (v_h0 0 2), .int (v_h0 0 3), .int (v_h0 0 4), .int (v_h0 0 5)])), (h1, .inl (cI, 400, .inl (v_h0 1)))] s.heap := hP
  have hD : va_D (va_A (ww_X3_openy dC dI cI cJ cB h h1 s.heap.size v_h0 n9 v_h1) s.heap.size) [(h, .inr (3, [.ref h1, .int (v_h0 0 0), .int (v_h0 0 1), .int (v_h0 0 2), .int (v_h0 0 3), .int (v_h0 0 4), .int (v_h0 0 5)])), (h1, .inl (cI, 400, .inl (v_h0 1)))] := hD
  obtain ⟨H, hH⟩ : ∃ H, H = s.heap := ⟨_, rfl⟩
  obtain ⟨locs, hlc⟩ : ∃ L : List Loc, L = [] := ⟨_, rfl⟩
  have hS : va_S (va_A (ww_X3_openy dC dI cI cJ cB h h1 s.heap.size v_h0 n9 v_h1) s.heap.size) s.heap H locs := by rw [hH, hlc]; exact hS
  have hP : va_P (dC, dI) vwCl [(h, .inr (3, [.ref h1, .int (v_h0 0 0), .int (v_h0 0 1), .int (v_h0 0 2), .int (v_h0 0 3), .int (v_h0 0 4), .int (v_h0 0 5)])), (h1, .inl (cI, 400, .inl (v_h0 1)))] H := by rw [hH]; exact hP
  suffices hgo : WW_X3_openy p l e s m below meth c dC dI cI cJ cB h h1 s.heap.size v_h0 n9 v_h1 H locs (F0 m 0 ls []) by rw [hH, hlc] at hgo; exact hgo
  clear hH hlc
  refine lv_aload_n hx hb dX3_open_0 rfl (lv_at hl 0 rfl) ?_
  refine lv_aload_n hx hb dX3_open_1 rfl (lv_at hl 0 rfl) ?_
  refine va_get (D := (dC, dI)) (ci := 3) (v := .int (v_h0 0 0)) (C := RX3) (T := TX3) (N := 7) hx hb hts kk1_ hown hK hP 0 rfl rfl 1 (by decide) kk0_ (fun _ h9 => h9) rfl dX3_open_2 ?_
  refine va_put (D := (dC, dI)) (ci := 3) (v := .int (v_h0 0 0)) (ty := .int) (C := RX3) (T := TX3) (N := 7) hx hb hts kk1_ tyX3 tyX3_ok nmX3 hown hK hP hD hS 0 rfl rfl 2 (by decide) kk2_ (fun _ h9 => h9) rfl (by decide +kernel) rfl rfl (Nat.le_of_ble_eq_true rfl) dX3_open_5 (fun H locs hP hD hS => ?_)
  obtain ⟨v_h_1, ev_h_1⟩ : ∃ z, z = mu v_h0 0 1 (v_h0 0 0) := ⟨_, rfl⟩
  have hP : va_P (dC, dI) vwCl [(h, .inr (3, [.ref h1, .int (v_h_1 0 0), .int (v_h_1 0 1), .int (v_h_1 0 2), .int (v_h_1 0 3), .int (v_h_1 0 4), .int (v_h_1 0 5)])), (h1, .inl (cI, 400, .inl (v_h_1 1)))] H := by rw [ev_h_1]; exact hP
  have hD : va_D (va_A (ww_X3_openy dC dI cI cJ cB h h1 s.heap.size v_h0 n9 v_h1) s.heap.size) [(h, .inr (3, [.ref h1, .int (v_h_1 0 0), .int (v_h_1 0 1), .int (v_h_1 0 2), .int (v_h_1 0 3), .int (v_h_1 0 4), .int (v_h_1 0 5)])), (h1, .inl (cI, 400, .inl (v_h_1 1)))] := by rw [ev_h_1]; exact hD
  replace hf := xl_to ev_h_1 hf
  refine lv_aload_n hx hb dX3_open_8 rfl (lv_at hl 0 rfl) ?_
  refine lv_iconst (v := 0) hx hb dX3_open_9 (by decide) ?_
  refine va_put (D := (dC, dI)) (ci := 3) (v := .int ((0 : Int32))) (ty := .int) (C := RX3) (T := TX3) (N := 7) hx hb hts kk1_ tyX3 tyX3_ok nmX3 hown hK hP hD hS 0 rfl rfl 1 (by decide) kk0_ (fun _ h9 => h9) rfl (by decide +kernel) rfl rfl (Nat.le_of_ble_eq_true rfl) dX3_open_10 (fun H locs hP hD hS => ?_)
  obtain ⟨v_h_2, ev_h_2⟩ : ∃ z, z = mu v_h_1 0 0 ((0 : Int32)) := ⟨_, rfl⟩
  have hP : va_P (dC, dI) vwCl [(h, .inr (3, [.ref h1, .int (v_h_2 0 0), .int (v_h_2 0 1), .int (v_h_2 0 2), .int (v_h_2 0 3), .int (v_h_2 0 4), .int (v_h_2 0 5)])), (h1, .inl (cI, 400, .inl (v_h_2 1)))] H := by rw [ev_h_2]; exact hP
  have hD : va_D (va_A (ww_X3_openy dC dI cI cJ cB h h1 s.heap.size v_h0 n9 v_h1) s.heap.size) [(h, .inr (3, [.ref h1, .int (v_h_2 0 0), .int (v_h_2 0 1), .int (v_h_2 0 2), .int (v_h_2 0 3), .int (v_h_2 0 4), .int (v_h_2 0 5)])), (h1, .inl (cI, 400, .inl (v_h_2 1)))] := by rw [ev_h_2]; exact hD
  replace hf := xl_to ev_h_2 hf
  refine lv_aload_n hx hb dX3_open_13 rfl (lv_at hl 0 rfl) ?_
  refine lv_iconst (v := 0) hx hb dX3_open_14 (by decide) ?_
  refine va_put (D := (dC, dI)) (ci := 3) (v := .int ((0 : Int32))) (ty := .int) (C := RX3) (T := TX3) (N := 7) hx hb hts kk1_ tyX3 tyX3_ok nmX3 hown hK hP hD hS 0 rfl rfl 3 (by decide) kk3_ (fun _ h9 => h9) rfl (by decide +kernel) rfl rfl (Nat.le_of_ble_eq_true rfl) dX3_open_15 (fun H locs hP hD hS => ?_)
  obtain ⟨v_h_3, ev_h_3⟩ : ∃ z, z = mu v_h_2 0 2 ((0 : Int32)) := ⟨_, rfl⟩
  have hP : va_P (dC, dI) vwCl [(h, .inr (3, [.ref h1, .int (v_h_3 0 0), .int (v_h_3 0 1), .int (v_h_3 0 2), .int (v_h_3 0 3), .int (v_h_3 0 4), .int (v_h_3 0 5)])), (h1, .inl (cI, 400, .inl (v_h_3 1)))] H := by rw [ev_h_3]; exact hP
  have hD : va_D (va_A (ww_X3_openy dC dI cI cJ cB h h1 s.heap.size v_h0 n9 v_h1) s.heap.size) [(h, .inr (3, [.ref h1, .int (v_h_3 0 0), .int (v_h_3 0 1), .int (v_h_3 0 2), .int (v_h_3 0 3), .int (v_h_3 0 4), .int (v_h_3 0 5)])), (h1, .inl (cI, 400, .inl (v_h_3 1)))] := by rw [ev_h_3]; exact hD
  replace hf := xl_to ev_h_3 hf
  refine lv_aload_n hx hb dX3_open_18 rfl (lv_at hl 0 rfl) ?_
  replace hf := xb1_to hf
  obtain ⟨o_4, g_5, hf⟩ := hf
  have hPc := hP.sub (ws' := [(h, .inr (3, [.ref h1, .int (v_h_3 0 0), .int (v_h_3 0 1), .int (v_h_3 0 2), .int (v_h_3 0 3), .int (v_h_3 0 4), .int (v_h_3 0 5)])), (h1, .inl (cI, 400, .inl (v_h_3 1)))]) [0, 1] rfl
  have hDc := hD.sub (ws' := [(h, .inr (3, [.ref h1, .int (v_h_3 0 0), .int (v_h_3 0 1), .int (v_h_3 0 2), .int (v_h_3 0 3), .int (v_h_3 0 4), .int (v_h_3 0 5)])), (h1, .inl (cI, 400, .inl (v_h_3 1)))]) [0, 1] (by decide) rfl
  have hFc := va_free (wc := [(h, .inr (3, [.ref h1, .int (v_h_3 0 0), .int (v_h_3 0 1), .int (v_h_3 0 2), .int (v_h_3 0 3), .int (v_h_3 0 4), .int (v_h_3 0 5)])), (h1, .inl (cI, 400, .inl (v_h_3 1)))]) hD hS hA [0, 1] rfl
  refine va_callv (va_runV (As := []) (rest := []) ⟨hx, hb, hml, hown, hts⟩ (c_X3_advancey l dC dI cI cJ cB h h1 H.size v_h_3 n9 o_4 g_5) (cwV 0 hts go_wo_X3_openy_1 rfl rfl rfl (by decide +kernel) ⟨Nat.le_of_ble_eq_true rfl, Nat.le_of_ble_eq_true rfl⟩) ⟨fun a U g mk q => by obtain ⟨q0, q1, qN, qP, qK, qD⟩ := q; exact ⟨q0, q1, NW.calling qN, qP, va_K.moved (u := U) (U := U.calling g mk a) (Vm.Alike.refl U.vm) qK, qD⟩, va_recv hK hPc (ci := 3) (q0 := 0) rfl rfl, fun U hU hW => ⟨rfl, by rw [hU], NW.warm hW hnw, by rw [hU]; exact hPc, va_K.moved hW.alike hK, hDc.weaken (fun _ _ _ _ => trivial)⟩⟩ rfl rfl hl.1 rfl (lv_room (Nat.le_of_ble_eq_true rfl)) dX3_open_19 ⟨Nat.zero_le _, Nat.zero_le _⟩) hS (fun q _ h => hFc q h) hFc (fun u t H1 locs ht hvm hw hB hz1 hk1 hS => ?_)
  obtain ⟨v_h_7, rfl⟩ : ∃ z, z = u := ⟨_, rfl⟩
  obtain ⟨hP1, hK1, hD1⟩ := hB
  rw [ht] at hP1
  have hw : (v_h_7 = o_4) := hw
  subst hw
  obtain ⟨hP, hD⟩ := va_join (wr := []) (w1 := [(h, .inr (3, [.ref h1, .int (v_h_7 0 0), .int (v_h_7 0 1), .int (v_h_7 0 2), .int (v_h_7 0 3), .int (v_h_7 0 4), .int (v_h_7 0 5)])), (h1, .inl (cI, 400, .inl (v_h_7 1)))]) hP hD [0, 1] [] rfl rfl (by decide) (by decide) hk1 hFc hP1 hD1
  generalize H1 = H at hP hS ⊢
  have hP : va_P (dC, dI) vwCl [(h, .inr (3, [.ref h1, .int (v_h_7 0 0), .int (v_h_7 0 1), .int (v_h_7 0 2), .int (v_h_7 0 3), .int (v_h_7 0 4), .int (v_h_7 0 5)])), (h1, .inl (cI, 400, .inl (v_h_7 1)))] H := hP
  have hD : va_D (va_A (ww_X3_openy dC dI cI cJ cB h h1 s.heap.size v_h0 n9 v_h1) s.heap.size) [(h, .inr (3, [.ref h1, .int (v_h_7 0 0), .int (v_h_7 0 1), .int (v_h_7 0 2), .int (v_h_7 0 3), .int (v_h_7 0 4), .int (v_h_7 0 5)])), (h1, .inl (cI, 400, .inl (v_h_7 1)))] := hD
  clear hPc hDc hFc hP1 hK1 hD1 hk1 hz1 ht hvm g_5
  have hP9 := hP.sub (ws' := [(h, .inr (3, [.ref h1, .int (v_h_7 0 0), .int (v_h_7 0 1), .int (v_h_7 0 2), .int (v_h_7 0 3), .int (v_h_7 0 4), .int (v_h_7 0 5)])), (h1, .inl (cI, 400, .inl (v_h_7 1)))]) [0, 1] rfl
  have hD9 := hD.sub (ws' := [(h, .inr (3, [.ref h1, .int (v_h_7 0 0), .int (v_h_7 0 1), .int (v_h_7 0 2), .int (v_h_7 0 3), .int (v_h_7 0 4), .int (v_h_7 0 5)])), (h1, .inl (cI, 400, .inl (v_h_7 1)))]) [0, 1] (by decide) rfl
  have r9_0 : v_h_7 = v_h1 := (Option.some.inj hf)
  exact W.vret hx hb hr (fun t ht hW => ⟨⟨v_h_7, rfl, r9_0, by rw [ht]; exact hP9, va_K.moved hW.alike hK, hD9⟩, hS.F ht⟩) hS.2.2 dX3_open_22
def wo_J6_compare_7cf53y : List Cond := .code yJ6_compare_7cf53 cJ6_compare_7cf53 2 (some .int) :: (([] : List Cond))
abbrev ww_J6_compare_7cf53y (dC : Nat → ClassId) (dI : Nat → Nat → Nat) (cI cJ cB : ClassId) (sz : Nat) (p0 : Int32) (p1 : Int32) (n9 : Nat) (r1 : Int32) : va_W := []
abbrev at_J6_compare_7cf53y (dC : Nat → ClassId) (dI : Nat → Nat → Nat) (cI cJ cB : ClassId) (sz : Nat) (p0 : Int32) (p1 : Int32) (n9 : Nat) (r1 : Int32) (u : Unit) (t : State) : Prop := match u with
  | () => va_P (dC, dI) vwCl [] t.heap ∧ va_K (dC, dI) vwCl (tyL cI cJ cB) t ∧ va_D (va_A (ww_J6_compare_7cf53y dC dI cI cJ cB  sz p0 p1 n9 r1) sz) []
abbrev qc_J6_compare_7cf53y (dC : Nat → ClassId) (dI : Nat → Nat → Nat) (cI cJ cB : ClassId) (sz : Nat) (p0 : Int32) (p1 : Int32) (n9 : Nat) (r1 : Int32) : Array Value → State → Outcome → State → Prop := va_Qi (fun (r : Int32) (u : Unit) => match u with | () => (r = r1)) (at_J6_compare_7cf53y dC dI cI cJ cB  sz p0 p1 n9 r1) (va_A (ww_J6_compare_7cf53y dC dI cI cJ cB  sz p0 p1 n9 r1) sz)
abbrev pc_J6_compare_7cf53y (dC : Nat → ClassId) (dI : Nat → Nat → Nat) (cI cJ cB : ClassId) (sz : Nat) (p0 : Int32) (p1 : Int32) (n9 : Nat) (r1 : Int32) : Array Value → State → Prop := va_Pc [.int p0, .int p1] (fun U => U.heap.size = sz ∧ NW U ∧ va_P (dC, dI) vwCl (ww_J6_compare_7cf53y dC dI cI cJ cB  sz p0 p1 n9 r1) U.heap ∧ va_K (dC, dI) vwCl (tyL cI cJ cB) U ∧ va_D (fun _ => True) (ww_J6_compare_7cf53y dC dI cI cJ cB  sz p0 p1 n9 r1))
abbrev rm_J6_compare_7cf53y : Room := { frames := 0, cells := 0, slots := 0, locals := 0 }
abbrev WW_J6_compare_7cf53y (p : Program) (l : Launch) (e : Env) (s : State) (m : MethodId) (below : List Frame) (meth : Method) (c : Code) (dC : Nat → ClassId) (dI : Nat → Nat → Nat) (cI cJ cB : ClassId) (sz : Nat) (p0 : Int32) (p1 : Int32) (n9 : Nat) (r1 : Int32) (H : Heap) (locs : List Loc) (g : JFrame) : Prop := W p l e rm_J6_compare_7cf53y s m ([.int p0, .int p1] : List Value).toArray below meth c H locs 0 0 (MQ below (qc_J6_compare_7cf53y dC dI cI cJ cB  sz p0 p1 n9 r1) ([.int p0, .int p1] : List Value).toArray s 0 0 (va_A (ww_J6_compare_7cf53y dC dI cI cJ cB  sz p0 p1 n9 r1) sz)) g
set_option maxHeartbeats 4000000 in
set_option maxRecDepth 100000 in
theorem c_J6_compare_7cf53y (l : Launch) (dC : Nat → ClassId) (dI : Nat → Nat → Nat) (cI cJ cB : ClassId) (sz : Nat) (p0 : Int32) (p1 : Int32) (n9 : Nat) (r1 : Int32) (hf : fx_J6_compare_7cf53 n9 p0 p1 = some (r1)) : Met l yJ6_compare_7cf53 wo_J6_compare_7cf53y rm_J6_compare_7cf53y (pc_J6_compare_7cf53y dC dI cI cJ cB  sz p0 p1 n9 r1) (qc_J6_compare_7cf53y dC dI cI cJ cB  sz p0 p1 n9 r1) 0 0 (va_A (ww_J6_compare_7cf53y dC dI cI cJ cB  sz p0 p1 n9 r1) sz) := by
  unfold fx_J6_compare_7cf53 at hf
  refine Met.ofW (cc := cJ6_compare_7cf53) (maxL := 2) (ret := (some .int)) (by decide) rfl ?_
  intro p e s m args below meth c s₁ B hml hv
  obtain ⟨rfl, hsz, hnw, hP, hK, hD0⟩ := hv
  have hx := B.exec
  have hb := B.bytes
  have hr := B.returns
  have hts := atoms_spec (ws := wo_J6_compare_7cf53y) B.pre
  have hown : s.vm.findClass RJ6 = some m.cls := findClass_of_methodNamed B.named
  have hlocks := B.notSynchronized
  clear B
  subst hsz
  have hD := hD0.self (sz := s.heap.size)
  clear hD0
  have hA : ∀ q : Nat, s.heap.size ≤ q → (va_A (ww_J6_compare_7cf53y dC dI cI cJ cB  s.heap.size p0 p1 n9 r1) s.heap.size) q := fun q h => Or.inr h
  have hS : va_S (va_A (ww_J6_compare_7cf53y dC dI cI cJ cB  s.heap.size p0 p1 n9 r1) s.heap.size) s.heap s.heap [] := va_S.rf
  have hl := lv_entry ([.int p0, .int p1]) (n := 2) (Nat.le_of_ble_eq_true rfl)
  rw [lg_entry_eq]
  generalize (lg_sl ([.int p0, .int p1]) ++ List.replicate (2 - (lg_sl ([.int p0, .int p1])).length) Slot.unset).toArray = ls at hl ⊢
  have hl : lv_has ls 2 [(0, .int p0), (1, .int p1)] := hl
  have hP : va_P (dC, dI) vwCl [] s.heap := hP
  have hD : va_D (va_A (ww_J6_compare_7cf53y dC dI cI cJ cB  s.heap.size p0 p1 n9 r1) s.heap.size) [] := hD
  obtain ⟨H, hH⟩ : ∃ H, H = s.heap := ⟨_, rfl⟩
  obtain ⟨locs, hlc⟩ : ∃ L : List Loc, L = [] := ⟨_, rfl⟩
  have hS : va_S (va_A (ww_J6_compare_7cf53y dC dI cI cJ cB  s.heap.size p0 p1 n9 r1) s.heap.size) s.heap H locs := by rw [hH, hlc]; exact hS
  have hP : va_P (dC, dI) vwCl [] H := by rw [hH]; exact hP
  suffices hgo : WW_J6_compare_7cf53y p l e s m below meth c dC dI cI cJ cB  s.heap.size p0 p1 n9 r1 H locs (F0 m 0 ls []) by rw [hH, hlc] at hgo; exact hgo
  clear hH hlc
  refine lv_iload_n hx hb dJ6_compare_7cf53_0 rfl (lv_at hl 0 rfl) ?_
  refine lv_iload_n hx hb dJ6_compare_7cf53_1 rfl (lv_at hl 1 rfl) ?_
  refine lv_icmp_ge (tgt := 9) hx hb dJ6_compare_7cf53_2 (by decide) (fun c_1 => ?_) (fun c_1 => ?_)
  · replace hf := xi_t c_1 hf
    refine lv_iload_n hx hb dJ6_compare_7cf53_9 rfl (lv_at hl 0 rfl) ?_
    refine lv_iload_n hx hb dJ6_compare_7cf53_10 rfl (lv_at hl 1 rfl) ?_
    refine lv_icmp_ne (tgt := 18) hx hb dJ6_compare_7cf53_11 (by decide) (fun c_2 => ?_) (fun c_2 => ?_)
    · replace hf := xi_f c_2 hf
      refine lv_iconst (v := 1) hx hb dJ6_compare_7cf53_18 (by decide) ?_
      have hP9 := hP.sub (ws' := []) [] rfl
      have hD9 := hD.sub (ws' := []) [] (by decide) rfl
      have r9_0 : (1 : Int32) = r1 := (Option.some.inj hf)
      exact W.iret (v := (1 : Int32)) hx hb hr (fun t ht hW => ⟨⟨(1 : Int32), (), rfl, r9_0, by rw [ht]; exact hP9, va_K.moved hW.alike hK, hD9⟩, hS.F ht⟩) hS.2.2 dJ6_compare_7cf53_19
    · replace hf := xi_t c_2 hf
      refine lv_iconst (v := 0) hx hb dJ6_compare_7cf53_14 (by decide) ?_
      refine lv_goto (tgt := 19) hx hb dJ6_compare_7cf53_15 (by decide) ?_
      have hP9 := hP.sub (ws' := []) [] rfl
      have hD9 := hD.sub (ws' := []) [] (by decide) rfl
      have r9_0 : (0 : Int32) = r1 := (Option.some.inj hf)
      exact W.iret (v := (0 : Int32)) hx hb hr (fun t ht hW => ⟨⟨(0 : Int32), (), rfl, r9_0, by rw [ht]; exact hP9, va_K.moved hW.alike hK, hD9⟩, hS.F ht⟩) hS.2.2 dJ6_compare_7cf53_19
  · replace hf := xi_f c_1 hf
    refine lv_iconst (v := -1) hx hb dJ6_compare_7cf53_5 (by decide) ?_
    refine lv_goto (tgt := 19) hx hb dJ6_compare_7cf53_6 (by decide) ?_
    have hP9 := hP.sub (ws' := []) [] rfl
    have hD9 := hD.sub (ws' := []) [] (by decide) rfl
    have r9_0 : (-1 : Int32) = r1 := (Option.some.inj hf)
    exact W.iret (v := (-1 : Int32)) hx hb hr (fun t ht hW => ⟨⟨(-1 : Int32), (), rfl, r9_0, by rw [ht]; exact hP9, va_K.moved hW.alike hK, hD9⟩, hS.F ht⟩) hS.2.2 dJ6_compare_7cf53_19
def wo_J6_bitCount_0f7a4y : List Cond := .code yJ6_bitCount_0f7a4 cJ6_bitCount_0f7a4 1 (some .int) :: (([.constant RJ6 265 (1431655765), .constant RJ6 266 (858993459), .constant RJ6 267 (252645135)] : List Cond))
abbrev ww_J6_bitCount_0f7a4y (dC : Nat → ClassId) (dI : Nat → Nat → Nat) (cI cJ cB : ClassId) (sz : Nat) (p0 : Int32) (n9 : Nat) (r1 : Int32) : va_W := []
abbrev at_J6_bitCount_0f7a4y (dC : Nat → ClassId) (dI : Nat → Nat → Nat) (cI cJ cB : ClassId) (sz : Nat) (p0 : Int32) (n9 : Nat) (r1 : Int32) (u : Unit) (t : State) : Prop := match u with
  | () => va_P (dC, dI) vwCl [] t.heap ∧ va_K (dC, dI) vwCl (tyL cI cJ cB) t ∧ va_D (va_A (ww_J6_bitCount_0f7a4y dC dI cI cJ cB  sz p0 n9 r1) sz) []
abbrev qc_J6_bitCount_0f7a4y (dC : Nat → ClassId) (dI : Nat → Nat → Nat) (cI cJ cB : ClassId) (sz : Nat) (p0 : Int32) (n9 : Nat) (r1 : Int32) : Array Value → State → Outcome → State → Prop := va_Qi (fun (r : Int32) (u : Unit) => match u with | () => (r = r1)) (at_J6_bitCount_0f7a4y dC dI cI cJ cB  sz p0 n9 r1) (va_A (ww_J6_bitCount_0f7a4y dC dI cI cJ cB  sz p0 n9 r1) sz)
abbrev pc_J6_bitCount_0f7a4y (dC : Nat → ClassId) (dI : Nat → Nat → Nat) (cI cJ cB : ClassId) (sz : Nat) (p0 : Int32) (n9 : Nat) (r1 : Int32) : Array Value → State → Prop := va_Pc [.int p0] (fun U => U.heap.size = sz ∧ NW U ∧ va_P (dC, dI) vwCl (ww_J6_bitCount_0f7a4y dC dI cI cJ cB  sz p0 n9 r1) U.heap ∧ va_K (dC, dI) vwCl (tyL cI cJ cB) U ∧ va_D (fun _ => True) (ww_J6_bitCount_0f7a4y dC dI cI cJ cB  sz p0 n9 r1))
abbrev rm_J6_bitCount_0f7a4y : Room := { frames := 0, cells := 0, slots := 0, locals := 0 }
abbrev WW_J6_bitCount_0f7a4y (p : Program) (l : Launch) (e : Env) (s : State) (m : MethodId) (below : List Frame) (meth : Method) (c : Code) (dC : Nat → ClassId) (dI : Nat → Nat → Nat) (cI cJ cB : ClassId) (sz : Nat) (p0 : Int32) (n9 : Nat) (r1 : Int32) (H : Heap) (locs : List Loc) (g : JFrame) : Prop := W p l e rm_J6_bitCount_0f7a4y s m ([.int p0] : List Value).toArray below meth c H locs 0 0 (MQ below (qc_J6_bitCount_0f7a4y dC dI cI cJ cB  sz p0 n9 r1) ([.int p0] : List Value).toArray s 0 0 (va_A (ww_J6_bitCount_0f7a4y dC dI cI cJ cB  sz p0 n9 r1) sz)) g
set_option maxHeartbeats 4000000 in
set_option maxRecDepth 100000 in
theorem c_J6_bitCount_0f7a4y (l : Launch) (dC : Nat → ClassId) (dI : Nat → Nat → Nat) (cI cJ cB : ClassId) (sz : Nat) (p0 : Int32) (n9 : Nat) (r1 : Int32) (hf : fx_J6_bitCount_0f7a4 n9 p0 = some (r1)) : Met l yJ6_bitCount_0f7a4 wo_J6_bitCount_0f7a4y rm_J6_bitCount_0f7a4y (pc_J6_bitCount_0f7a4y dC dI cI cJ cB  sz p0 n9 r1) (qc_J6_bitCount_0f7a4y dC dI cI cJ cB  sz p0 n9 r1) 0 0 (va_A (ww_J6_bitCount_0f7a4y dC dI cI cJ cB  sz p0 n9 r1) sz) := by
  unfold fx_J6_bitCount_0f7a4 at hf
  refine Met.ofW (cc := cJ6_bitCount_0f7a4) (maxL := 1) (ret := (some .int)) (by decide) rfl ?_
  intro p e s m args below meth c s₁ B hml hv
  obtain ⟨rfl, hsz, hnw, hP, hK, hD0⟩ := hv
  have hx := B.exec
  have hb := B.bytes
  have hr := B.returns
  have hts := atoms_spec (ws := wo_J6_bitCount_0f7a4y) B.pre
  have hown : s.vm.findClass RJ6 = some m.cls := findClass_of_methodNamed B.named
  have hlocks := B.notSynchronized
  clear B
  subst hsz
  have hD := hD0.self (sz := s.heap.size)
  clear hD0
  have kk0_ := hts (.constant RJ6 265 (1431655765)) (by decide +kernel)
  have kk1_ := hts (.constant RJ6 266 (858993459)) (by decide +kernel)
  have kk2_ := hts (.constant RJ6 267 (252645135)) (by decide +kernel)
  have hA : ∀ q : Nat, s.heap.size ≤ q → (va_A (ww_J6_bitCount_0f7a4y dC dI cI cJ cB  s.heap.size p0 n9 r1) s.heap.size) q := fun q h => Or.inr h
  have hS : va_S (va_A (ww_J6_bitCount_0f7a4y dC dI cI cJ cB  s.heap.size p0 n9 r1) s.heap.size) s.heap s.heap [] := va_S.rf
  have hl := lv_entry ([.int p0]) (n := 1) (Nat.le_of_ble_eq_true rfl)
  rw [lg_entry_eq]
  generalize (lg_sl ([.int p0]) ++ List.replicate (1 - (lg_sl ([.int p0])).length) Slot.unset).toArray = ls at hl ⊢
  have hl : lv_has ls 1 [(0, .int p0)] := hl
  have hP : va_P (dC, dI) vwCl [] s.heap := hP
  have hD : va_D (va_A (ww_J6_bitCount_0f7a4y dC dI cI cJ cB  s.heap.size p0 n9 r1) s.heap.size) [] := hD
  obtain ⟨H, hH⟩ : ∃ H, H = s.heap := ⟨_, rfl⟩
  obtain ⟨locs, hlc⟩ : ∃ L : List Loc, L = [] := ⟨_, rfl⟩
  have hS : va_S (va_A (ww_J6_bitCount_0f7a4y dC dI cI cJ cB  s.heap.size p0 n9 r1) s.heap.size) s.heap H locs := by rw [hH, hlc]; exact hS
  have hP : va_P (dC, dI) vwCl [] H := by rw [hH]; exact hP
  suffices hgo : WW_J6_bitCount_0f7a4y p l e s m below meth c dC dI cI cJ cB  s.heap.size p0 n9 r1 H locs (F0 m 0 ls []) by rw [hH, hlc] at hgo; exact hgo
  clear hH hlc
  refine lv_iload_n hx hb dJ6_bitCount_0f7a4_0 rfl (lv_at hl 0 rfl) ?_
  refine lv_iload_n hx hb dJ6_bitCount_0f7a4_1 rfl (lv_at hl 0 rfl) ?_
  refine lv_iconst (v := 1) hx hb dJ6_bitCount_0f7a4_2 (by decide) ?_
  refine lv_iushr hx hb dJ6_bitCount_0f7a4_3 rfl ?_
  refine lv_topi (fun y_1 ey_1 => ?_)
  replace hf := xl_to (v := (p0.toUInt32 >>> (((1 : Int32)).toUInt32 &&& Int32.toUInt32 31)).toInt32) ey_1 hf
  refine lv_ldcw (v := 1431655765) hx hb hown kk0_ dJ6_bitCount_0f7a4_4 ?_
  refine lv_iand hx hb dJ6_bitCount_0f7a4_7 ?_
  refine lv_topi (fun y_2 ey_2 => ?_)
  replace hf := xl_to (v := y_1 &&& ((1431655765 : Int32))) ey_2 hf
  refine lv_isub hx hb dJ6_bitCount_0f7a4_8 ?_
  refine lv_topi (fun y_3 ey_3 => ?_)
  replace hf := xl_to (v := p0 - y_2) ey_3 hf
  refine lv_istore_n (lv' := [(0, .int y_3)]) hx hb dJ6_bitCount_0f7a4_9 rfl hl (by decide) rfl (fun ls hl => ?_)
  refine lv_iload_n hx hb dJ6_bitCount_0f7a4_10 rfl (lv_at hl 0 rfl) ?_
  refine lv_ldcw (v := 858993459) hx hb hown kk1_ dJ6_bitCount_0f7a4_11 ?_
  refine lv_iand hx hb dJ6_bitCount_0f7a4_14 ?_
  refine lv_topi (fun y_4 ey_4 => ?_)
  replace hf := xl_to (v := y_3 &&& ((858993459 : Int32))) ey_4 hf
  refine lv_iload_n hx hb dJ6_bitCount_0f7a4_15 rfl (lv_at hl 0 rfl) ?_
  refine lv_iconst (v := 2) hx hb dJ6_bitCount_0f7a4_16 (by decide) ?_
  refine lv_iushr hx hb dJ6_bitCount_0f7a4_17 rfl ?_
  refine lv_topi (fun y_5 ey_5 => ?_)
  replace hf := xl_to (v := (y_3.toUInt32 >>> (((2 : Int32)).toUInt32 &&& Int32.toUInt32 31)).toInt32) ey_5 hf
  refine lv_ldcw (v := 858993459) hx hb hown kk1_ dJ6_bitCount_0f7a4_18 ?_
  refine lv_iand hx hb dJ6_bitCount_0f7a4_21 ?_
  refine lv_topi (fun y_6 ey_6 => ?_)
  replace hf := xl_to (v := y_5 &&& ((858993459 : Int32))) ey_6 hf
  refine lv_iadd hx hb dJ6_bitCount_0f7a4_22 ?_
  refine lv_topi (fun y_7 ey_7 => ?_)
  replace hf := xl_to (v := y_4 + y_6) ey_7 hf
  refine lv_istore_n (lv' := [(0, .int y_7)]) hx hb dJ6_bitCount_0f7a4_23 rfl hl (by decide) rfl (fun ls hl => ?_)
  refine lv_iload_n hx hb dJ6_bitCount_0f7a4_24 rfl (lv_at hl 0 rfl) ?_
  refine lv_iload_n hx hb dJ6_bitCount_0f7a4_25 rfl (lv_at hl 0 rfl) ?_
  refine lv_iconst (v := 4) hx hb dJ6_bitCount_0f7a4_26 (by decide) ?_
  refine lv_iushr hx hb dJ6_bitCount_0f7a4_27 rfl ?_
  refine lv_topi (fun y_8 ey_8 => ?_)
  replace hf := xl_to (v := (y_7.toUInt32 >>> (((4 : Int32)).toUInt32 &&& Int32.toUInt32 31)).toInt32) ey_8 hf
  refine lv_iadd hx hb dJ6_bitCount_0f7a4_28 ?_
  refine lv_topi (fun y_9 ey_9 => ?_)
  replace hf := xl_to (v := y_7 + y_8) ey_9 hf
  refine lv_ldcw (v := 252645135) hx hb hown kk2_ dJ6_bitCount_0f7a4_29 ?_
  refine lv_iand hx hb dJ6_bitCount_0f7a4_32 ?_
  refine lv_topi (fun y_10 ey_10 => ?_)
  replace hf := xl_to (v := y_9 &&& ((252645135 : Int32))) ey_10 hf
  refine lv_istore_n (lv' := [(0, .int y_10)]) hx hb dJ6_bitCount_0f7a4_33 rfl hl (by decide) rfl (fun ls hl => ?_)
  refine lv_iload_n hx hb dJ6_bitCount_0f7a4_34 rfl (lv_at hl 0 rfl) ?_
  refine lv_iload_n hx hb dJ6_bitCount_0f7a4_35 rfl (lv_at hl 0 rfl) ?_
  refine lv_bipush (v := 8) hx hb dJ6_bitCount_0f7a4_36 (by decide) ?_
  refine lv_iushr hx hb dJ6_bitCount_0f7a4_38 rfl ?_
  refine lv_topi (fun y_11 ey_11 => ?_)
  replace hf := xl_to (v := (y_10.toUInt32 >>> (((8 : Int32)).toUInt32 &&& Int32.toUInt32 31)).toInt32) ey_11 hf
  refine lv_iadd hx hb dJ6_bitCount_0f7a4_39 ?_
  refine lv_topi (fun y_12 ey_12 => ?_)
  replace hf := xl_to (v := y_10 + y_11) ey_12 hf
  refine lv_istore_n (lv' := [(0, .int y_12)]) hx hb dJ6_bitCount_0f7a4_40 rfl hl (by decide) rfl (fun ls hl => ?_)
  refine lv_iload_n hx hb dJ6_bitCount_0f7a4_41 rfl (lv_at hl 0 rfl) ?_
  refine lv_iload_n hx hb dJ6_bitCount_0f7a4_42 rfl (lv_at hl 0 rfl) ?_
  refine lv_bipush (v := 16) hx hb dJ6_bitCount_0f7a4_43 (by decide) ?_
  refine lv_iushr hx hb dJ6_bitCount_0f7a4_45 rfl ?_
  refine lv_topi (fun y_13 ey_13 => ?_)
  replace hf := xl_to (v := (y_12.toUInt32 >>> (((16 : Int32)).toUInt32 &&& Int32.toUInt32 31)).toInt32) ey_13 hf
  refine lv_iadd hx hb dJ6_bitCount_0f7a4_46 ?_
  refine lv_topi (fun y_14 ey_14 => ?_)
  replace hf := xl_to (v := y_12 + y_13) ey_14 hf
  refine lv_istore_n (lv' := [(0, .int y_14)]) hx hb dJ6_bitCount_0f7a4_47 rfl hl (by decide) rfl (fun ls hl => ?_)
  refine lv_iload_n hx hb dJ6_bitCount_0f7a4_48 rfl (lv_at hl 0 rfl) ?_
  refine lv_bipush (v := 63) hx hb dJ6_bitCount_0f7a4_49 (by decide) ?_
  refine lv_iand hx hb dJ6_bitCount_0f7a4_51 ?_
  refine lv_topi (fun y_15 ey_15 => ?_)
  replace hf := xl_to (v := y_14 &&& ((63 : Int32))) ey_15 hf
  have hP9 := hP.sub (ws' := []) [] rfl
  have hD9 := hD.sub (ws' := []) [] (by decide) rfl
  have r9_0 : y_15 = r1 := (Option.some.inj hf)
  exact W.iret (v := y_15) hx hb hr (fun t ht hW => ⟨⟨y_15, (), rfl, r9_0, by rw [ht]; exact hP9, va_K.moved hW.alike hK, hD9⟩, hS.F ht⟩) hS.2.2 dJ6_bitCount_0f7a4_52
def wo_J6_numberOfTrailingZeros_0f7a4y : List Cond := .code yJ6_numberOfTrailingZeros_0f7a4 cJ6_numberOfTrailingZeros_0f7a4 2 (some .int) :: (([.constant RJ6 264 (65536)] : List Cond))
abbrev ww_J6_numberOfTrailingZeros_0f7a4y (dC : Nat → ClassId) (dI : Nat → Nat → Nat) (cI cJ cB : ClassId) (sz : Nat) (p0 : Int32) (n9 : Nat) (r1 : Int32) : va_W := []
abbrev at_J6_numberOfTrailingZeros_0f7a4y (dC : Nat → ClassId) (dI : Nat → Nat → Nat) (cI cJ cB : ClassId) (sz : Nat) (p0 : Int32) (n9 : Nat) (r1 : Int32) (u : Unit) (t : State) : Prop := match u with
  | () => va_P (dC, dI) vwCl [] t.heap ∧ va_K (dC, dI) vwCl (tyL cI cJ cB) t ∧ va_D (va_A (ww_J6_numberOfTrailingZeros_0f7a4y dC dI cI cJ cB  sz p0 n9 r1) sz) []
abbrev qc_J6_numberOfTrailingZeros_0f7a4y (dC : Nat → ClassId) (dI : Nat → Nat → Nat) (cI cJ cB : ClassId) (sz : Nat) (p0 : Int32) (n9 : Nat) (r1 : Int32) : Array Value → State → Outcome → State → Prop := va_Qi (fun (r : Int32) (u : Unit) => match u with | () => (r = r1)) (at_J6_numberOfTrailingZeros_0f7a4y dC dI cI cJ cB  sz p0 n9 r1) (va_A (ww_J6_numberOfTrailingZeros_0f7a4y dC dI cI cJ cB  sz p0 n9 r1) sz)
abbrev pc_J6_numberOfTrailingZeros_0f7a4y (dC : Nat → ClassId) (dI : Nat → Nat → Nat) (cI cJ cB : ClassId) (sz : Nat) (p0 : Int32) (n9 : Nat) (r1 : Int32) : Array Value → State → Prop := va_Pc [.int p0] (fun U => U.heap.size = sz ∧ NW U ∧ va_P (dC, dI) vwCl (ww_J6_numberOfTrailingZeros_0f7a4y dC dI cI cJ cB  sz p0 n9 r1) U.heap ∧ va_K (dC, dI) vwCl (tyL cI cJ cB) U ∧ va_D (fun _ => True) (ww_J6_numberOfTrailingZeros_0f7a4y dC dI cI cJ cB  sz p0 n9 r1))
abbrev rm_J6_numberOfTrailingZeros_0f7a4y : Room := { frames := 0, cells := 0, slots := 0, locals := 0 }
abbrev WW_J6_numberOfTrailingZeros_0f7a4y (p : Program) (l : Launch) (e : Env) (s : State) (m : MethodId) (below : List Frame) (meth : Method) (c : Code) (dC : Nat → ClassId) (dI : Nat → Nat → Nat) (cI cJ cB : ClassId) (sz : Nat) (p0 : Int32) (n9 : Nat) (r1 : Int32) (H : Heap) (locs : List Loc) (g : JFrame) : Prop := W p l e rm_J6_numberOfTrailingZeros_0f7a4y s m ([.int p0] : List Value).toArray below meth c H locs 0 0 (MQ below (qc_J6_numberOfTrailingZeros_0f7a4y dC dI cI cJ cB  sz p0 n9 r1) ([.int p0] : List Value).toArray s 0 0 (va_A (ww_J6_numberOfTrailingZeros_0f7a4y dC dI cI cJ cB  sz p0 n9 r1) sz)) g
set_option maxHeartbeats 4000000 in
set_option maxRecDepth 100000 in
theorem c_J6_numberOfTrailingZeros_0f7a4y (l : Launch) (dC : Nat → ClassId) (dI : Nat → Nat → Nat) (cI cJ cB : ClassId) (sz : Nat) (p0 : Int32) (n9 : Nat) (r1 : Int32) (hf : fx_J6_numberOfTrailingZeros_0f7a4 n9 p0 = some (r1)) : Met l yJ6_numberOfTrailingZeros_0f7a4 wo_J6_numberOfTrailingZeros_0f7a4y rm_J6_numberOfTrailingZeros_0f7a4y (pc_J6_numberOfTrailingZeros_0f7a4y dC dI cI cJ cB  sz p0 n9 r1) (qc_J6_numberOfTrailingZeros_0f7a4y dC dI cI cJ cB  sz p0 n9 r1) 0 0 (va_A (ww_J6_numberOfTrailingZeros_0f7a4y dC dI cI cJ cB  sz p0 n9 r1) sz) := by
  unfold fx_J6_numberOfTrailingZeros_0f7a4 at hf
  refine Met.ofW (cc := cJ6_numberOfTrailingZeros_0f7a4) (maxL := 2) (ret := (some .int)) (by decide) rfl ?_
  intro p e s m args below meth c s₁ B hml hv
  obtain ⟨rfl, hsz, hnw, hP, hK, hD0⟩ := hv
  have hx := B.exec
  have hb := B.bytes
  have hr := B.returns
  have hts := atoms_spec (ws := wo_J6_numberOfTrailingZeros_0f7a4y) B.pre
  have hown : s.vm.findClass RJ6 = some m.cls := findClass_of_methodNamed B.named
  have hlocks := B.notSynchronized
  clear B
  subst hsz
  have hD := hD0.self (sz := s.heap.size)
  clear hD0
  have kk0_ := hts (.constant RJ6 264 (65536)) (by decide +kernel)
  have hA : ∀ q : Nat, s.heap.size ≤ q → (va_A (ww_J6_numberOfTrailingZeros_0f7a4y dC dI cI cJ cB  s.heap.size p0 n9 r1) s.heap.size) q := fun q h => Or.inr h
  have hS : va_S (va_A (ww_J6_numberOfTrailingZeros_0f7a4y dC dI cI cJ cB  s.heap.size p0 n9 r1) s.heap.size) s.heap s.heap [] := va_S.rf
  have hl := lv_entry ([.int p0]) (n := 2) (Nat.le_of_ble_eq_true rfl)
  rw [lg_entry_eq]
  generalize (lg_sl ([.int p0]) ++ List.replicate (2 - (lg_sl ([.int p0])).length) Slot.unset).toArray = ls at hl ⊢
  have hl : lv_has ls 2 [(0, .int p0)] := hl
  have hP : va_P (dC, dI) vwCl [] s.heap := hP
  have hD : va_D (va_A (ww_J6_numberOfTrailingZeros_0f7a4y dC dI cI cJ cB  s.heap.size p0 n9 r1) s.heap.size) [] := hD
  obtain ⟨H, hH⟩ : ∃ H, H = s.heap := ⟨_, rfl⟩
  obtain ⟨locs, hlc⟩ : ∃ L : List Loc, L = [] := ⟨_, rfl⟩
  have hS : va_S (va_A (ww_J6_numberOfTrailingZeros_0f7a4y dC dI cI cJ cB  s.heap.size p0 n9 r1) s.heap.size) s.heap H locs := by rw [hH, hlc]; exact hS
  have hP : va_P (dC, dI) vwCl [] H := by rw [hH]; exact hP
  suffices hgo : WW_J6_numberOfTrailingZeros_0f7a4y p l e s m below meth c dC dI cI cJ cB  s.heap.size p0 n9 r1 H locs (F0 m 0 ls []) by rw [hH, hlc] at hgo; exact hgo
  clear hH hlc
  have J_62 : ∀ (x0 : Int32) (x1 : Int32), jx_J6_numberOfTrailingZeros_0f7a4_62 n9 x0 x1 = some (r1) → ∀ (H : Heap) (locs : List Loc), va_P (dC, dI) vwCl [] H → va_D (va_A (ww_J6_numberOfTrailingZeros_0f7a4y dC dI cI cJ cB  s.heap.size p0 n9 r1) s.heap.size) [] → va_S (va_A (ww_J6_numberOfTrailingZeros_0f7a4y dC dI cI cJ cB  s.heap.size p0 n9 r1) s.heap.size) s.heap H locs → ∀ ls : Array Slot, lv_has ls 2 [(0, .int x0), (1, .int x1)] → WW_J6_numberOfTrailingZeros_0f7a4y p l e s m below meth c dC dI cI cJ cB  s.heap.size p0 n9 r1 H locs (F0 m 62 ls []) := by
    intro x0 x1 hf H locs hP hD hS ls hl
    unfold jx_J6_numberOfTrailingZeros_0f7a4_62 at hf
    refine lv_iload_n hx hb dJ6_numberOfTrailingZeros_0f7a4_62 rfl (lv_at hl 0 rfl) ?_
    refine lv_iconst (v := 4) hx hb dJ6_numberOfTrailingZeros_0f7a4_63 (by decide) ?_
    refine lv_icmp_le (tgt := 74) hx hb dJ6_numberOfTrailingZeros_0f7a4_64 (by decide) (fun c_1 => ?_) (fun c_1 => ?_)
    · replace hf := xi_t c_1 hf
      refine lv_iload_n hx hb dJ6_numberOfTrailingZeros_0f7a4_74 rfl (lv_at hl 1 rfl) ?_
      refine lv_iload_n hx hb dJ6_numberOfTrailingZeros_0f7a4_75 rfl (lv_at hl 0 rfl) ?_
      refine lv_iconst (v := 1) hx hb dJ6_numberOfTrailingZeros_0f7a4_76 (by decide) ?_
      refine lv_iushr hx hb dJ6_numberOfTrailingZeros_0f7a4_77 rfl ?_
      refine lv_topi (fun y_2 ey_2 => ?_)
      replace hf := xl_to (v := (x0.toUInt32 >>> (((1 : Int32)).toUInt32 &&& Int32.toUInt32 31)).toInt32) ey_2 hf
      refine lv_iadd hx hb dJ6_numberOfTrailingZeros_0f7a4_78 ?_
      refine lv_topi (fun y_3 ey_3 => ?_)
      replace hf := xl_to (v := x1 + y_2) ey_3 hf
      have hP9 := hP.sub (ws' := []) [] rfl
      have hD9 := hD.sub (ws' := []) [] (by decide) rfl
      have r9_0 : y_3 = r1 := (Option.some.inj hf)
      exact W.iret (v := y_3) hx hb hr (fun t ht hW => ⟨⟨y_3, (), rfl, r9_0, by rw [ht]; exact hP9, va_K.moved hW.alike hK, hD9⟩, hS.F ht⟩) hS.2.2 dJ6_numberOfTrailingZeros_0f7a4_79
    · replace hf := xi_f c_1 hf
      obtain ⟨x1_4, ex1_4⟩ : ∃ y : Int32, y = x1 + (2) := ⟨_, rfl⟩
      refine lv_iinc (v := x1_4) (lv' := [(1, .int x1_4), (0, .int x0)]) hx hb dJ6_numberOfTrailingZeros_0f7a4_67 hl (k := 1) rfl (by rw [ex1_4]; rfl) (by decide) rfl (fun ls hl => ?_)
      replace hf := xl_to ex1_4 hf
      refine lv_iload_n hx hb dJ6_numberOfTrailingZeros_0f7a4_70 rfl (lv_at hl 1 rfl) ?_
      refine lv_iconst (v := 2) hx hb dJ6_numberOfTrailingZeros_0f7a4_71 (by decide) ?_
      refine lv_iushr hx hb dJ6_numberOfTrailingZeros_0f7a4_72 rfl ?_
      refine lv_topi (fun y_5 ey_5 => ?_)
      replace hf := xl_to (v := (x0.toUInt32 >>> (((2 : Int32)).toUInt32 &&& Int32.toUInt32 31)).toInt32) ey_5 hf
      refine lv_istore_n (lv' := [(0, .int y_5), (1, .int x1_4)]) hx hb dJ6_numberOfTrailingZeros_0f7a4_73 rfl hl (by decide) rfl (fun ls hl => ?_)
      refine lv_iload_n hx hb dJ6_numberOfTrailingZeros_0f7a4_74 rfl (lv_at hl 1 rfl) ?_
      refine lv_iload_n hx hb dJ6_numberOfTrailingZeros_0f7a4_75 rfl (lv_at hl 0 rfl) ?_
      refine lv_iconst (v := 1) hx hb dJ6_numberOfTrailingZeros_0f7a4_76 (by decide) ?_
      refine lv_iushr hx hb dJ6_numberOfTrailingZeros_0f7a4_77 rfl ?_
      refine lv_topi (fun y_6 ey_6 => ?_)
      replace hf := xl_to (v := (y_5.toUInt32 >>> (((1 : Int32)).toUInt32 &&& Int32.toUInt32 31)).toInt32) ey_6 hf
      refine lv_iadd hx hb dJ6_numberOfTrailingZeros_0f7a4_78 ?_
      refine lv_topi (fun y_7 ey_7 => ?_)
      replace hf := xl_to (v := x1_4 + y_6) ey_7 hf
      have hP9 := hP.sub (ws' := []) [] rfl
      have hD9 := hD.sub (ws' := []) [] (by decide) rfl
      have r9_0 : y_7 = r1 := (Option.some.inj hf)
      exact W.iret (v := y_7) hx hb hr (fun t ht hW => ⟨⟨y_7, (), rfl, r9_0, by rw [ht]; exact hP9, va_K.moved hW.alike hK, hD9⟩, hS.F ht⟩) hS.2.2 dJ6_numberOfTrailingZeros_0f7a4_79
  have J_34 : ∀ (x0 : Int32) (x1 : Int32), jx_J6_numberOfTrailingZeros_0f7a4_34 n9 x0 x1 = some (r1) → ∀ (H : Heap) (locs : List Loc), va_P (dC, dI) vwCl [] H → va_D (va_A (ww_J6_numberOfTrailingZeros_0f7a4y dC dI cI cJ cB  s.heap.size p0 n9 r1) s.heap.size) [] → va_S (va_A (ww_J6_numberOfTrailingZeros_0f7a4y dC dI cI cJ cB  s.heap.size p0 n9 r1) s.heap.size) s.heap H locs → ∀ ls : Array Slot, lv_has ls 2 [(0, .int x0), (1, .int x1)] → WW_J6_numberOfTrailingZeros_0f7a4y p l e s m below meth c dC dI cI cJ cB  s.heap.size p0 n9 r1 H locs (F0 m 34 ls []) := by
    intro x0 x1 hf H locs hP hD hS ls hl
    unfold jx_J6_numberOfTrailingZeros_0f7a4_34 at hf
    refine lv_iload_n hx hb dJ6_numberOfTrailingZeros_0f7a4_34 rfl (lv_at hl 0 rfl) ?_
    refine lv_sipush (v := 256) hx hb dJ6_numberOfTrailingZeros_0f7a4_35 (by decide) ?_
    refine lv_icmp_le (tgt := 49) hx hb dJ6_numberOfTrailingZeros_0f7a4_38 (by decide) (fun c_8 => ?_) (fun c_8 => ?_)
    · replace hf := xi_t c_8 hf
      refine lv_iload_n hx hb dJ6_numberOfTrailingZeros_0f7a4_49 rfl (lv_at hl 0 rfl) ?_
      refine lv_bipush (v := 16) hx hb dJ6_numberOfTrailingZeros_0f7a4_50 (by decide) ?_
      refine lv_icmp_le (tgt := 62) hx hb dJ6_numberOfTrailingZeros_0f7a4_52 (by decide) (fun c_9 => ?_) (fun c_9 => ?_)
      · replace hf := xi_t c_9 hf
        exact J_62 x0 x1 hf _ _ (hP.sub [] rfl) (hD.sub [] (by decide) rfl) hS ls (lv_sub hl [0, 1] rfl)
      · replace hf := xi_f c_9 hf
        obtain ⟨x1_10, ex1_10⟩ : ∃ y : Int32, y = x1 + (4) := ⟨_, rfl⟩
        refine lv_iinc (v := x1_10) (lv' := [(1, .int x1_10), (0, .int x0)]) hx hb dJ6_numberOfTrailingZeros_0f7a4_55 hl (k := 1) rfl (by rw [ex1_10]; rfl) (by decide) rfl (fun ls hl => ?_)
        replace hf := xl_to ex1_10 hf
        refine lv_iload_n hx hb dJ6_numberOfTrailingZeros_0f7a4_58 rfl (lv_at hl 1 rfl) ?_
        refine lv_iconst (v := 4) hx hb dJ6_numberOfTrailingZeros_0f7a4_59 (by decide) ?_
        refine lv_iushr hx hb dJ6_numberOfTrailingZeros_0f7a4_60 rfl ?_
        refine lv_topi (fun y_11 ey_11 => ?_)
        replace hf := xl_to (v := (x0.toUInt32 >>> (((4 : Int32)).toUInt32 &&& Int32.toUInt32 31)).toInt32) ey_11 hf
        refine lv_istore_n (lv' := [(0, .int y_11), (1, .int x1_10)]) hx hb dJ6_numberOfTrailingZeros_0f7a4_61 rfl hl (by decide) rfl (fun ls hl => ?_)
        exact J_62 y_11 x1_10 hf _ _ (hP.sub [] rfl) (hD.sub [] (by decide) rfl) hS ls (lv_sub hl [0, 1] rfl)
    · replace hf := xi_f c_8 hf
      obtain ⟨x1_12, ex1_12⟩ : ∃ y : Int32, y = x1 + (8) := ⟨_, rfl⟩
      refine lv_iinc (v := x1_12) (lv' := [(1, .int x1_12), (0, .int x0)]) hx hb dJ6_numberOfTrailingZeros_0f7a4_41 hl (k := 1) rfl (by rw [ex1_12]; rfl) (by decide) rfl (fun ls hl => ?_)
      replace hf := xl_to ex1_12 hf
      refine lv_iload_n hx hb dJ6_numberOfTrailingZeros_0f7a4_44 rfl (lv_at hl 1 rfl) ?_
      refine lv_bipush (v := 8) hx hb dJ6_numberOfTrailingZeros_0f7a4_45 (by decide) ?_
      refine lv_iushr hx hb dJ6_numberOfTrailingZeros_0f7a4_47 rfl ?_
      refine lv_topi (fun y_13 ey_13 => ?_)
      replace hf := xl_to (v := (x0.toUInt32 >>> (((8 : Int32)).toUInt32 &&& Int32.toUInt32 31)).toInt32) ey_13 hf
      refine lv_istore_n (lv' := [(0, .int y_13), (1, .int x1_12)]) hx hb dJ6_numberOfTrailingZeros_0f7a4_48 rfl hl (by decide) rfl (fun ls hl => ?_)
      refine lv_iload_n hx hb dJ6_numberOfTrailingZeros_0f7a4_49 rfl (lv_at hl 0 rfl) ?_
      refine lv_bipush (v := 16) hx hb dJ6_numberOfTrailingZeros_0f7a4_50 (by decide) ?_
      refine lv_icmp_le (tgt := 62) hx hb dJ6_numberOfTrailingZeros_0f7a4_52 (by decide) (fun c_14 => ?_) (fun c_14 => ?_)
      · replace hf := xi_t c_14 hf
        exact J_62 y_13 x1_12 hf _ _ (hP.sub [] rfl) (hD.sub [] (by decide) rfl) hS ls (lv_sub hl [0, 1] rfl)
      · replace hf := xi_f c_14 hf
        obtain ⟨x1_15, ex1_15⟩ : ∃ y : Int32, y = x1_12 + (4) := ⟨_, rfl⟩
        refine lv_iinc (v := x1_15) (lv' := [(1, .int x1_15), (0, .int y_13)]) hx hb dJ6_numberOfTrailingZeros_0f7a4_55 hl (k := 1) rfl (by rw [ex1_15]; rfl) (by decide) rfl (fun ls hl => ?_)
        replace hf := xl_to ex1_15 hf
        refine lv_iload_n hx hb dJ6_numberOfTrailingZeros_0f7a4_58 rfl (lv_at hl 1 rfl) ?_
        refine lv_iconst (v := 4) hx hb dJ6_numberOfTrailingZeros_0f7a4_59 (by decide) ?_
        refine lv_iushr hx hb dJ6_numberOfTrailingZeros_0f7a4_60 rfl ?_
        refine lv_topi (fun y_16 ey_16 => ?_)
        replace hf := xl_to (v := (y_13.toUInt32 >>> (((4 : Int32)).toUInt32 &&& Int32.toUInt32 31)).toInt32) ey_16 hf
        refine lv_istore_n (lv' := [(0, .int y_16), (1, .int x1_15)]) hx hb dJ6_numberOfTrailingZeros_0f7a4_61 rfl hl (by decide) rfl (fun ls hl => ?_)
        exact J_62 y_16 x1_15 hf _ _ (hP.sub [] rfl) (hD.sub [] (by decide) rfl) hS ls (lv_sub hl [0, 1] rfl)
  refine lv_iload_n hx hb dJ6_numberOfTrailingZeros_0f7a4_0 rfl (lv_at hl 0 rfl) ?_
  refine lv_iconst (v := -1) hx hb dJ6_numberOfTrailingZeros_0f7a4_1 (by decide) ?_
  refine lv_ixor hx hb dJ6_numberOfTrailingZeros_0f7a4_2 ?_
  refine lv_topi (fun y_17 ey_17 => ?_)
  replace hf := xl_to (v := p0 ^^^ ((-1 : Int32))) ey_17 hf
  refine lv_iload_n hx hb dJ6_numberOfTrailingZeros_0f7a4_3 rfl (lv_at hl 0 rfl) ?_
  refine lv_iconst (v := 1) hx hb dJ6_numberOfTrailingZeros_0f7a4_4 (by decide) ?_
  refine lv_isub hx hb dJ6_numberOfTrailingZeros_0f7a4_5 ?_
  refine lv_topi (fun y_18 ey_18 => ?_)
  replace hf := xl_to (v := p0 - ((1 : Int32))) ey_18 hf
  refine lv_iand hx hb dJ6_numberOfTrailingZeros_0f7a4_6 ?_
  refine lv_topi (fun y_19 ey_19 => ?_)
  replace hf := xl_to (v := y_17 &&& y_18) ey_19 hf
  refine lv_istore_n (lv' := [(0, .int y_19)]) hx hb dJ6_numberOfTrailingZeros_0f7a4_7 rfl hl (by decide) rfl (fun ls hl => ?_)
  refine lv_iload_n hx hb dJ6_numberOfTrailingZeros_0f7a4_8 rfl (lv_at hl 0 rfl) ?_
  refine lv_if_gt (tgt := 17) hx hb dJ6_numberOfTrailingZeros_0f7a4_9 (by decide) (fun c_20 => ?_) (fun c_20 => ?_)
  · replace hf := xi_t c_20 hf
    refine lv_iconst (v := 1) hx hb dJ6_numberOfTrailingZeros_0f7a4_17 (by decide) ?_
    refine lv_istore_n (lv' := [(1, .int ((1 : Int32))), (0, .int y_19)]) hx hb dJ6_numberOfTrailingZeros_0f7a4_18 rfl hl (by decide) rfl (fun ls hl => ?_)
    refine lv_iload_n hx hb dJ6_numberOfTrailingZeros_0f7a4_19 rfl (lv_at hl 1 rfl) ?_
    refine lv_ldcw (v := 65536) hx hb hown kk0_ dJ6_numberOfTrailingZeros_0f7a4_20 ?_
    refine lv_icmp_le (tgt := 34) hx hb dJ6_numberOfTrailingZeros_0f7a4_23 (by decide) (fun c_21 => ?_) (fun c_21 => ?_)
    · replace hf := xi_t c_21 hf
      exact J_34 y_19 ((1 : Int32)) hf _ _ (hP.sub [] rfl) (hD.sub [] (by decide) rfl) hS ls (lv_sub hl [1, 0] rfl)
    · replace hf := xi_f c_21 hf
      obtain ⟨x1_22, ex1_22⟩ : ∃ y : Int32, y = ((1 : Int32)) + (16) := ⟨_, rfl⟩
      refine lv_iinc (v := x1_22) (lv' := [(1, .int x1_22), (0, .int y_19)]) hx hb dJ6_numberOfTrailingZeros_0f7a4_26 hl (k := 0) rfl (by rw [ex1_22]; rfl) (by decide) rfl (fun ls hl => ?_)
      replace hf := xl_to ex1_22 hf
      refine lv_iload_n hx hb dJ6_numberOfTrailingZeros_0f7a4_29 rfl (lv_at hl 1 rfl) ?_
      refine lv_bipush (v := 16) hx hb dJ6_numberOfTrailingZeros_0f7a4_30 (by decide) ?_
      refine lv_iushr hx hb dJ6_numberOfTrailingZeros_0f7a4_32 rfl ?_
      refine lv_topi (fun y_23 ey_23 => ?_)
      replace hf := xl_to (v := (y_19.toUInt32 >>> (((16 : Int32)).toUInt32 &&& Int32.toUInt32 31)).toInt32) ey_23 hf
      refine lv_istore_n (lv' := [(0, .int y_23), (1, .int x1_22)]) hx hb dJ6_numberOfTrailingZeros_0f7a4_33 rfl hl (by decide) rfl (fun ls hl => ?_)
      exact J_34 y_23 x1_22 hf _ _ (hP.sub [] rfl) (hD.sub [] (by decide) rfl) hS ls (lv_sub hl [0, 1] rfl)
  · replace hf := xi_f c_20 hf
    refine lv_iload_n hx hb dJ6_numberOfTrailingZeros_0f7a4_12 rfl (lv_at hl 0 rfl) ?_
    refine lv_bipush (v := 32) hx hb dJ6_numberOfTrailingZeros_0f7a4_13 (by decide) ?_
    refine lv_iand hx hb dJ6_numberOfTrailingZeros_0f7a4_15 ?_
    refine lv_topi (fun y_24 ey_24 => ?_)
    replace hf := xl_to (v := y_19 &&& ((32 : Int32))) ey_24 hf
    have hP9 := hP.sub (ws' := []) [] rfl
    have hD9 := hD.sub (ws' := []) [] (by decide) rfl
    have r9_0 : y_24 = r1 := (Option.some.inj hf)
    exact W.iret (v := y_24) hx hb hr (fun t ht hW => ⟨⟨y_24, (), rfl, r9_0, by rw [ht]; exact hP9, va_K.moved hW.alike hK, hD9⟩, hS.F ht⟩) hS.2.2 dJ6_numberOfTrailingZeros_0f7a4_16
def wo_J13_bitCount_95d88y : List Cond := .code yJ13_bitCount_95d88 cJ13_bitCount_95d88 2 (some .int) :: (([.constantLong RJ13 314 (6148914691236517205), .constantLong RJ13 316 (3689348814741910323), .constantLong RJ13 318 (1085102592571150095)] : List Cond))
abbrev ww_J13_bitCount_95d88y (dC : Nat → ClassId) (dI : Nat → Nat → Nat) (cI cJ cB : ClassId) (sz : Nat) (p0 : Int64) (n9 : Nat) (r1 : Int32) : va_W := []
abbrev at_J13_bitCount_95d88y (dC : Nat → ClassId) (dI : Nat → Nat → Nat) (cI cJ cB : ClassId) (sz : Nat) (p0 : Int64) (n9 : Nat) (r1 : Int32) (u : Unit) (t : State) : Prop := match u with
  | () => va_P (dC, dI) vwCl [] t.heap ∧ va_K (dC, dI) vwCl (tyL cI cJ cB) t ∧ va_D (va_A (ww_J13_bitCount_95d88y dC dI cI cJ cB  sz p0 n9 r1) sz) []
abbrev qc_J13_bitCount_95d88y (dC : Nat → ClassId) (dI : Nat → Nat → Nat) (cI cJ cB : ClassId) (sz : Nat) (p0 : Int64) (n9 : Nat) (r1 : Int32) : Array Value → State → Outcome → State → Prop := va_Qi (fun (r : Int32) (u : Unit) => match u with | () => (r = r1)) (at_J13_bitCount_95d88y dC dI cI cJ cB  sz p0 n9 r1) (va_A (ww_J13_bitCount_95d88y dC dI cI cJ cB  sz p0 n9 r1) sz)
abbrev pc_J13_bitCount_95d88y (dC : Nat → ClassId) (dI : Nat → Nat → Nat) (cI cJ cB : ClassId) (sz : Nat) (p0 : Int64) (n9 : Nat) (r1 : Int32) : Array Value → State → Prop := va_Pc [.long p0] (fun U => U.heap.size = sz ∧ NW U ∧ va_P (dC, dI) vwCl (ww_J13_bitCount_95d88y dC dI cI cJ cB  sz p0 n9 r1) U.heap ∧ va_K (dC, dI) vwCl (tyL cI cJ cB) U ∧ va_D (fun _ => True) (ww_J13_bitCount_95d88y dC dI cI cJ cB  sz p0 n9 r1))
abbrev rm_J13_bitCount_95d88y : Room := { frames := 0, cells := 0, slots := 0, locals := 0 }
abbrev WW_J13_bitCount_95d88y (p : Program) (l : Launch) (e : Env) (s : State) (m : MethodId) (below : List Frame) (meth : Method) (c : Code) (dC : Nat → ClassId) (dI : Nat → Nat → Nat) (cI cJ cB : ClassId) (sz : Nat) (p0 : Int64) (n9 : Nat) (r1 : Int32) (H : Heap) (locs : List Loc) (g : JFrame) : Prop := W p l e rm_J13_bitCount_95d88y s m ([.long p0] : List Value).toArray below meth c H locs 0 0 (MQ below (qc_J13_bitCount_95d88y dC dI cI cJ cB  sz p0 n9 r1) ([.long p0] : List Value).toArray s 0 0 (va_A (ww_J13_bitCount_95d88y dC dI cI cJ cB  sz p0 n9 r1) sz)) g
set_option maxHeartbeats 4000000 in
set_option maxRecDepth 100000 in
theorem c_J13_bitCount_95d88y (l : Launch) (dC : Nat → ClassId) (dI : Nat → Nat → Nat) (cI cJ cB : ClassId) (sz : Nat) (p0 : Int64) (n9 : Nat) (r1 : Int32) (hf : fx_J13_bitCount_95d88 n9 p0 = some (r1)) : Met l yJ13_bitCount_95d88 wo_J13_bitCount_95d88y rm_J13_bitCount_95d88y (pc_J13_bitCount_95d88y dC dI cI cJ cB  sz p0 n9 r1) (qc_J13_bitCount_95d88y dC dI cI cJ cB  sz p0 n9 r1) 0 0 (va_A (ww_J13_bitCount_95d88y dC dI cI cJ cB  sz p0 n9 r1) sz) := by
  unfold fx_J13_bitCount_95d88 at hf
  refine Met.ofW (cc := cJ13_bitCount_95d88) (maxL := 2) (ret := (some .int)) (by decide) rfl ?_
  intro p e s m args below meth c s₁ B hml hv
  obtain ⟨rfl, hsz, hnw, hP, hK, hD0⟩ := hv
  have hx := B.exec
  have hb := B.bytes
  have hr := B.returns
  have hts := atoms_spec (ws := wo_J13_bitCount_95d88y) B.pre
  have hown : s.vm.findClass RJ13 = some m.cls := findClass_of_methodNamed B.named
  have hlocks := B.notSynchronized
  clear B
  subst hsz
  have hD := hD0.self (sz := s.heap.size)
  clear hD0
  have kk0_ := hts (.constantLong RJ13 314 (6148914691236517205)) (by decide +kernel)
  have kk1_ := hts (.constantLong RJ13 316 (3689348814741910323)) (by decide +kernel)
  have kk2_ := hts (.constantLong RJ13 318 (1085102592571150095)) (by decide +kernel)
  have hA : ∀ q : Nat, s.heap.size ≤ q → (va_A (ww_J13_bitCount_95d88y dC dI cI cJ cB  s.heap.size p0 n9 r1) s.heap.size) q := fun q h => Or.inr h
  have hS : va_S (va_A (ww_J13_bitCount_95d88y dC dI cI cJ cB  s.heap.size p0 n9 r1) s.heap.size) s.heap s.heap [] := va_S.rf
  have hl := lv_entry ([.long p0]) (n := 2) (Nat.le_of_ble_eq_true rfl)
  rw [lg_entry_eq]
  generalize (lg_sl ([.long p0]) ++ List.replicate (2 - (lg_sl ([.long p0])).length) Slot.unset).toArray = ls at hl ⊢
  have hl : lv_has ls 2 [(0, .long p0)] := hl
  have hP : va_P (dC, dI) vwCl [] s.heap := hP
  have hD : va_D (va_A (ww_J13_bitCount_95d88y dC dI cI cJ cB  s.heap.size p0 n9 r1) s.heap.size) [] := hD
  obtain ⟨H, hH⟩ : ∃ H, H = s.heap := ⟨_, rfl⟩
  obtain ⟨locs, hlc⟩ : ∃ L : List Loc, L = [] := ⟨_, rfl⟩
  have hS : va_S (va_A (ww_J13_bitCount_95d88y dC dI cI cJ cB  s.heap.size p0 n9 r1) s.heap.size) s.heap H locs := by rw [hH, hlc]; exact hS
  have hP : va_P (dC, dI) vwCl [] H := by rw [hH]; exact hP
  suffices hgo : WW_J13_bitCount_95d88y p l e s m below meth c dC dI cI cJ cB  s.heap.size p0 n9 r1 H locs (F0 m 0 ls []) by rw [hH, hlc] at hgo; exact hgo
  clear hH hlc
  refine lv_lload_n hx hb dJ13_bitCount_95d88_0 rfl (lv_at hl 0 rfl) ?_
  refine lv_lload_n hx hb dJ13_bitCount_95d88_1 rfl (lv_at hl 0 rfl) ?_
  refine lv_iconst (v := 1) hx hb dJ13_bitCount_95d88_2 (by decide) ?_
  refine lv_lushr hx hb dJ13_bitCount_95d88_3 rfl ?_
  refine lv_topl (fun y_1 ey_1 => ?_)
  replace hf := xl_to (v := (p0.toUInt64 >>> (((1 : Int32)).toInt64.toUInt64 &&& Int64.toUInt64 63)).toInt64) ey_1 hf
  refine lv_ldc2 (v := 6148914691236517205) hx hb hown kk0_ dJ13_bitCount_95d88_4 ?_
  refine lv_land hx hb dJ13_bitCount_95d88_7 ?_
  refine lv_topl (fun y_2 ey_2 => ?_)
  replace hf := xl_to (v := y_1 &&& ((6148914691236517205 : Int64))) ey_2 hf
  refine lv_lsub hx hb dJ13_bitCount_95d88_8 ?_
  refine lv_topl (fun y_3 ey_3 => ?_)
  replace hf := xl_to (v := p0 - y_2) ey_3 hf
  refine lv_lstore_n (lv' := [(0, .long y_3)]) hx hb dJ13_bitCount_95d88_9 rfl hl (by decide) rfl (fun ls hl => ?_)
  refine lv_lload_n hx hb dJ13_bitCount_95d88_10 rfl (lv_at hl 0 rfl) ?_
  refine lv_ldc2 (v := 3689348814741910323) hx hb hown kk1_ dJ13_bitCount_95d88_11 ?_
  refine lv_land hx hb dJ13_bitCount_95d88_14 ?_
  refine lv_topl (fun y_4 ey_4 => ?_)
  replace hf := xl_to (v := y_3 &&& ((3689348814741910323 : Int64))) ey_4 hf
  refine lv_lload_n hx hb dJ13_bitCount_95d88_15 rfl (lv_at hl 0 rfl) ?_
  refine lv_iconst (v := 2) hx hb dJ13_bitCount_95d88_16 (by decide) ?_
  refine lv_lushr hx hb dJ13_bitCount_95d88_17 rfl ?_
  refine lv_topl (fun y_5 ey_5 => ?_)
  replace hf := xl_to (v := (y_3.toUInt64 >>> (((2 : Int32)).toInt64.toUInt64 &&& Int64.toUInt64 63)).toInt64) ey_5 hf
  refine lv_ldc2 (v := 3689348814741910323) hx hb hown kk1_ dJ13_bitCount_95d88_18 ?_
  refine lv_land hx hb dJ13_bitCount_95d88_21 ?_
  refine lv_topl (fun y_6 ey_6 => ?_)
  replace hf := xl_to (v := y_5 &&& ((3689348814741910323 : Int64))) ey_6 hf
  refine lv_ladd hx hb dJ13_bitCount_95d88_22 ?_
  refine lv_topl (fun y_7 ey_7 => ?_)
  replace hf := xl_to (v := y_4 + y_6) ey_7 hf
  refine lv_lstore_n (lv' := [(0, .long y_7)]) hx hb dJ13_bitCount_95d88_23 rfl hl (by decide) rfl (fun ls hl => ?_)
  refine lv_lload_n hx hb dJ13_bitCount_95d88_24 rfl (lv_at hl 0 rfl) ?_
  refine lv_lload_n hx hb dJ13_bitCount_95d88_25 rfl (lv_at hl 0 rfl) ?_
  refine lv_iconst (v := 4) hx hb dJ13_bitCount_95d88_26 (by decide) ?_
  refine lv_lushr hx hb dJ13_bitCount_95d88_27 rfl ?_
  refine lv_topl (fun y_8 ey_8 => ?_)
  replace hf := xl_to (v := (y_7.toUInt64 >>> (((4 : Int32)).toInt64.toUInt64 &&& Int64.toUInt64 63)).toInt64) ey_8 hf
  refine lv_ladd hx hb dJ13_bitCount_95d88_28 ?_
  refine lv_topl (fun y_9 ey_9 => ?_)
  replace hf := xl_to (v := y_7 + y_8) ey_9 hf
  refine lv_ldc2 (v := 1085102592571150095) hx hb hown kk2_ dJ13_bitCount_95d88_29 ?_
  refine lv_land hx hb dJ13_bitCount_95d88_32 ?_
  refine lv_topl (fun y_10 ey_10 => ?_)
  replace hf := xl_to (v := y_9 &&& ((1085102592571150095 : Int64))) ey_10 hf
  refine lv_lstore_n (lv' := [(0, .long y_10)]) hx hb dJ13_bitCount_95d88_33 rfl hl (by decide) rfl (fun ls hl => ?_)
  refine lv_lload_n hx hb dJ13_bitCount_95d88_34 rfl (lv_at hl 0 rfl) ?_
  refine lv_lload_n hx hb dJ13_bitCount_95d88_35 rfl (lv_at hl 0 rfl) ?_
  refine lv_bipush (v := 8) hx hb dJ13_bitCount_95d88_36 (by decide) ?_
  refine lv_lushr hx hb dJ13_bitCount_95d88_38 rfl ?_
  refine lv_topl (fun y_11 ey_11 => ?_)
  replace hf := xl_to (v := (y_10.toUInt64 >>> (((8 : Int32)).toInt64.toUInt64 &&& Int64.toUInt64 63)).toInt64) ey_11 hf
  refine lv_ladd hx hb dJ13_bitCount_95d88_39 ?_
  refine lv_topl (fun y_12 ey_12 => ?_)
  replace hf := xl_to (v := y_10 + y_11) ey_12 hf
  refine lv_lstore_n (lv' := [(0, .long y_12)]) hx hb dJ13_bitCount_95d88_40 rfl hl (by decide) rfl (fun ls hl => ?_)
  refine lv_lload_n hx hb dJ13_bitCount_95d88_41 rfl (lv_at hl 0 rfl) ?_
  refine lv_lload_n hx hb dJ13_bitCount_95d88_42 rfl (lv_at hl 0 rfl) ?_
  refine lv_bipush (v := 16) hx hb dJ13_bitCount_95d88_43 (by decide) ?_
  refine lv_lushr hx hb dJ13_bitCount_95d88_45 rfl ?_
  refine lv_topl (fun y_13 ey_13 => ?_)
  replace hf := xl_to (v := (y_12.toUInt64 >>> (((16 : Int32)).toInt64.toUInt64 &&& Int64.toUInt64 63)).toInt64) ey_13 hf
  refine lv_ladd hx hb dJ13_bitCount_95d88_46 ?_
  refine lv_topl (fun y_14 ey_14 => ?_)
  replace hf := xl_to (v := y_12 + y_13) ey_14 hf
  refine lv_lstore_n (lv' := [(0, .long y_14)]) hx hb dJ13_bitCount_95d88_47 rfl hl (by decide) rfl (fun ls hl => ?_)
  refine lv_lload_n hx hb dJ13_bitCount_95d88_48 rfl (lv_at hl 0 rfl) ?_
  refine lv_lload_n hx hb dJ13_bitCount_95d88_49 rfl (lv_at hl 0 rfl) ?_
  refine lv_bipush (v := 32) hx hb dJ13_bitCount_95d88_50 (by decide) ?_
  refine lv_lushr hx hb dJ13_bitCount_95d88_52 rfl ?_
  refine lv_topl (fun y_15 ey_15 => ?_)
  replace hf := xl_to (v := (y_14.toUInt64 >>> (((32 : Int32)).toInt64.toUInt64 &&& Int64.toUInt64 63)).toInt64) ey_15 hf
  refine lv_ladd hx hb dJ13_bitCount_95d88_53 ?_
  refine lv_topl (fun y_16 ey_16 => ?_)
  replace hf := xl_to (v := y_14 + y_15) ey_16 hf
  refine lv_lstore_n (lv' := [(0, .long y_16)]) hx hb dJ13_bitCount_95d88_54 rfl hl (by decide) rfl (fun ls hl => ?_)
  refine lv_lload_n hx hb dJ13_bitCount_95d88_55 rfl (lv_at hl 0 rfl) ?_
  refine lv_l2i hx hb dJ13_bitCount_95d88_56 rfl ?_
  refine lv_topi (fun y_17 ey_17 => ?_)
  replace hf := xl_to (v := y_16.toInt32) ey_17 hf
  refine lv_bipush (v := 127) hx hb dJ13_bitCount_95d88_57 (by decide) ?_
  refine lv_iand hx hb dJ13_bitCount_95d88_59 ?_
  refine lv_topi (fun y_18 ey_18 => ?_)
  replace hf := xl_to (v := y_17 &&& ((127 : Int32))) ey_18 hf
  have hP9 := hP.sub (ws' := []) [] rfl
  have hD9 := hD.sub (ws' := []) [] (by decide) rfl
  have r9_0 : y_18 = r1 := (Option.some.inj hf)
  exact W.iret (v := y_18) hx hb hr (fun t ht hW => ⟨⟨y_18, (), rfl, r9_0, by rw [ht]; exact hP9, va_K.moved hW.alike hK, hD9⟩, hS.F ht⟩) hS.2.2 dJ13_bitCount_95d88_60
def wo_X9_codeFory : List Cond := .code yX9_codeFor cX9_codeFor 2 (some .int) :: (([] : List Cond))
abbrev ww_X9_codeFory (dC : Nat → ClassId) (dI : Nat → Nat → Nat) (cI cJ cB : ClassId) (sz : Nat) (p0 : Int32) (p1 : Int32) (n9 : Nat) (r1 : Int32) : va_W := []
abbrev at_X9_codeFory (dC : Nat → ClassId) (dI : Nat → Nat → Nat) (cI cJ cB : ClassId) (sz : Nat) (p0 : Int32) (p1 : Int32) (n9 : Nat) (r1 : Int32) (u : Unit) (t : State) : Prop := match u with
  | () => va_P (dC, dI) vwCl [] t.heap ∧ va_K (dC, dI) vwCl (tyL cI cJ cB) t ∧ va_D (va_A (ww_X9_codeFory dC dI cI cJ cB  sz p0 p1 n9 r1) sz) []
abbrev qc_X9_codeFory (dC : Nat → ClassId) (dI : Nat → Nat → Nat) (cI cJ cB : ClassId) (sz : Nat) (p0 : Int32) (p1 : Int32) (n9 : Nat) (r1 : Int32) : Array Value → State → Outcome → State → Prop := va_Qi (fun (r : Int32) (u : Unit) => match u with | () => (r = r1)) (at_X9_codeFory dC dI cI cJ cB  sz p0 p1 n9 r1) (va_A (ww_X9_codeFory dC dI cI cJ cB  sz p0 p1 n9 r1) sz)
abbrev pc_X9_codeFory (dC : Nat → ClassId) (dI : Nat → Nat → Nat) (cI cJ cB : ClassId) (sz : Nat) (p0 : Int32) (p1 : Int32) (n9 : Nat) (r1 : Int32) : Array Value → State → Prop := va_Pc [.int p0, .int p1] (fun U => U.heap.size = sz ∧ NW U ∧ va_P (dC, dI) vwCl (ww_X9_codeFory dC dI cI cJ cB  sz p0 p1 n9 r1) U.heap ∧ va_K (dC, dI) vwCl (tyL cI cJ cB) U ∧ va_D (fun _ => True) (ww_X9_codeFory dC dI cI cJ cB  sz p0 p1 n9 r1))
abbrev rm_X9_codeFory : Room := { frames := 0, cells := 0, slots := 0, locals := 0 }
abbrev WW_X9_codeFory (p : Program) (l : Launch) (e : Env) (s : State) (m : MethodId) (below : List Frame) (meth : Method) (c : Code) (dC : Nat → ClassId) (dI : Nat → Nat → Nat) (cI cJ cB : ClassId) (sz : Nat) (p0 : Int32) (p1 : Int32) (n9 : Nat) (r1 : Int32) (H : Heap) (locs : List Loc) (g : JFrame) : Prop := W p l e rm_X9_codeFory s m ([.int p0, .int p1] : List Value).toArray below meth c H locs 0 0 (MQ below (qc_X9_codeFory dC dI cI cJ cB  sz p0 p1 n9 r1) ([.int p0, .int p1] : List Value).toArray s 0 0 (va_A (ww_X9_codeFory dC dI cI cJ cB  sz p0 p1 n9 r1) sz)) g
set_option maxHeartbeats 4000000 in
set_option maxRecDepth 100000 in
theorem c_X9_codeFory (l : Launch) (dC : Nat → ClassId) (dI : Nat → Nat → Nat) (cI cJ cB : ClassId) (sz : Nat) (p0 : Int32) (p1 : Int32) (n9 : Nat) (r1 : Int32) (hf : fx_X9_codeFor n9 p0 p1 = some (r1)) : Met l yX9_codeFor wo_X9_codeFory rm_X9_codeFory (pc_X9_codeFory dC dI cI cJ cB  sz p0 p1 n9 r1) (qc_X9_codeFory dC dI cI cJ cB  sz p0 p1 n9 r1) 0 0 (va_A (ww_X9_codeFory dC dI cI cJ cB  sz p0 p1 n9 r1) sz) := by
  unfold fx_X9_codeFor at hf
  refine Met.ofW (cc := cX9_codeFor) (maxL := 2) (ret := (some .int)) (by decide) rfl ?_
  intro p e s m args below meth c s₁ B hml hv
  obtain ⟨rfl, hsz, hnw, hP, hK, hD0⟩ := hv
  have hx := B.exec
  have hb := B.bytes
  have hr := B.returns
  have hts := atoms_spec (ws := wo_X9_codeFory) B.pre
  have hown : s.vm.findClass RX9 = some m.cls := findClass_of_methodNamed B.named
  have hlocks := B.notSynchronized
  clear B
  subst hsz
  have hD := hD0.self (sz := s.heap.size)
  clear hD0
  have hA : ∀ q : Nat, s.heap.size ≤ q → (va_A (ww_X9_codeFory dC dI cI cJ cB  s.heap.size p0 p1 n9 r1) s.heap.size) q := fun q h => Or.inr h
  have hS : va_S (va_A (ww_X9_codeFory dC dI cI cJ cB  s.heap.size p0 p1 n9 r1) s.heap.size) s.heap s.heap [] := va_S.rf
  have hl := lv_entry ([.int p0, .int p1]) (n := 2) (Nat.le_of_ble_eq_true rfl)
  rw [lg_entry_eq]
  generalize (lg_sl ([.int p0, .int p1]) ++ List.replicate (2 - (lg_sl ([.int p0, .int p1])).length) Slot.unset).toArray = ls at hl ⊢
  have hl : lv_has ls 2 [(0, .int p0), (1, .int p1)] := hl
  have hP : va_P (dC, dI) vwCl [] s.heap := hP
  have hD : va_D (va_A (ww_X9_codeFory dC dI cI cJ cB  s.heap.size p0 p1 n9 r1) s.heap.size) [] := hD
  obtain ⟨H, hH⟩ : ∃ H, H = s.heap := ⟨_, rfl⟩
  obtain ⟨locs, hlc⟩ : ∃ L : List Loc, L = [] := ⟨_, rfl⟩
  have hS : va_S (va_A (ww_X9_codeFory dC dI cI cJ cB  s.heap.size p0 p1 n9 r1) s.heap.size) s.heap H locs := by rw [hH, hlc]; exact hS
  have hP : va_P (dC, dI) vwCl [] H := by rw [hH]; exact hP
  suffices hgo : WW_X9_codeFory p l e s m below meth c dC dI cI cJ cB  s.heap.size p0 p1 n9 r1 H locs (F0 m 0 ls []) by rw [hH, hlc] at hgo; exact hgo
  clear hH hlc
  refine lv_bipush (v := 8) hx hb dX9_codeFor_0 (by decide) ?_
  refine lv_iload_n hx hb dX9_codeFor_2 rfl (lv_at hl 0 rfl) ?_
  refine lv_iconst (v := 1) hx hb dX9_codeFor_3 (by decide) ?_
  refine lv_iadd hx hb dX9_codeFor_4 ?_
  refine lv_topi (fun y_1 ey_1 => ?_)
  replace hf := xl_to (v := p0 + ((1 : Int32))) ey_1 hf
  refine lv_imul hx hb dX9_codeFor_5 ?_
  refine lv_topi (fun y_2 ey_2 => ?_)
  replace hf := xl_to (v := ((8 : Int32)) * y_1) ey_2 hf
  refine lv_iload_n hx hb dX9_codeFor_6 rfl (lv_at hl 1 rfl) ?_
  refine lv_iadd hx hb dX9_codeFor_7 ?_
  refine lv_topi (fun y_3 ey_3 => ?_)
  replace hf := xl_to (v := y_2 + p1) ey_3 hf
  have hP9 := hP.sub (ws' := []) [] rfl
  have hD9 := hD.sub (ws' := []) [] (by decide) rfl
  have r9_0 : y_3 = r1 := (Option.some.inj hf)
  exact W.iret (v := y_3) hx hb hr (fun t ht hW => ⟨⟨y_3, (), rfl, r9_0, by rw [ht]; exact hP9, va_K.moved hW.alike hK, hD9⟩, hS.F ht⟩) hS.2.2 dX9_codeFor_8
def wo_X9_operatorIny : List Cond := .code yX9_operatorIn cX9_operatorIn 1 (some .int) :: (([] : List Cond))
abbrev ww_X9_operatorIny (dC : Nat → ClassId) (dI : Nat → Nat → Nat) (cI cJ cB : ClassId) (sz : Nat) (p0 : Int32) (n9 : Nat) (r1 : Int32) : va_W := []
abbrev at_X9_operatorIny (dC : Nat → ClassId) (dI : Nat → Nat → Nat) (cI cJ cB : ClassId) (sz : Nat) (p0 : Int32) (n9 : Nat) (r1 : Int32) (u : Unit) (t : State) : Prop := match u with
  | () => va_P (dC, dI) vwCl [] t.heap ∧ va_K (dC, dI) vwCl (tyL cI cJ cB) t ∧ va_D (va_A (ww_X9_operatorIny dC dI cI cJ cB  sz p0 n9 r1) sz) []
abbrev qc_X9_operatorIny (dC : Nat → ClassId) (dI : Nat → Nat → Nat) (cI cJ cB : ClassId) (sz : Nat) (p0 : Int32) (n9 : Nat) (r1 : Int32) : Array Value → State → Outcome → State → Prop := va_Qi (fun (r : Int32) (u : Unit) => match u with | () => (r = r1)) (at_X9_operatorIny dC dI cI cJ cB  sz p0 n9 r1) (va_A (ww_X9_operatorIny dC dI cI cJ cB  sz p0 n9 r1) sz)
abbrev pc_X9_operatorIny (dC : Nat → ClassId) (dI : Nat → Nat → Nat) (cI cJ cB : ClassId) (sz : Nat) (p0 : Int32) (n9 : Nat) (r1 : Int32) : Array Value → State → Prop := va_Pc [.int p0] (fun U => U.heap.size = sz ∧ NW U ∧ va_P (dC, dI) vwCl (ww_X9_operatorIny dC dI cI cJ cB  sz p0 n9 r1) U.heap ∧ va_K (dC, dI) vwCl (tyL cI cJ cB) U ∧ va_D (fun _ => True) (ww_X9_operatorIny dC dI cI cJ cB  sz p0 n9 r1))
abbrev rm_X9_operatorIny : Room := { frames := 0, cells := 0, slots := 0, locals := 0 }
abbrev WW_X9_operatorIny (p : Program) (l : Launch) (e : Env) (s : State) (m : MethodId) (below : List Frame) (meth : Method) (c : Code) (dC : Nat → ClassId) (dI : Nat → Nat → Nat) (cI cJ cB : ClassId) (sz : Nat) (p0 : Int32) (n9 : Nat) (r1 : Int32) (H : Heap) (locs : List Loc) (g : JFrame) : Prop := W p l e rm_X9_operatorIny s m ([.int p0] : List Value).toArray below meth c H locs 0 0 (MQ below (qc_X9_operatorIny dC dI cI cJ cB  sz p0 n9 r1) ([.int p0] : List Value).toArray s 0 0 (va_A (ww_X9_operatorIny dC dI cI cJ cB  sz p0 n9 r1) sz)) g
set_option maxHeartbeats 4000000 in
set_option maxRecDepth 100000 in
theorem c_X9_operatorIny (l : Launch) (dC : Nat → ClassId) (dI : Nat → Nat → Nat) (cI cJ cB : ClassId) (sz : Nat) (p0 : Int32) (n9 : Nat) (r1 : Int32) (hf : fx_X9_operatorIn n9 p0 = some (r1)) : Met l yX9_operatorIn wo_X9_operatorIny rm_X9_operatorIny (pc_X9_operatorIny dC dI cI cJ cB  sz p0 n9 r1) (qc_X9_operatorIny dC dI cI cJ cB  sz p0 n9 r1) 0 0 (va_A (ww_X9_operatorIny dC dI cI cJ cB  sz p0 n9 r1) sz) := by
  unfold fx_X9_operatorIn at hf
  refine Met.ofW (cc := cX9_operatorIn) (maxL := 1) (ret := (some .int)) (by decide) rfl ?_
  intro p e s m args below meth c s₁ B hml hv
  obtain ⟨rfl, hsz, hnw, hP, hK, hD0⟩ := hv
  have hx := B.exec
  have hb := B.bytes
  have hr := B.returns
  have hts := atoms_spec (ws := wo_X9_operatorIny) B.pre
  have hown : s.vm.findClass RX9 = some m.cls := findClass_of_methodNamed B.named
  have hlocks := B.notSynchronized
  clear B
  subst hsz
  have hD := hD0.self (sz := s.heap.size)
  clear hD0
  have hA : ∀ q : Nat, s.heap.size ≤ q → (va_A (ww_X9_operatorIny dC dI cI cJ cB  s.heap.size p0 n9 r1) s.heap.size) q := fun q h => Or.inr h
  have hS : va_S (va_A (ww_X9_operatorIny dC dI cI cJ cB  s.heap.size p0 n9 r1) s.heap.size) s.heap s.heap [] := va_S.rf
  have hl := lv_entry ([.int p0]) (n := 1) (Nat.le_of_ble_eq_true rfl)
  rw [lg_entry_eq]
  generalize (lg_sl ([.int p0]) ++ List.replicate (1 - (lg_sl ([.int p0])).length) Slot.unset).toArray = ls at hl ⊢
  have hl : lv_has ls 1 [(0, .int p0)] := hl
  have hP : va_P (dC, dI) vwCl [] s.heap := hP
  have hD : va_D (va_A (ww_X9_operatorIny dC dI cI cJ cB  s.heap.size p0 n9 r1) s.heap.size) [] := hD
  obtain ⟨H, hH⟩ : ∃ H, H = s.heap := ⟨_, rfl⟩
  obtain ⟨locs, hlc⟩ : ∃ L : List Loc, L = [] := ⟨_, rfl⟩
  have hS : va_S (va_A (ww_X9_operatorIny dC dI cI cJ cB  s.heap.size p0 n9 r1) s.heap.size) s.heap H locs := by rw [hH, hlc]; exact hS
  have hP : va_P (dC, dI) vwCl [] H := by rw [hH]; exact hP
  suffices hgo : WW_X9_operatorIny p l e s m below meth c dC dI cI cJ cB  s.heap.size p0 n9 r1 H locs (F0 m 0 ls []) by rw [hH, hlc] at hgo; exact hgo
  clear hH hlc
  refine lv_iload_n hx hb dX9_operatorIn_0 rfl (lv_at hl 0 rfl) ?_
  refine lv_bipush (v := 8) hx hb dX9_operatorIn_1 (by decide) ?_
  refine lv_icmp_ge (tgt := 10) hx hb dX9_operatorIn_3 (by decide) (fun c_1 => ?_) (fun c_1 => ?_)
  · replace hf := xi_t c_1 hf
    refine lv_iload_n hx hb dX9_operatorIn_10 rfl (lv_at hl 0 rfl) ?_
    refine lv_iconst (v := 3) hx hb dX9_operatorIn_11 (by decide) ?_
    refine lv_ishr hx hb dX9_operatorIn_12 ?_
    refine lv_topi (fun y_2 ey_2 => ?_)
    replace hf := xl_to (v := p0 >>> (((3 : Int32)) &&& 31)) ey_2 hf
    refine lv_iconst (v := 1) hx hb dX9_operatorIn_13 (by decide) ?_
    refine lv_isub hx hb dX9_operatorIn_14 ?_
    refine lv_topi (fun y_3 ey_3 => ?_)
    replace hf := xl_to (v := y_2 - ((1 : Int32))) ey_3 hf
    have hP9 := hP.sub (ws' := []) [] rfl
    have hD9 := hD.sub (ws' := []) [] (by decide) rfl
    have r9_0 : y_3 = r1 := (Option.some.inj hf)
    exact W.iret (v := y_3) hx hb hr (fun t ht hW => ⟨⟨y_3, (), rfl, r9_0, by rw [ht]; exact hP9, va_K.moved hW.alike hK, hD9⟩, hS.F ht⟩) hS.2.2 dX9_operatorIn_15
  · replace hf := xi_f c_1 hf
    refine lv_iconst (v := -1) hx hb dX9_operatorIn_6 (by decide) ?_
    refine lv_goto (tgt := 15) hx hb dX9_operatorIn_7 (by decide) ?_
    have hP9 := hP.sub (ws' := []) [] rfl
    have hD9 := hD.sub (ws' := []) [] (by decide) rfl
    have r9_0 : (-1 : Int32) = r1 := (Option.some.inj hf)
    exact W.iret (v := (-1 : Int32)) hx hb hr (fun t ht hW => ⟨⟨(-1 : Int32), (), rfl, r9_0, by rw [ht]; exact hP9, va_K.moved hW.alike hK, hD9⟩, hS.F ht⟩) hS.2.2 dX9_operatorIn_15
def wo_X9_partsIny : List Cond := .code yX9_partsIn cX9_partsIn 1 (some .int) :: (([] : List Cond))
abbrev ww_X9_partsIny (dC : Nat → ClassId) (dI : Nat → Nat → Nat) (cI cJ cB : ClassId) (sz : Nat) (p0 : Int32) (n9 : Nat) (r1 : Int32) : va_W := []
abbrev at_X9_partsIny (dC : Nat → ClassId) (dI : Nat → Nat → Nat) (cI cJ cB : ClassId) (sz : Nat) (p0 : Int32) (n9 : Nat) (r1 : Int32) (u : Unit) (t : State) : Prop := match u with
  | () => va_P (dC, dI) vwCl [] t.heap ∧ va_K (dC, dI) vwCl (tyL cI cJ cB) t ∧ va_D (va_A (ww_X9_partsIny dC dI cI cJ cB  sz p0 n9 r1) sz) []
abbrev qc_X9_partsIny (dC : Nat → ClassId) (dI : Nat → Nat → Nat) (cI cJ cB : ClassId) (sz : Nat) (p0 : Int32) (n9 : Nat) (r1 : Int32) : Array Value → State → Outcome → State → Prop := va_Qi (fun (r : Int32) (u : Unit) => match u with | () => (r = r1)) (at_X9_partsIny dC dI cI cJ cB  sz p0 n9 r1) (va_A (ww_X9_partsIny dC dI cI cJ cB  sz p0 n9 r1) sz)
abbrev pc_X9_partsIny (dC : Nat → ClassId) (dI : Nat → Nat → Nat) (cI cJ cB : ClassId) (sz : Nat) (p0 : Int32) (n9 : Nat) (r1 : Int32) : Array Value → State → Prop := va_Pc [.int p0] (fun U => U.heap.size = sz ∧ NW U ∧ va_P (dC, dI) vwCl (ww_X9_partsIny dC dI cI cJ cB  sz p0 n9 r1) U.heap ∧ va_K (dC, dI) vwCl (tyL cI cJ cB) U ∧ va_D (fun _ => True) (ww_X9_partsIny dC dI cI cJ cB  sz p0 n9 r1))
abbrev rm_X9_partsIny : Room := { frames := 0, cells := 0, slots := 0, locals := 0 }
abbrev WW_X9_partsIny (p : Program) (l : Launch) (e : Env) (s : State) (m : MethodId) (below : List Frame) (meth : Method) (c : Code) (dC : Nat → ClassId) (dI : Nat → Nat → Nat) (cI cJ cB : ClassId) (sz : Nat) (p0 : Int32) (n9 : Nat) (r1 : Int32) (H : Heap) (locs : List Loc) (g : JFrame) : Prop := W p l e rm_X9_partsIny s m ([.int p0] : List Value).toArray below meth c H locs 0 0 (MQ below (qc_X9_partsIny dC dI cI cJ cB  sz p0 n9 r1) ([.int p0] : List Value).toArray s 0 0 (va_A (ww_X9_partsIny dC dI cI cJ cB  sz p0 n9 r1) sz)) g
set_option maxHeartbeats 4000000 in
set_option maxRecDepth 100000 in
theorem c_X9_partsIny (l : Launch) (dC : Nat → ClassId) (dI : Nat → Nat → Nat) (cI cJ cB : ClassId) (sz : Nat) (p0 : Int32) (n9 : Nat) (r1 : Int32) (hf : fx_X9_partsIn n9 p0 = some (r1)) : Met l yX9_partsIn wo_X9_partsIny rm_X9_partsIny (pc_X9_partsIny dC dI cI cJ cB  sz p0 n9 r1) (qc_X9_partsIny dC dI cI cJ cB  sz p0 n9 r1) 0 0 (va_A (ww_X9_partsIny dC dI cI cJ cB  sz p0 n9 r1) sz) := by
  unfold fx_X9_partsIn at hf
  refine Met.ofW (cc := cX9_partsIn) (maxL := 1) (ret := (some .int)) (by decide) rfl ?_
  intro p e s m args below meth c s₁ B hml hv
  obtain ⟨rfl, hsz, hnw, hP, hK, hD0⟩ := hv
  have hx := B.exec
  have hb := B.bytes
  have hr := B.returns
  have hts := atoms_spec (ws := wo_X9_partsIny) B.pre
  have hown : s.vm.findClass RX9 = some m.cls := findClass_of_methodNamed B.named
  have hlocks := B.notSynchronized
  clear B
  subst hsz
  have hD := hD0.self (sz := s.heap.size)
  clear hD0
  have hA : ∀ q : Nat, s.heap.size ≤ q → (va_A (ww_X9_partsIny dC dI cI cJ cB  s.heap.size p0 n9 r1) s.heap.size) q := fun q h => Or.inr h
  have hS : va_S (va_A (ww_X9_partsIny dC dI cI cJ cB  s.heap.size p0 n9 r1) s.heap.size) s.heap s.heap [] := va_S.rf
  have hl := lv_entry ([.int p0]) (n := 1) (Nat.le_of_ble_eq_true rfl)
  rw [lg_entry_eq]
  generalize (lg_sl ([.int p0]) ++ List.replicate (1 - (lg_sl ([.int p0])).length) Slot.unset).toArray = ls at hl ⊢
  have hl : lv_has ls 1 [(0, .int p0)] := hl
  have hP : va_P (dC, dI) vwCl [] s.heap := hP
  have hD : va_D (va_A (ww_X9_partsIny dC dI cI cJ cB  s.heap.size p0 n9 r1) s.heap.size) [] := hD
  obtain ⟨H, hH⟩ : ∃ H, H = s.heap := ⟨_, rfl⟩
  obtain ⟨locs, hlc⟩ : ∃ L : List Loc, L = [] := ⟨_, rfl⟩
  have hS : va_S (va_A (ww_X9_partsIny dC dI cI cJ cB  s.heap.size p0 n9 r1) s.heap.size) s.heap H locs := by rw [hH, hlc]; exact hS
  have hP : va_P (dC, dI) vwCl [] H := by rw [hH]; exact hP
  suffices hgo : WW_X9_partsIny p l e s m below meth c dC dI cI cJ cB  s.heap.size p0 n9 r1 H locs (F0 m 0 ls []) by rw [hH, hlc] at hgo; exact hgo
  clear hH hlc
  refine lv_iload_n hx hb dX9_partsIn_0 rfl (lv_at hl 0 rfl) ?_
  refine lv_bipush (v := 8) hx hb dX9_partsIn_1 (by decide) ?_
  refine lv_icmp_ge (tgt := 10) hx hb dX9_partsIn_3 (by decide) (fun c_1 => ?_) (fun c_1 => ?_)
  · replace hf := xi_t c_1 hf
    refine lv_iload_n hx hb dX9_partsIn_10 rfl (lv_at hl 0 rfl) ?_
    refine lv_bipush (v := 7) hx hb dX9_partsIn_11 (by decide) ?_
    refine lv_iand hx hb dX9_partsIn_13 ?_
    refine lv_topi (fun y_2 ey_2 => ?_)
    replace hf := xl_to (v := p0 &&& ((7 : Int32))) ey_2 hf
    have hP9 := hP.sub (ws' := []) [] rfl
    have hD9 := hD.sub (ws' := []) [] (by decide) rfl
    have r9_0 : y_2 = r1 := (Option.some.inj hf)
    exact W.iret (v := y_2) hx hb hr (fun t ht hW => ⟨⟨y_2, (), rfl, r9_0, by rw [ht]; exact hP9, va_K.moved hW.alike hK, hD9⟩, hS.F ht⟩) hS.2.2 dX9_partsIn_14
  · replace hf := xi_f c_1 hf
    refine lv_iconst (v := 0) hx hb dX9_partsIn_6 (by decide) ?_
    refine lv_goto (tgt := 14) hx hb dX9_partsIn_7 (by decide) ?_
    have hP9 := hP.sub (ws' := []) [] rfl
    have hD9 := hD.sub (ws' := []) [] (by decide) rfl
    have r9_0 : (0 : Int32) = r1 := (Option.some.inj hf)
    exact W.iret (v := (0 : Int32)) hx hb hr (fun t ht hW => ⟨⟨(0 : Int32), (), rfl, r9_0, by rw [ht]; exact hP9, va_K.moved hW.alike hK, hD9⟩, hS.F ht⟩) hS.2.2 dX9_partsIn_14
def wo_X5_kindOfy : List Cond := .code yX5_kindOf cX5_kindOf 2 (some .int) :: (([.fieldLink RX5 15 "SumRewriter$Signature" "kinds" "[I"] : List Cond) ++ ((wsX50)))
abbrev ww_X5_kindOfy (dC : Nat → ClassId) (dI : Nat → Nat → Nat) (cI cJ cB : ClassId) (ga ga1 ga2 ga3 ga4 ga5 : Nat) (sz : Nat) (v_ga : Nat → Nat → Int32) (p0 : Int32) (n9 : Nat) (r1 : Int32) : va_W := [(ga, .inr (5, [.ref ga1, .ref ga2, .ref ga3, .ref ga4, .ref ga5, .int (v_ga 0 0), .int (v_ga 0 1), .int (v_ga 0 2)])), (ga1, .inl (cI, 10, .inl (v_ga 1))), (ga2, .inl (cI, 10, .inl (v_ga 2))), (ga3, .inl (cI, 10, .inl (v_ga 3))), (ga4, .inl (cI, 10, .inl (v_ga 4))), (ga5, .inl (cI, 5, .inl (v_ga 5)))]
abbrev at_X5_kindOfy (dC : Nat → ClassId) (dI : Nat → Nat → Nat) (cI cJ cB : ClassId) (ga ga1 ga2 ga3 ga4 ga5 : Nat) (sz : Nat) (v_ga : Nat → Nat → Int32) (p0 : Int32) (n9 : Nat) (r1 : Int32) (u : Unit) (t : State) : Prop := match u with
  | () => va_P (dC, dI) vwCl [(ga, .inr (5, [.ref ga1, .ref ga2, .ref ga3, .ref ga4, .ref ga5, .int (v_ga 0 0), .int (v_ga 0 1), .int (v_ga 0 2)])), (ga1, .inl (cI, 10, .inl (v_ga 1))), (ga2, .inl (cI, 10, .inl (v_ga 2))), (ga3, .inl (cI, 10, .inl (v_ga 3))), (ga4, .inl (cI, 10, .inl (v_ga 4))), (ga5, .inl (cI, 5, .inl (v_ga 5)))] t.heap ∧ va_K (dC, dI) vwCl (tyL cI cJ cB) t ∧ va_D (va_A (ww_X5_kindOfy dC dI cI cJ cB ga ga1 ga2 ga3 ga4 ga5 sz v_ga p0 n9 r1) sz) [(ga, .inr (5, [.ref ga1, .ref ga2, .ref ga3, .ref ga4, .ref ga5, .int (v_ga 0 0), .int (v_ga 0 1), .int (v_ga 0 2)])), (ga1, .inl (cI, 10, .inl (v_ga 1))), (ga2, .inl (cI, 10, .inl (v_ga 2))), (ga3, .inl (cI, 10, .inl (v_ga 3))), (ga4, .inl (cI, 10, .inl (v_ga 4))), (ga5, .inl (cI, 5, .inl (v_ga 5)))]
abbrev qc_X5_kindOfy (dC : Nat → ClassId) (dI : Nat → Nat → Nat) (cI cJ cB : ClassId) (ga ga1 ga2 ga3 ga4 ga5 : Nat) (sz : Nat) (v_ga : Nat → Nat → Int32) (p0 : Int32) (n9 : Nat) (r1 : Int32) : Array Value → State → Outcome → State → Prop := va_Qi (fun (r : Int32) (u : Unit) => match u with | () => (r = r1)) (at_X5_kindOfy dC dI cI cJ cB ga ga1 ga2 ga3 ga4 ga5 sz v_ga p0 n9 r1) (va_A (ww_X5_kindOfy dC dI cI cJ cB ga ga1 ga2 ga3 ga4 ga5 sz v_ga p0 n9 r1) sz)
abbrev pc_X5_kindOfy (dC : Nat → ClassId) (dI : Nat → Nat → Nat) (cI cJ cB : ClassId) (ga ga1 ga2 ga3 ga4 ga5 : Nat) (sz : Nat) (v_ga : Nat → Nat → Int32) (p0 : Int32) (n9 : Nat) (r1 : Int32) : Array Value → State → Prop := va_Pc [.ref ga, .int p0] (fun U => U.heap.size = sz ∧ NW U ∧ va_P (dC, dI) vwCl (ww_X5_kindOfy dC dI cI cJ cB ga ga1 ga2 ga3 ga4 ga5 sz v_ga p0 n9 r1) U.heap ∧ va_K (dC, dI) vwCl (tyL cI cJ cB) U ∧ va_D (fun _ => True) (ww_X5_kindOfy dC dI cI cJ cB ga ga1 ga2 ga3 ga4 ga5 sz v_ga p0 n9 r1))
abbrev rm_X5_kindOfy : Room := { frames := 0, cells := 0, slots := 0, locals := 0 }
abbrev WW_X5_kindOfy (p : Program) (l : Launch) (e : Env) (s : State) (m : MethodId) (below : List Frame) (meth : Method) (c : Code) (dC : Nat → ClassId) (dI : Nat → Nat → Nat) (cI cJ cB : ClassId) (ga ga1 ga2 ga3 ga4 ga5 : Nat) (sz : Nat) (v_ga : Nat → Nat → Int32) (p0 : Int32) (n9 : Nat) (r1 : Int32) (H : Heap) (locs : List Loc) (g : JFrame) : Prop := W p l e rm_X5_kindOfy s m ([.ref ga, .int p0] : List Value).toArray below meth c H locs 0 0 (MQ below (qc_X5_kindOfy dC dI cI cJ cB ga ga1 ga2 ga3 ga4 ga5 sz v_ga p0 n9 r1) ([.ref ga, .int p0] : List Value).toArray s 0 0 (va_A (ww_X5_kindOfy dC dI cI cJ cB ga ga1 ga2 ga3 ga4 ga5 sz v_ga p0 n9 r1) sz)) g
set_option maxHeartbeats 4000000 in
set_option maxRecDepth 100000 in
theorem c_X5_kindOfy (l : Launch) (dC : Nat → ClassId) (dI : Nat → Nat → Nat) (cI cJ cB : ClassId) (ga ga1 ga2 ga3 ga4 ga5 : Nat) (sz : Nat) (v_ga : Nat → Nat → Int32) (p0 : Int32) (n9 : Nat) (r1 : Int32) (hf : fx_X5_kindOf n9 v_ga p0 = some (r1)) : Met l yX5_kindOf wo_X5_kindOfy rm_X5_kindOfy (pc_X5_kindOfy dC dI cI cJ cB ga ga1 ga2 ga3 ga4 ga5 sz v_ga p0 n9 r1) (qc_X5_kindOfy dC dI cI cJ cB ga ga1 ga2 ga3 ga4 ga5 sz v_ga p0 n9 r1) 0 0 (va_A (ww_X5_kindOfy dC dI cI cJ cB ga ga1 ga2 ga3 ga4 ga5 sz v_ga p0 n9 r1) sz) := by
  unfold fx_X5_kindOf at hf
  refine Met.ofW (cc := cX5_kindOf) (maxL := 2) (ret := (some .int)) (by decide) rfl ?_
  intro p e s m args below meth c s₁ B hml hv
  obtain ⟨rfl, hsz, hnw, hP, hK, hD0⟩ := hv
  have hx := B.exec
  have hb := B.bytes
  have hr := B.returns
  have hts := atoms_spec (ws := wo_X5_kindOfy) B.pre
  have hown : s.vm.findClass RX5 = some m.cls := findClass_of_methodNamed B.named
  have hlocks := B.notSynchronized
  clear B
  subst hsz
  have hD := hD0.self (sz := s.heap.size)
  clear hD0
  have kk0_ := hts (.fieldLink RX5 15 "SumRewriter$Signature" "kinds" "[I") (by decide +kernel)
  have kk1_ : ∀ w ∈ wsX50, w ∈ wo_X5_kindOfy := fun _ h => (List.mem_cons_of_mem _ (List.mem_append_right _ h))
  have hA : ∀ q : Nat, s.heap.size ≤ q → (va_A (ww_X5_kindOfy dC dI cI cJ cB ga ga1 ga2 ga3 ga4 ga5 s.heap.size v_ga p0 n9 r1) s.heap.size) q := fun q h => Or.inr h
  have hS : va_S (va_A (ww_X5_kindOfy dC dI cI cJ cB ga ga1 ga2 ga3 ga4 ga5 s.heap.size v_ga p0 n9 r1) s.heap.size) s.heap s.heap [] := va_S.rf
  have hl := lv_entry ([.ref ga, .int p0]) (n := 2) (Nat.le_of_ble_eq_true rfl)
  rw [lg_entry_eq]
  generalize (lg_sl ([.ref ga, .int p0]) ++ List.replicate (2 - (lg_sl ([.ref ga, .int p0])).length) Slot.unset).toArray = ls at hl ⊢
  have hl : lv_has ls 2 [(0, .ref ga), (1, .int p0)] := hl
  have hP : va_P (dC, dI) vwCl [(ga, .inr (5, [.ref ga1, .ref ga2, .ref ga3, .ref ga4, .ref ga5, .int (v_ga 0 0), .int (v_ga 0 1), .int (v_ga 0 2)])), (ga1, .inl (cI, 10, .inl (v_ga 1))), (ga2, .inl (cI, 10, .inl (v_ga 2))), (ga3, .inl (cI, 10, .inl (v_ga 3))), (ga4, .inl (cI, 10, .inl (v_ga 4))), (ga5, .inl (cI, 5, .inl (v_ga 5)))] s.heap := hP
  have hD : va_D (va_A (ww_X5_kindOfy dC dI cI cJ cB ga ga1 ga2 ga3 ga4 ga5 s.heap.size v_ga p0 n9 r1) s.heap.size) [(ga, .inr (5, [.ref ga1, .ref ga2, .ref ga3, .ref ga4, .ref ga5, .int (v_ga 0 0), .int (v_ga 0 1), .int (v_ga 0 2)])), (ga1, .inl (cI, 10, .inl (v_ga 1))), (ga2, .inl (cI, 10, .inl (v_ga 2))), (ga3, .inl (cI, 10, .inl (v_ga 3))), (ga4, .inl (cI, 10, .inl (v_ga 4))), (ga5, .inl (cI, 5, .inl (v_ga 5)))] := hD
  obtain ⟨H, hH⟩ : ∃ H, H = s.heap := ⟨_, rfl⟩
  obtain ⟨locs, hlc⟩ : ∃ L : List Loc, L = [] := ⟨_, rfl⟩
  have hS : va_S (va_A (ww_X5_kindOfy dC dI cI cJ cB ga ga1 ga2 ga3 ga4 ga5 s.heap.size v_ga p0 n9 r1) s.heap.size) s.heap H locs := by rw [hH, hlc]; exact hS
  have hP : va_P (dC, dI) vwCl [(ga, .inr (5, [.ref ga1, .ref ga2, .ref ga3, .ref ga4, .ref ga5, .int (v_ga 0 0), .int (v_ga 0 1), .int (v_ga 0 2)])), (ga1, .inl (cI, 10, .inl (v_ga 1))), (ga2, .inl (cI, 10, .inl (v_ga 2))), (ga3, .inl (cI, 10, .inl (v_ga 3))), (ga4, .inl (cI, 10, .inl (v_ga 4))), (ga5, .inl (cI, 5, .inl (v_ga 5)))] H := by rw [hH]; exact hP
  suffices hgo : WW_X5_kindOfy p l e s m below meth c dC dI cI cJ cB ga ga1 ga2 ga3 ga4 ga5 s.heap.size v_ga p0 n9 r1 H locs (F0 m 0 ls []) by rw [hH, hlc] at hgo; exact hgo
  clear hH hlc
  refine lv_iload_n hx hb dX5_kindOf_0 rfl (lv_at hl 1 rfl) ?_
  refine lv_if_lt (tgt := 19) hx hb dX5_kindOf_1 (by decide) (fun c_1 => ?_) (fun c_1 => ?_)
  · replace hf := xi_t c_1 hf
    refine lv_iconst (v := 0) hx hb dX5_kindOf_19 (by decide) ?_
    have hP9 := hP.sub (ws' := [(ga, .inr (5, [.ref ga1, .ref ga2, .ref ga3, .ref ga4, .ref ga5, .int (v_ga 0 0), .int (v_ga 0 1), .int (v_ga 0 2)])), (ga1, .inl (cI, 10, .inl (v_ga 1))), (ga2, .inl (cI, 10, .inl (v_ga 2))), (ga3, .inl (cI, 10, .inl (v_ga 3))), (ga4, .inl (cI, 10, .inl (v_ga 4))), (ga5, .inl (cI, 5, .inl (v_ga 5)))]) [0, 1, 2, 3, 4, 5] rfl
    have hD9 := hD.sub (ws' := [(ga, .inr (5, [.ref ga1, .ref ga2, .ref ga3, .ref ga4, .ref ga5, .int (v_ga 0 0), .int (v_ga 0 1), .int (v_ga 0 2)])), (ga1, .inl (cI, 10, .inl (v_ga 1))), (ga2, .inl (cI, 10, .inl (v_ga 2))), (ga3, .inl (cI, 10, .inl (v_ga 3))), (ga4, .inl (cI, 10, .inl (v_ga 4))), (ga5, .inl (cI, 5, .inl (v_ga 5)))]) [0, 1, 2, 3, 4, 5] (by decide) rfl
    have r9_0 : (0 : Int32) = r1 := (Option.some.inj hf)
    exact W.iret (v := (0 : Int32)) hx hb hr (fun t ht hW => ⟨⟨(0 : Int32), (), rfl, r9_0, by rw [ht]; exact hP9, va_K.moved hW.alike hK, hD9⟩, hS.F ht⟩) hS.2.2 dX5_kindOf_20
  · replace hf := xi_f c_1 hf
    refine lv_iload_n hx hb dX5_kindOf_4 rfl (lv_at hl 1 rfl) ?_
    refine lv_bipush (v := 10) hx hb dX5_kindOf_5 (by decide) ?_
    refine lv_icmp_ge (tgt := 19) hx hb dX5_kindOf_7 (by decide) (fun c_2 => ?_) (fun c_2 => ?_)
    · replace hf := xi_t c_2 hf
      refine lv_iconst (v := 0) hx hb dX5_kindOf_19 (by decide) ?_
      have hP9 := hP.sub (ws' := [(ga, .inr (5, [.ref ga1, .ref ga2, .ref ga3, .ref ga4, .ref ga5, .int (v_ga 0 0), .int (v_ga 0 1), .int (v_ga 0 2)])), (ga1, .inl (cI, 10, .inl (v_ga 1))), (ga2, .inl (cI, 10, .inl (v_ga 2))), (ga3, .inl (cI, 10, .inl (v_ga 3))), (ga4, .inl (cI, 10, .inl (v_ga 4))), (ga5, .inl (cI, 5, .inl (v_ga 5)))]) [0, 1, 2, 3, 4, 5] rfl
      have hD9 := hD.sub (ws' := [(ga, .inr (5, [.ref ga1, .ref ga2, .ref ga3, .ref ga4, .ref ga5, .int (v_ga 0 0), .int (v_ga 0 1), .int (v_ga 0 2)])), (ga1, .inl (cI, 10, .inl (v_ga 1))), (ga2, .inl (cI, 10, .inl (v_ga 2))), (ga3, .inl (cI, 10, .inl (v_ga 3))), (ga4, .inl (cI, 10, .inl (v_ga 4))), (ga5, .inl (cI, 5, .inl (v_ga 5)))]) [0, 1, 2, 3, 4, 5] (by decide) rfl
      have r9_0 : (0 : Int32) = r1 := (Option.some.inj hf)
      exact W.iret (v := (0 : Int32)) hx hb hr (fun t ht hW => ⟨⟨(0 : Int32), (), rfl, r9_0, by rw [ht]; exact hP9, va_K.moved hW.alike hK, hD9⟩, hS.F ht⟩) hS.2.2 dX5_kindOf_20
    · replace hf := xi_f c_2 hf
      refine lv_aload_n hx hb dX5_kindOf_10 rfl (lv_at hl 0 rfl) ?_
      refine va_get (D := (dC, dI)) (ci := 5) (v := .ref ga2) (C := RX5) (T := TX5) (N := 8) hx hb hts kk1_ hown hK hP 0 rfl rfl 1 (by decide) kk0_ (fun _ h9 => h9) rfl dX5_kindOf_11 ?_
      refine lv_iload_n hx hb dX5_kindOf_14 rfl (lv_at hl 1 rfl) ?_
      refine va_iald hx hb hK hP 2 0 rfl rfl (vp_in_iff.mpr (xr_in hf)) dX5_kindOf_15 ?_
      refine lv_topi (fun y_3 ey_3 => ?_)
      replace hf := xr_to ey_3 hf
      refine lv_goto (tgt := 20) hx hb dX5_kindOf_16 (by decide) ?_
      have hP9 := hP.sub (ws' := [(ga, .inr (5, [.ref ga1, .ref ga2, .ref ga3, .ref ga4, .ref ga5, .int (v_ga 0 0), .int (v_ga 0 1), .int (v_ga 0 2)])), (ga1, .inl (cI, 10, .inl (v_ga 1))), (ga2, .inl (cI, 10, .inl (v_ga 2))), (ga3, .inl (cI, 10, .inl (v_ga 3))), (ga4, .inl (cI, 10, .inl (v_ga 4))), (ga5, .inl (cI, 5, .inl (v_ga 5)))]) [0, 1, 2, 3, 4, 5] rfl
      have hD9 := hD.sub (ws' := [(ga, .inr (5, [.ref ga1, .ref ga2, .ref ga3, .ref ga4, .ref ga5, .int (v_ga 0 0), .int (v_ga 0 1), .int (v_ga 0 2)])), (ga1, .inl (cI, 10, .inl (v_ga 1))), (ga2, .inl (cI, 10, .inl (v_ga 2))), (ga3, .inl (cI, 10, .inl (v_ga 3))), (ga4, .inl (cI, 10, .inl (v_ga 4))), (ga5, .inl (cI, 5, .inl (v_ga 5)))]) [0, 1, 2, 3, 4, 5] (by decide) rfl
      have r9_0 : y_3 = r1 := (Option.some.inj hf)
      exact W.iret (v := y_3) hx hb hr (fun t ht hW => ⟨⟨y_3, (), rfl, r9_0, by rw [ht]; exact hP9, va_K.moved hW.alike hK, hD9⟩, hS.F ht⟩) hS.2.2 dX5_kindOf_20
def wo_X5_partsOfy : List Cond := .code yX5_partsOf cX5_partsOf 2 (some .int) :: (([.fieldLink RX5 18 "SumRewriter$Signature" "parts" "[I"] : List Cond) ++ ((wsX50)))
abbrev ww_X5_partsOfy (dC : Nat → ClassId) (dI : Nat → Nat → Nat) (cI cJ cB : ClassId) (ga ga1 ga2 ga3 ga4 ga5 : Nat) (sz : Nat) (v_ga : Nat → Nat → Int32) (p0 : Int32) (n9 : Nat) (r1 : Int32) : va_W := [(ga, .inr (5, [.ref ga1, .ref ga2, .ref ga3, .ref ga4, .ref ga5, .int (v_ga 0 0), .int (v_ga 0 1), .int (v_ga 0 2)])), (ga1, .inl (cI, 10, .inl (v_ga 1))), (ga2, .inl (cI, 10, .inl (v_ga 2))), (ga3, .inl (cI, 10, .inl (v_ga 3))), (ga4, .inl (cI, 10, .inl (v_ga 4))), (ga5, .inl (cI, 5, .inl (v_ga 5)))]
abbrev at_X5_partsOfy (dC : Nat → ClassId) (dI : Nat → Nat → Nat) (cI cJ cB : ClassId) (ga ga1 ga2 ga3 ga4 ga5 : Nat) (sz : Nat) (v_ga : Nat → Nat → Int32) (p0 : Int32) (n9 : Nat) (r1 : Int32) (u : Unit) (t : State) : Prop := match u with
  | () => va_P (dC, dI) vwCl [(ga, .inr (5, [.ref ga1, .ref ga2, .ref ga3, .ref ga4, .ref ga5, .int (v_ga 0 0), .int (v_ga 0 1), .int (v_ga 0 2)])), (ga1, .inl (cI, 10, .inl (v_ga 1))), (ga2, .inl (cI, 10, .inl (v_ga 2))), (ga3, .inl (cI, 10, .inl (v_ga 3))), (ga4, .inl (cI, 10, .inl (v_ga 4))), (ga5, .inl (cI, 5, .inl (v_ga 5)))] t.heap ∧ va_K (dC, dI) vwCl (tyL cI cJ cB) t ∧ va_D (va_A (ww_X5_partsOfy dC dI cI cJ cB ga ga1 ga2 ga3 ga4 ga5 sz v_ga p0 n9 r1) sz) [(ga, .inr (5, [.ref ga1, .ref ga2, .ref ga3, .ref ga4, .ref ga5, .int (v_ga 0 0), .int (v_ga 0 1), .int (v_ga 0 2)])), (ga1, .inl (cI, 10, .inl (v_ga 1))), (ga2, .inl (cI, 10, .inl (v_ga 2))), (ga3, .inl (cI, 10, .inl (v_ga 3))), (ga4, .inl (cI, 10, .inl (v_ga 4))), (ga5, .inl (cI, 5, .inl (v_ga 5)))]
abbrev qc_X5_partsOfy (dC : Nat → ClassId) (dI : Nat → Nat → Nat) (cI cJ cB : ClassId) (ga ga1 ga2 ga3 ga4 ga5 : Nat) (sz : Nat) (v_ga : Nat → Nat → Int32) (p0 : Int32) (n9 : Nat) (r1 : Int32) : Array Value → State → Outcome → State → Prop := va_Qi (fun (r : Int32) (u : Unit) => match u with | () => (r = r1)) (at_X5_partsOfy dC dI cI cJ cB ga ga1 ga2 ga3 ga4 ga5 sz v_ga p0 n9 r1) (va_A (ww_X5_partsOfy dC dI cI cJ cB ga ga1 ga2 ga3 ga4 ga5 sz v_ga p0 n9 r1) sz)
abbrev pc_X5_partsOfy (dC : Nat → ClassId) (dI : Nat → Nat → Nat) (cI cJ cB : ClassId) (ga ga1 ga2 ga3 ga4 ga5 : Nat) (sz : Nat) (v_ga : Nat → Nat → Int32) (p0 : Int32) (n9 : Nat) (r1 : Int32) : Array Value → State → Prop := va_Pc [.ref ga, .int p0] (fun U => U.heap.size = sz ∧ NW U ∧ va_P (dC, dI) vwCl (ww_X5_partsOfy dC dI cI cJ cB ga ga1 ga2 ga3 ga4 ga5 sz v_ga p0 n9 r1) U.heap ∧ va_K (dC, dI) vwCl (tyL cI cJ cB) U ∧ va_D (fun _ => True) (ww_X5_partsOfy dC dI cI cJ cB ga ga1 ga2 ga3 ga4 ga5 sz v_ga p0 n9 r1))
abbrev rm_X5_partsOfy : Room := { frames := 0, cells := 0, slots := 0, locals := 0 }
abbrev WW_X5_partsOfy (p : Program) (l : Launch) (e : Env) (s : State) (m : MethodId) (below : List Frame) (meth : Method) (c : Code) (dC : Nat → ClassId) (dI : Nat → Nat → Nat) (cI cJ cB : ClassId) (ga ga1 ga2 ga3 ga4 ga5 : Nat) (sz : Nat) (v_ga : Nat → Nat → Int32) (p0 : Int32) (n9 : Nat) (r1 : Int32) (H : Heap) (locs : List Loc) (g : JFrame) : Prop := W p l e rm_X5_partsOfy s m ([.ref ga, .int p0] : List Value).toArray below meth c H locs 0 0 (MQ below (qc_X5_partsOfy dC dI cI cJ cB ga ga1 ga2 ga3 ga4 ga5 sz v_ga p0 n9 r1) ([.ref ga, .int p0] : List Value).toArray s 0 0 (va_A (ww_X5_partsOfy dC dI cI cJ cB ga ga1 ga2 ga3 ga4 ga5 sz v_ga p0 n9 r1) sz)) g
set_option maxHeartbeats 4000000 in
set_option maxRecDepth 100000 in
theorem c_X5_partsOfy (l : Launch) (dC : Nat → ClassId) (dI : Nat → Nat → Nat) (cI cJ cB : ClassId) (ga ga1 ga2 ga3 ga4 ga5 : Nat) (sz : Nat) (v_ga : Nat → Nat → Int32) (p0 : Int32) (n9 : Nat) (r1 : Int32) (hf : fx_X5_partsOf n9 v_ga p0 = some (r1)) : Met l yX5_partsOf wo_X5_partsOfy rm_X5_partsOfy (pc_X5_partsOfy dC dI cI cJ cB ga ga1 ga2 ga3 ga4 ga5 sz v_ga p0 n9 r1) (qc_X5_partsOfy dC dI cI cJ cB ga ga1 ga2 ga3 ga4 ga5 sz v_ga p0 n9 r1) 0 0 (va_A (ww_X5_partsOfy dC dI cI cJ cB ga ga1 ga2 ga3 ga4 ga5 sz v_ga p0 n9 r1) sz) := by
  unfold fx_X5_partsOf at hf
  refine Met.ofW (cc := cX5_partsOf) (maxL := 2) (ret := (some .int)) (by decide) rfl ?_
  intro p e s m args below meth c s₁ B hml hv
  obtain ⟨rfl, hsz, hnw, hP, hK, hD0⟩ := hv
  have hx := B.exec
  have hb := B.bytes
  have hr := B.returns
  have hts := atoms_spec (ws := wo_X5_partsOfy) B.pre
  have hown : s.vm.findClass RX5 = some m.cls := findClass_of_methodNamed B.named
  have hlocks := B.notSynchronized
  clear B
  subst hsz
  have hD := hD0.self (sz := s.heap.size)
  clear hD0
  have kk0_ := hts (.fieldLink RX5 18 "SumRewriter$Signature" "parts" "[I") (by decide +kernel)
  have kk1_ : ∀ w ∈ wsX50, w ∈ wo_X5_partsOfy := fun _ h => (List.mem_cons_of_mem _ (List.mem_append_right _ h))
  have hA : ∀ q : Nat, s.heap.size ≤ q → (va_A (ww_X5_partsOfy dC dI cI cJ cB ga ga1 ga2 ga3 ga4 ga5 s.heap.size v_ga p0 n9 r1) s.heap.size) q := fun q h => Or.inr h
  have hS : va_S (va_A (ww_X5_partsOfy dC dI cI cJ cB ga ga1 ga2 ga3 ga4 ga5 s.heap.size v_ga p0 n9 r1) s.heap.size) s.heap s.heap [] := va_S.rf
  have hl := lv_entry ([.ref ga, .int p0]) (n := 2) (Nat.le_of_ble_eq_true rfl)
  rw [lg_entry_eq]
  generalize (lg_sl ([.ref ga, .int p0]) ++ List.replicate (2 - (lg_sl ([.ref ga, .int p0])).length) Slot.unset).toArray = ls at hl ⊢
  have hl : lv_has ls 2 [(0, .ref ga), (1, .int p0)] := hl
  have hP : va_P (dC, dI) vwCl [(ga, .inr (5, [.ref ga1, .ref ga2, .ref ga3, .ref ga4, .ref ga5, .int (v_ga 0 0), .int (v_ga 0 1), .int (v_ga 0 2)])), (ga1, .inl (cI, 10, .inl (v_ga 1))), (ga2, .inl (cI, 10, .inl (v_ga 2))), (ga3, .inl (cI, 10, .inl (v_ga 3))), (ga4, .inl (cI, 10, .inl (v_ga 4))), (ga5, .inl (cI, 5, .inl (v_ga 5)))] s.heap := hP
  have hD : va_D (va_A (ww_X5_partsOfy dC dI cI cJ cB ga ga1 ga2 ga3 ga4 ga5 s.heap.size v_ga p0 n9 r1) s.heap.size) [(ga, .inr (5, [.ref ga1, .ref ga2, .ref ga3, .ref ga4, .ref ga5, .int (v_ga 0 0), .int (v_ga 0 1), .int (v_ga 0 2)])), (ga1, .inl (cI, 10, .inl (v_ga 1))), (ga2, .inl (cI, 10, .inl (v_ga 2))), (ga3, .inl (cI, 10, .inl (v_ga 3))), (ga4, .inl (cI, 10, .inl (v_ga 4))), (ga5, .inl (cI, 5, .inl (v_ga 5)))] := hD
  obtain ⟨H, hH⟩ : ∃ H, H = s.heap := ⟨_, rfl⟩
  obtain ⟨locs, hlc⟩ : ∃ L : List Loc, L = [] := ⟨_, rfl⟩
  have hS : va_S (va_A (ww_X5_partsOfy dC dI cI cJ cB ga ga1 ga2 ga3 ga4 ga5 s.heap.size v_ga p0 n9 r1) s.heap.size) s.heap H locs := by rw [hH, hlc]; exact hS
  have hP : va_P (dC, dI) vwCl [(ga, .inr (5, [.ref ga1, .ref ga2, .ref ga3, .ref ga4, .ref ga5, .int (v_ga 0 0), .int (v_ga 0 1), .int (v_ga 0 2)])), (ga1, .inl (cI, 10, .inl (v_ga 1))), (ga2, .inl (cI, 10, .inl (v_ga 2))), (ga3, .inl (cI, 10, .inl (v_ga 3))), (ga4, .inl (cI, 10, .inl (v_ga 4))), (ga5, .inl (cI, 5, .inl (v_ga 5)))] H := by rw [hH]; exact hP
  suffices hgo : WW_X5_partsOfy p l e s m below meth c dC dI cI cJ cB ga ga1 ga2 ga3 ga4 ga5 s.heap.size v_ga p0 n9 r1 H locs (F0 m 0 ls []) by rw [hH, hlc] at hgo; exact hgo
  clear hH hlc
  refine lv_iload_n hx hb dX5_partsOf_0 rfl (lv_at hl 1 rfl) ?_
  refine lv_if_lt (tgt := 19) hx hb dX5_partsOf_1 (by decide) (fun c_1 => ?_) (fun c_1 => ?_)
  · replace hf := xi_t c_1 hf
    refine lv_iconst (v := 0) hx hb dX5_partsOf_19 (by decide) ?_
    have hP9 := hP.sub (ws' := [(ga, .inr (5, [.ref ga1, .ref ga2, .ref ga3, .ref ga4, .ref ga5, .int (v_ga 0 0), .int (v_ga 0 1), .int (v_ga 0 2)])), (ga1, .inl (cI, 10, .inl (v_ga 1))), (ga2, .inl (cI, 10, .inl (v_ga 2))), (ga3, .inl (cI, 10, .inl (v_ga 3))), (ga4, .inl (cI, 10, .inl (v_ga 4))), (ga5, .inl (cI, 5, .inl (v_ga 5)))]) [0, 1, 2, 3, 4, 5] rfl
    have hD9 := hD.sub (ws' := [(ga, .inr (5, [.ref ga1, .ref ga2, .ref ga3, .ref ga4, .ref ga5, .int (v_ga 0 0), .int (v_ga 0 1), .int (v_ga 0 2)])), (ga1, .inl (cI, 10, .inl (v_ga 1))), (ga2, .inl (cI, 10, .inl (v_ga 2))), (ga3, .inl (cI, 10, .inl (v_ga 3))), (ga4, .inl (cI, 10, .inl (v_ga 4))), (ga5, .inl (cI, 5, .inl (v_ga 5)))]) [0, 1, 2, 3, 4, 5] (by decide) rfl
    have r9_0 : (0 : Int32) = r1 := (Option.some.inj hf)
    exact W.iret (v := (0 : Int32)) hx hb hr (fun t ht hW => ⟨⟨(0 : Int32), (), rfl, r9_0, by rw [ht]; exact hP9, va_K.moved hW.alike hK, hD9⟩, hS.F ht⟩) hS.2.2 dX5_partsOf_20
  · replace hf := xi_f c_1 hf
    refine lv_iload_n hx hb dX5_partsOf_4 rfl (lv_at hl 1 rfl) ?_
    refine lv_bipush (v := 10) hx hb dX5_partsOf_5 (by decide) ?_
    refine lv_icmp_ge (tgt := 19) hx hb dX5_partsOf_7 (by decide) (fun c_2 => ?_) (fun c_2 => ?_)
    · replace hf := xi_t c_2 hf
      refine lv_iconst (v := 0) hx hb dX5_partsOf_19 (by decide) ?_
      have hP9 := hP.sub (ws' := [(ga, .inr (5, [.ref ga1, .ref ga2, .ref ga3, .ref ga4, .ref ga5, .int (v_ga 0 0), .int (v_ga 0 1), .int (v_ga 0 2)])), (ga1, .inl (cI, 10, .inl (v_ga 1))), (ga2, .inl (cI, 10, .inl (v_ga 2))), (ga3, .inl (cI, 10, .inl (v_ga 3))), (ga4, .inl (cI, 10, .inl (v_ga 4))), (ga5, .inl (cI, 5, .inl (v_ga 5)))]) [0, 1, 2, 3, 4, 5] rfl
      have hD9 := hD.sub (ws' := [(ga, .inr (5, [.ref ga1, .ref ga2, .ref ga3, .ref ga4, .ref ga5, .int (v_ga 0 0), .int (v_ga 0 1), .int (v_ga 0 2)])), (ga1, .inl (cI, 10, .inl (v_ga 1))), (ga2, .inl (cI, 10, .inl (v_ga 2))), (ga3, .inl (cI, 10, .inl (v_ga 3))), (ga4, .inl (cI, 10, .inl (v_ga 4))), (ga5, .inl (cI, 5, .inl (v_ga 5)))]) [0, 1, 2, 3, 4, 5] (by decide) rfl
      have r9_0 : (0 : Int32) = r1 := (Option.some.inj hf)
      exact W.iret (v := (0 : Int32)) hx hb hr (fun t ht hW => ⟨⟨(0 : Int32), (), rfl, r9_0, by rw [ht]; exact hP9, va_K.moved hW.alike hK, hD9⟩, hS.F ht⟩) hS.2.2 dX5_partsOf_20
    · replace hf := xi_f c_2 hf
      refine lv_aload_n hx hb dX5_partsOf_10 rfl (lv_at hl 0 rfl) ?_
      refine va_get (D := (dC, dI)) (ci := 5) (v := .ref ga3) (C := RX5) (T := TX5) (N := 8) hx hb hts kk1_ hown hK hP 0 rfl rfl 2 (by decide) kk0_ (fun _ h9 => h9) rfl dX5_partsOf_11 ?_
      refine lv_iload_n hx hb dX5_partsOf_14 rfl (lv_at hl 1 rfl) ?_
      refine va_iald hx hb hK hP 3 0 rfl rfl (vp_in_iff.mpr (xr_in hf)) dX5_partsOf_15 ?_
      refine lv_topi (fun y_3 ey_3 => ?_)
      replace hf := xr_to ey_3 hf
      refine lv_goto (tgt := 20) hx hb dX5_partsOf_16 (by decide) ?_
      have hP9 := hP.sub (ws' := [(ga, .inr (5, [.ref ga1, .ref ga2, .ref ga3, .ref ga4, .ref ga5, .int (v_ga 0 0), .int (v_ga 0 1), .int (v_ga 0 2)])), (ga1, .inl (cI, 10, .inl (v_ga 1))), (ga2, .inl (cI, 10, .inl (v_ga 2))), (ga3, .inl (cI, 10, .inl (v_ga 3))), (ga4, .inl (cI, 10, .inl (v_ga 4))), (ga5, .inl (cI, 5, .inl (v_ga 5)))]) [0, 1, 2, 3, 4, 5] rfl
      have hD9 := hD.sub (ws' := [(ga, .inr (5, [.ref ga1, .ref ga2, .ref ga3, .ref ga4, .ref ga5, .int (v_ga 0 0), .int (v_ga 0 1), .int (v_ga 0 2)])), (ga1, .inl (cI, 10, .inl (v_ga 1))), (ga2, .inl (cI, 10, .inl (v_ga 2))), (ga3, .inl (cI, 10, .inl (v_ga 3))), (ga4, .inl (cI, 10, .inl (v_ga 4))), (ga5, .inl (cI, 5, .inl (v_ga 5)))]) [0, 1, 2, 3, 4, 5] (by decide) rfl
      have r9_0 : y_3 = r1 := (Option.some.inj hf)
      exact W.iret (v := y_3) hx hb hr (fun t ht hW => ⟨⟨y_3, (), rfl, r9_0, by rw [ht]; exact hP9, va_K.moved hW.alike hK, hD9⟩, hS.F ht⟩) hS.2.2 dX5_partsOf_20
def wo_X5_unitOfy : List Cond := .code yX5_unitOf cX5_unitOf 2 (some .int) :: (([.fieldLink RX5 21 "SumRewriter$Signature" "units" "[I"] : List Cond) ++ ((wsX50)))
abbrev ww_X5_unitOfy (dC : Nat → ClassId) (dI : Nat → Nat → Nat) (cI cJ cB : ClassId) (ga ga1 ga2 ga3 ga4 ga5 : Nat) (sz : Nat) (v_ga : Nat → Nat → Int32) (p0 : Int32) (n9 : Nat) (r1 : Int32) : va_W := [(ga, .inr (5, [.ref ga1, .ref ga2, .ref ga3, .ref ga4, .ref ga5, .int (v_ga 0 0), .int (v_ga 0 1), .int (v_ga 0 2)])), (ga1, .inl (cI, 10, .inl (v_ga 1))), (ga2, .inl (cI, 10, .inl (v_ga 2))), (ga3, .inl (cI, 10, .inl (v_ga 3))), (ga4, .inl (cI, 10, .inl (v_ga 4))), (ga5, .inl (cI, 5, .inl (v_ga 5)))]
abbrev at_X5_unitOfy (dC : Nat → ClassId) (dI : Nat → Nat → Nat) (cI cJ cB : ClassId) (ga ga1 ga2 ga3 ga4 ga5 : Nat) (sz : Nat) (v_ga : Nat → Nat → Int32) (p0 : Int32) (n9 : Nat) (r1 : Int32) (u : Unit) (t : State) : Prop := match u with
  | () => va_P (dC, dI) vwCl [(ga, .inr (5, [.ref ga1, .ref ga2, .ref ga3, .ref ga4, .ref ga5, .int (v_ga 0 0), .int (v_ga 0 1), .int (v_ga 0 2)])), (ga1, .inl (cI, 10, .inl (v_ga 1))), (ga2, .inl (cI, 10, .inl (v_ga 2))), (ga3, .inl (cI, 10, .inl (v_ga 3))), (ga4, .inl (cI, 10, .inl (v_ga 4))), (ga5, .inl (cI, 5, .inl (v_ga 5)))] t.heap ∧ va_K (dC, dI) vwCl (tyL cI cJ cB) t ∧ va_D (va_A (ww_X5_unitOfy dC dI cI cJ cB ga ga1 ga2 ga3 ga4 ga5 sz v_ga p0 n9 r1) sz) [(ga, .inr (5, [.ref ga1, .ref ga2, .ref ga3, .ref ga4, .ref ga5, .int (v_ga 0 0), .int (v_ga 0 1), .int (v_ga 0 2)])), (ga1, .inl (cI, 10, .inl (v_ga 1))), (ga2, .inl (cI, 10, .inl (v_ga 2))), (ga3, .inl (cI, 10, .inl (v_ga 3))), (ga4, .inl (cI, 10, .inl (v_ga 4))), (ga5, .inl (cI, 5, .inl (v_ga 5)))]
abbrev qc_X5_unitOfy (dC : Nat → ClassId) (dI : Nat → Nat → Nat) (cI cJ cB : ClassId) (ga ga1 ga2 ga3 ga4 ga5 : Nat) (sz : Nat) (v_ga : Nat → Nat → Int32) (p0 : Int32) (n9 : Nat) (r1 : Int32) : Array Value → State → Outcome → State → Prop := va_Qi (fun (r : Int32) (u : Unit) => match u with | () => (r = r1)) (at_X5_unitOfy dC dI cI cJ cB ga ga1 ga2 ga3 ga4 ga5 sz v_ga p0 n9 r1) (va_A (ww_X5_unitOfy dC dI cI cJ cB ga ga1 ga2 ga3 ga4 ga5 sz v_ga p0 n9 r1) sz)
abbrev pc_X5_unitOfy (dC : Nat → ClassId) (dI : Nat → Nat → Nat) (cI cJ cB : ClassId) (ga ga1 ga2 ga3 ga4 ga5 : Nat) (sz : Nat) (v_ga : Nat → Nat → Int32) (p0 : Int32) (n9 : Nat) (r1 : Int32) : Array Value → State → Prop := va_Pc [.ref ga, .int p0] (fun U => U.heap.size = sz ∧ NW U ∧ va_P (dC, dI) vwCl (ww_X5_unitOfy dC dI cI cJ cB ga ga1 ga2 ga3 ga4 ga5 sz v_ga p0 n9 r1) U.heap ∧ va_K (dC, dI) vwCl (tyL cI cJ cB) U ∧ va_D (fun _ => True) (ww_X5_unitOfy dC dI cI cJ cB ga ga1 ga2 ga3 ga4 ga5 sz v_ga p0 n9 r1))
abbrev rm_X5_unitOfy : Room := { frames := 0, cells := 0, slots := 0, locals := 0 }
abbrev WW_X5_unitOfy (p : Program) (l : Launch) (e : Env) (s : State) (m : MethodId) (below : List Frame) (meth : Method) (c : Code) (dC : Nat → ClassId) (dI : Nat → Nat → Nat) (cI cJ cB : ClassId) (ga ga1 ga2 ga3 ga4 ga5 : Nat) (sz : Nat) (v_ga : Nat → Nat → Int32) (p0 : Int32) (n9 : Nat) (r1 : Int32) (H : Heap) (locs : List Loc) (g : JFrame) : Prop := W p l e rm_X5_unitOfy s m ([.ref ga, .int p0] : List Value).toArray below meth c H locs 0 0 (MQ below (qc_X5_unitOfy dC dI cI cJ cB ga ga1 ga2 ga3 ga4 ga5 sz v_ga p0 n9 r1) ([.ref ga, .int p0] : List Value).toArray s 0 0 (va_A (ww_X5_unitOfy dC dI cI cJ cB ga ga1 ga2 ga3 ga4 ga5 sz v_ga p0 n9 r1) sz)) g
set_option maxHeartbeats 4000000 in
set_option maxRecDepth 100000 in
theorem c_X5_unitOfy (l : Launch) (dC : Nat → ClassId) (dI : Nat → Nat → Nat) (cI cJ cB : ClassId) (ga ga1 ga2 ga3 ga4 ga5 : Nat) (sz : Nat) (v_ga : Nat → Nat → Int32) (p0 : Int32) (n9 : Nat) (r1 : Int32) (hf : fx_X5_unitOf n9 v_ga p0 = some (r1)) : Met l yX5_unitOf wo_X5_unitOfy rm_X5_unitOfy (pc_X5_unitOfy dC dI cI cJ cB ga ga1 ga2 ga3 ga4 ga5 sz v_ga p0 n9 r1) (qc_X5_unitOfy dC dI cI cJ cB ga ga1 ga2 ga3 ga4 ga5 sz v_ga p0 n9 r1) 0 0 (va_A (ww_X5_unitOfy dC dI cI cJ cB ga ga1 ga2 ga3 ga4 ga5 sz v_ga p0 n9 r1) sz) := by
  unfold fx_X5_unitOf at hf
  refine Met.ofW (cc := cX5_unitOf) (maxL := 2) (ret := (some .int)) (by decide) rfl ?_
  intro p e s m args below meth c s₁ B hml hv
  obtain ⟨rfl, hsz, hnw, hP, hK, hD0⟩ := hv
  have hx := B.exec
  have hb := B.bytes
  have hr := B.returns
  have hts := atoms_spec (ws := wo_X5_unitOfy) B.pre
  have hown : s.vm.findClass RX5 = some m.cls := findClass_of_methodNamed B.named
  have hlocks := B.notSynchronized
  clear B
  subst hsz
  have hD := hD0.self (sz := s.heap.size)
  clear hD0
  have kk0_ := hts (.fieldLink RX5 21 "SumRewriter$Signature" "units" "[I") (by decide +kernel)
  have kk1_ : ∀ w ∈ wsX50, w ∈ wo_X5_unitOfy := fun _ h => (List.mem_cons_of_mem _ (List.mem_append_right _ h))
  have hA : ∀ q : Nat, s.heap.size ≤ q → (va_A (ww_X5_unitOfy dC dI cI cJ cB ga ga1 ga2 ga3 ga4 ga5 s.heap.size v_ga p0 n9 r1) s.heap.size) q := fun q h => Or.inr h
  have hS : va_S (va_A (ww_X5_unitOfy dC dI cI cJ cB ga ga1 ga2 ga3 ga4 ga5 s.heap.size v_ga p0 n9 r1) s.heap.size) s.heap s.heap [] := va_S.rf
  have hl := lv_entry ([.ref ga, .int p0]) (n := 2) (Nat.le_of_ble_eq_true rfl)
  rw [lg_entry_eq]
  generalize (lg_sl ([.ref ga, .int p0]) ++ List.replicate (2 - (lg_sl ([.ref ga, .int p0])).length) Slot.unset).toArray = ls at hl ⊢
  have hl : lv_has ls 2 [(0, .ref ga), (1, .int p0)] := hl
  have hP : va_P (dC, dI) vwCl [(ga, .inr (5, [.ref ga1, .ref ga2, .ref ga3, .ref ga4, .ref ga5, .int (v_ga 0 0), .int (v_ga 0 1), .int (v_ga 0 2)])), (ga1, .inl (cI, 10, .inl (v_ga 1))), (ga2, .inl (cI, 10, .inl (v_ga 2))), (ga3, .inl (cI, 10, .inl (v_ga 3))), (ga4, .inl (cI, 10, .inl (v_ga 4))), (ga5, .inl (cI, 5, .inl (v_ga 5)))] s.heap := hP
  have hD : va_D (va_A (ww_X5_unitOfy dC dI cI cJ cB ga ga1 ga2 ga3 ga4 ga5 s.heap.size v_ga p0 n9 r1) s.heap.size) [(ga, .inr (5, [.ref ga1, .ref ga2, .ref ga3, .ref ga4, .ref ga5, .int (v_ga 0 0), .int (v_ga 0 1), .int (v_ga 0 2)])), (ga1, .inl (cI, 10, .inl (v_ga 1))), (ga2, .inl (cI, 10, .inl (v_ga 2))), (ga3, .inl (cI, 10, .inl (v_ga 3))), (ga4, .inl (cI, 10, .inl (v_ga 4))), (ga5, .inl (cI, 5, .inl (v_ga 5)))] := hD
  obtain ⟨H, hH⟩ : ∃ H, H = s.heap := ⟨_, rfl⟩
  obtain ⟨locs, hlc⟩ : ∃ L : List Loc, L = [] := ⟨_, rfl⟩
  have hS : va_S (va_A (ww_X5_unitOfy dC dI cI cJ cB ga ga1 ga2 ga3 ga4 ga5 s.heap.size v_ga p0 n9 r1) s.heap.size) s.heap H locs := by rw [hH, hlc]; exact hS
  have hP : va_P (dC, dI) vwCl [(ga, .inr (5, [.ref ga1, .ref ga2, .ref ga3, .ref ga4, .ref ga5, .int (v_ga 0 0), .int (v_ga 0 1), .int (v_ga 0 2)])), (ga1, .inl (cI, 10, .inl (v_ga 1))), (ga2, .inl (cI, 10, .inl (v_ga 2))), (ga3, .inl (cI, 10, .inl (v_ga 3))), (ga4, .inl (cI, 10, .inl (v_ga 4))), (ga5, .inl (cI, 5, .inl (v_ga 5)))] H := by rw [hH]; exact hP
  suffices hgo : WW_X5_unitOfy p l e s m below meth c dC dI cI cJ cB ga ga1 ga2 ga3 ga4 ga5 s.heap.size v_ga p0 n9 r1 H locs (F0 m 0 ls []) by rw [hH, hlc] at hgo; exact hgo
  clear hH hlc
  refine lv_iload_n hx hb dX5_unitOf_0 rfl (lv_at hl 1 rfl) ?_
  refine lv_if_lt (tgt := 19) hx hb dX5_unitOf_1 (by decide) (fun c_1 => ?_) (fun c_1 => ?_)
  · replace hf := xi_t c_1 hf
    refine lv_iconst (v := -1) hx hb dX5_unitOf_19 (by decide) ?_
    have hP9 := hP.sub (ws' := [(ga, .inr (5, [.ref ga1, .ref ga2, .ref ga3, .ref ga4, .ref ga5, .int (v_ga 0 0), .int (v_ga 0 1), .int (v_ga 0 2)])), (ga1, .inl (cI, 10, .inl (v_ga 1))), (ga2, .inl (cI, 10, .inl (v_ga 2))), (ga3, .inl (cI, 10, .inl (v_ga 3))), (ga4, .inl (cI, 10, .inl (v_ga 4))), (ga5, .inl (cI, 5, .inl (v_ga 5)))]) [0, 1, 2, 3, 4, 5] rfl
    have hD9 := hD.sub (ws' := [(ga, .inr (5, [.ref ga1, .ref ga2, .ref ga3, .ref ga4, .ref ga5, .int (v_ga 0 0), .int (v_ga 0 1), .int (v_ga 0 2)])), (ga1, .inl (cI, 10, .inl (v_ga 1))), (ga2, .inl (cI, 10, .inl (v_ga 2))), (ga3, .inl (cI, 10, .inl (v_ga 3))), (ga4, .inl (cI, 10, .inl (v_ga 4))), (ga5, .inl (cI, 5, .inl (v_ga 5)))]) [0, 1, 2, 3, 4, 5] (by decide) rfl
    have r9_0 : (-1 : Int32) = r1 := (Option.some.inj hf)
    exact W.iret (v := (-1 : Int32)) hx hb hr (fun t ht hW => ⟨⟨(-1 : Int32), (), rfl, r9_0, by rw [ht]; exact hP9, va_K.moved hW.alike hK, hD9⟩, hS.F ht⟩) hS.2.2 dX5_unitOf_20
  · replace hf := xi_f c_1 hf
    refine lv_iload_n hx hb dX5_unitOf_4 rfl (lv_at hl 1 rfl) ?_
    refine lv_bipush (v := 10) hx hb dX5_unitOf_5 (by decide) ?_
    refine lv_icmp_ge (tgt := 19) hx hb dX5_unitOf_7 (by decide) (fun c_2 => ?_) (fun c_2 => ?_)
    · replace hf := xi_t c_2 hf
      refine lv_iconst (v := -1) hx hb dX5_unitOf_19 (by decide) ?_
      have hP9 := hP.sub (ws' := [(ga, .inr (5, [.ref ga1, .ref ga2, .ref ga3, .ref ga4, .ref ga5, .int (v_ga 0 0), .int (v_ga 0 1), .int (v_ga 0 2)])), (ga1, .inl (cI, 10, .inl (v_ga 1))), (ga2, .inl (cI, 10, .inl (v_ga 2))), (ga3, .inl (cI, 10, .inl (v_ga 3))), (ga4, .inl (cI, 10, .inl (v_ga 4))), (ga5, .inl (cI, 5, .inl (v_ga 5)))]) [0, 1, 2, 3, 4, 5] rfl
      have hD9 := hD.sub (ws' := [(ga, .inr (5, [.ref ga1, .ref ga2, .ref ga3, .ref ga4, .ref ga5, .int (v_ga 0 0), .int (v_ga 0 1), .int (v_ga 0 2)])), (ga1, .inl (cI, 10, .inl (v_ga 1))), (ga2, .inl (cI, 10, .inl (v_ga 2))), (ga3, .inl (cI, 10, .inl (v_ga 3))), (ga4, .inl (cI, 10, .inl (v_ga 4))), (ga5, .inl (cI, 5, .inl (v_ga 5)))]) [0, 1, 2, 3, 4, 5] (by decide) rfl
      have r9_0 : (-1 : Int32) = r1 := (Option.some.inj hf)
      exact W.iret (v := (-1 : Int32)) hx hb hr (fun t ht hW => ⟨⟨(-1 : Int32), (), rfl, r9_0, by rw [ht]; exact hP9, va_K.moved hW.alike hK, hD9⟩, hS.F ht⟩) hS.2.2 dX5_unitOf_20
    · replace hf := xi_f c_2 hf
      refine lv_aload_n hx hb dX5_unitOf_10 rfl (lv_at hl 0 rfl) ?_
      refine va_get (D := (dC, dI)) (ci := 5) (v := .ref ga4) (C := RX5) (T := TX5) (N := 8) hx hb hts kk1_ hown hK hP 0 rfl rfl 3 (by decide) kk0_ (fun _ h9 => h9) rfl dX5_unitOf_11 ?_
      refine lv_iload_n hx hb dX5_unitOf_14 rfl (lv_at hl 1 rfl) ?_
      refine va_iald hx hb hK hP 4 0 rfl rfl (vp_in_iff.mpr (xr_in hf)) dX5_unitOf_15 ?_
      refine lv_topi (fun y_3 ey_3 => ?_)
      replace hf := xr_to ey_3 hf
      refine lv_goto (tgt := 20) hx hb dX5_unitOf_16 (by decide) ?_
      have hP9 := hP.sub (ws' := [(ga, .inr (5, [.ref ga1, .ref ga2, .ref ga3, .ref ga4, .ref ga5, .int (v_ga 0 0), .int (v_ga 0 1), .int (v_ga 0 2)])), (ga1, .inl (cI, 10, .inl (v_ga 1))), (ga2, .inl (cI, 10, .inl (v_ga 2))), (ga3, .inl (cI, 10, .inl (v_ga 3))), (ga4, .inl (cI, 10, .inl (v_ga 4))), (ga5, .inl (cI, 5, .inl (v_ga 5)))]) [0, 1, 2, 3, 4, 5] rfl
      have hD9 := hD.sub (ws' := [(ga, .inr (5, [.ref ga1, .ref ga2, .ref ga3, .ref ga4, .ref ga5, .int (v_ga 0 0), .int (v_ga 0 1), .int (v_ga 0 2)])), (ga1, .inl (cI, 10, .inl (v_ga 1))), (ga2, .inl (cI, 10, .inl (v_ga 2))), (ga3, .inl (cI, 10, .inl (v_ga 3))), (ga4, .inl (cI, 10, .inl (v_ga 4))), (ga5, .inl (cI, 5, .inl (v_ga 5)))]) [0, 1, 2, 3, 4, 5] (by decide) rfl
      have r9_0 : y_3 = r1 := (Option.some.inj hf)
      exact W.iret (v := y_3) hx hb hr (fun t ht hW => ⟨⟨y_3, (), rfl, r9_0, by rw [ht]; exact hP9, va_K.moved hW.alike hK, hD9⟩, hS.F ht⟩) hS.2.2 dX5_unitOf_20
def wo_X5_unitCodeOfy : List Cond := .code yX5_unitCodeOf cX5_unitCodeOf 2 (some .int) :: (([.fieldLink RX5 21 "SumRewriter$Signature" "units" "[I"] : List Cond) ++ ((wsX50)))
abbrev ww_X5_unitCodeOfy (dC : Nat → ClassId) (dI : Nat → Nat → Nat) (cI cJ cB : ClassId) (ga ga1 ga2 ga3 ga4 ga5 : Nat) (sz : Nat) (v_ga : Nat → Nat → Int32) (p0 : Int32) (n9 : Nat) (r1 : Int32) : va_W := [(ga, .inr (5, [.ref ga1, .ref ga2, .ref ga3, .ref ga4, .ref ga5, .int (v_ga 0 0), .int (v_ga 0 1), .int (v_ga 0 2)])), (ga1, .inl (cI, 10, .inl (v_ga 1))), (ga2, .inl (cI, 10, .inl (v_ga 2))), (ga3, .inl (cI, 10, .inl (v_ga 3))), (ga4, .inl (cI, 10, .inl (v_ga 4))), (ga5, .inl (cI, 5, .inl (v_ga 5)))]
abbrev at_X5_unitCodeOfy (dC : Nat → ClassId) (dI : Nat → Nat → Nat) (cI cJ cB : ClassId) (ga ga1 ga2 ga3 ga4 ga5 : Nat) (sz : Nat) (v_ga : Nat → Nat → Int32) (p0 : Int32) (n9 : Nat) (r1 : Int32) (u : Unit) (t : State) : Prop := match u with
  | () => va_P (dC, dI) vwCl [(ga, .inr (5, [.ref ga1, .ref ga2, .ref ga3, .ref ga4, .ref ga5, .int (v_ga 0 0), .int (v_ga 0 1), .int (v_ga 0 2)])), (ga1, .inl (cI, 10, .inl (v_ga 1))), (ga2, .inl (cI, 10, .inl (v_ga 2))), (ga3, .inl (cI, 10, .inl (v_ga 3))), (ga4, .inl (cI, 10, .inl (v_ga 4))), (ga5, .inl (cI, 5, .inl (v_ga 5)))] t.heap ∧ va_K (dC, dI) vwCl (tyL cI cJ cB) t ∧ va_D (va_A (ww_X5_unitCodeOfy dC dI cI cJ cB ga ga1 ga2 ga3 ga4 ga5 sz v_ga p0 n9 r1) sz) [(ga, .inr (5, [.ref ga1, .ref ga2, .ref ga3, .ref ga4, .ref ga5, .int (v_ga 0 0), .int (v_ga 0 1), .int (v_ga 0 2)])), (ga1, .inl (cI, 10, .inl (v_ga 1))), (ga2, .inl (cI, 10, .inl (v_ga 2))), (ga3, .inl (cI, 10, .inl (v_ga 3))), (ga4, .inl (cI, 10, .inl (v_ga 4))), (ga5, .inl (cI, 5, .inl (v_ga 5)))]
abbrev qc_X5_unitCodeOfy (dC : Nat → ClassId) (dI : Nat → Nat → Nat) (cI cJ cB : ClassId) (ga ga1 ga2 ga3 ga4 ga5 : Nat) (sz : Nat) (v_ga : Nat → Nat → Int32) (p0 : Int32) (n9 : Nat) (r1 : Int32) : Array Value → State → Outcome → State → Prop := va_Qi (fun (r : Int32) (u : Unit) => match u with | () => (r = r1)) (at_X5_unitCodeOfy dC dI cI cJ cB ga ga1 ga2 ga3 ga4 ga5 sz v_ga p0 n9 r1) (va_A (ww_X5_unitCodeOfy dC dI cI cJ cB ga ga1 ga2 ga3 ga4 ga5 sz v_ga p0 n9 r1) sz)
abbrev pc_X5_unitCodeOfy (dC : Nat → ClassId) (dI : Nat → Nat → Nat) (cI cJ cB : ClassId) (ga ga1 ga2 ga3 ga4 ga5 : Nat) (sz : Nat) (v_ga : Nat → Nat → Int32) (p0 : Int32) (n9 : Nat) (r1 : Int32) : Array Value → State → Prop := va_Pc [.ref ga, .int p0] (fun U => U.heap.size = sz ∧ NW U ∧ va_P (dC, dI) vwCl (ww_X5_unitCodeOfy dC dI cI cJ cB ga ga1 ga2 ga3 ga4 ga5 sz v_ga p0 n9 r1) U.heap ∧ va_K (dC, dI) vwCl (tyL cI cJ cB) U ∧ va_D (fun _ => True) (ww_X5_unitCodeOfy dC dI cI cJ cB ga ga1 ga2 ga3 ga4 ga5 sz v_ga p0 n9 r1))
abbrev rm_X5_unitCodeOfy : Room := { frames := 0, cells := 0, slots := 0, locals := 0 }
abbrev WW_X5_unitCodeOfy (p : Program) (l : Launch) (e : Env) (s : State) (m : MethodId) (below : List Frame) (meth : Method) (c : Code) (dC : Nat → ClassId) (dI : Nat → Nat → Nat) (cI cJ cB : ClassId) (ga ga1 ga2 ga3 ga4 ga5 : Nat) (sz : Nat) (v_ga : Nat → Nat → Int32) (p0 : Int32) (n9 : Nat) (r1 : Int32) (H : Heap) (locs : List Loc) (g : JFrame) : Prop := W p l e rm_X5_unitCodeOfy s m ([.ref ga, .int p0] : List Value).toArray below meth c H locs 0 0 (MQ below (qc_X5_unitCodeOfy dC dI cI cJ cB ga ga1 ga2 ga3 ga4 ga5 sz v_ga p0 n9 r1) ([.ref ga, .int p0] : List Value).toArray s 0 0 (va_A (ww_X5_unitCodeOfy dC dI cI cJ cB ga ga1 ga2 ga3 ga4 ga5 sz v_ga p0 n9 r1) sz)) g
set_option maxHeartbeats 4000000 in
set_option maxRecDepth 100000 in
theorem c_X5_unitCodeOfy (l : Launch) (dC : Nat → ClassId) (dI : Nat → Nat → Nat) (cI cJ cB : ClassId) (ga ga1 ga2 ga3 ga4 ga5 : Nat) (sz : Nat) (v_ga : Nat → Nat → Int32) (p0 : Int32) (n9 : Nat) (r1 : Int32) (hf : fx_X5_unitCodeOf n9 v_ga p0 = some (r1)) : Met l yX5_unitCodeOf wo_X5_unitCodeOfy rm_X5_unitCodeOfy (pc_X5_unitCodeOfy dC dI cI cJ cB ga ga1 ga2 ga3 ga4 ga5 sz v_ga p0 n9 r1) (qc_X5_unitCodeOfy dC dI cI cJ cB ga ga1 ga2 ga3 ga4 ga5 sz v_ga p0 n9 r1) 0 0 (va_A (ww_X5_unitCodeOfy dC dI cI cJ cB ga ga1 ga2 ga3 ga4 ga5 sz v_ga p0 n9 r1) sz) := by
  unfold fx_X5_unitCodeOf at hf
  refine Met.ofW (cc := cX5_unitCodeOf) (maxL := 2) (ret := (some .int)) (by decide) rfl ?_
  intro p e s m args below meth c s₁ B hml hv
  obtain ⟨rfl, hsz, hnw, hP, hK, hD0⟩ := hv
  have hx := B.exec
  have hb := B.bytes
  have hr := B.returns
  have hts := atoms_spec (ws := wo_X5_unitCodeOfy) B.pre
  have hown : s.vm.findClass RX5 = some m.cls := findClass_of_methodNamed B.named
  have hlocks := B.notSynchronized
  clear B
  subst hsz
  have hD := hD0.self (sz := s.heap.size)
  clear hD0
  have kk0_ := hts (.fieldLink RX5 21 "SumRewriter$Signature" "units" "[I") (by decide +kernel)
  have kk1_ : ∀ w ∈ wsX50, w ∈ wo_X5_unitCodeOfy := fun _ h => (List.mem_cons_of_mem _ (List.mem_append_right _ h))
  have hA : ∀ q : Nat, s.heap.size ≤ q → (va_A (ww_X5_unitCodeOfy dC dI cI cJ cB ga ga1 ga2 ga3 ga4 ga5 s.heap.size v_ga p0 n9 r1) s.heap.size) q := fun q h => Or.inr h
  have hS : va_S (va_A (ww_X5_unitCodeOfy dC dI cI cJ cB ga ga1 ga2 ga3 ga4 ga5 s.heap.size v_ga p0 n9 r1) s.heap.size) s.heap s.heap [] := va_S.rf
  have hl := lv_entry ([.ref ga, .int p0]) (n := 2) (Nat.le_of_ble_eq_true rfl)
  rw [lg_entry_eq]
  generalize (lg_sl ([.ref ga, .int p0]) ++ List.replicate (2 - (lg_sl ([.ref ga, .int p0])).length) Slot.unset).toArray = ls at hl ⊢
  have hl : lv_has ls 2 [(0, .ref ga), (1, .int p0)] := hl
  have hP : va_P (dC, dI) vwCl [(ga, .inr (5, [.ref ga1, .ref ga2, .ref ga3, .ref ga4, .ref ga5, .int (v_ga 0 0), .int (v_ga 0 1), .int (v_ga 0 2)])), (ga1, .inl (cI, 10, .inl (v_ga 1))), (ga2, .inl (cI, 10, .inl (v_ga 2))), (ga3, .inl (cI, 10, .inl (v_ga 3))), (ga4, .inl (cI, 10, .inl (v_ga 4))), (ga5, .inl (cI, 5, .inl (v_ga 5)))] s.heap := hP
  have hD : va_D (va_A (ww_X5_unitCodeOfy dC dI cI cJ cB ga ga1 ga2 ga3 ga4 ga5 s.heap.size v_ga p0 n9 r1) s.heap.size) [(ga, .inr (5, [.ref ga1, .ref ga2, .ref ga3, .ref ga4, .ref ga5, .int (v_ga 0 0), .int (v_ga 0 1), .int (v_ga 0 2)])), (ga1, .inl (cI, 10, .inl (v_ga 1))), (ga2, .inl (cI, 10, .inl (v_ga 2))), (ga3, .inl (cI, 10, .inl (v_ga 3))), (ga4, .inl (cI, 10, .inl (v_ga 4))), (ga5, .inl (cI, 5, .inl (v_ga 5)))] := hD
  obtain ⟨H, hH⟩ : ∃ H, H = s.heap := ⟨_, rfl⟩
  obtain ⟨locs, hlc⟩ : ∃ L : List Loc, L = [] := ⟨_, rfl⟩
  have hS : va_S (va_A (ww_X5_unitCodeOfy dC dI cI cJ cB ga ga1 ga2 ga3 ga4 ga5 s.heap.size v_ga p0 n9 r1) s.heap.size) s.heap H locs := by rw [hH, hlc]; exact hS
  have hP : va_P (dC, dI) vwCl [(ga, .inr (5, [.ref ga1, .ref ga2, .ref ga3, .ref ga4, .ref ga5, .int (v_ga 0 0), .int (v_ga 0 1), .int (v_ga 0 2)])), (ga1, .inl (cI, 10, .inl (v_ga 1))), (ga2, .inl (cI, 10, .inl (v_ga 2))), (ga3, .inl (cI, 10, .inl (v_ga 3))), (ga4, .inl (cI, 10, .inl (v_ga 4))), (ga5, .inl (cI, 5, .inl (v_ga 5)))] H := by rw [hH]; exact hP
  suffices hgo : WW_X5_unitCodeOfy p l e s m below meth c dC dI cI cJ cB ga ga1 ga2 ga3 ga4 ga5 s.heap.size v_ga p0 n9 r1 H locs (F0 m 0 ls []) by rw [hH, hlc] at hgo; exact hgo
  clear hH hlc
  refine lv_iload_n hx hb dX5_unitCodeOf_0 rfl (lv_at hl 1 rfl) ?_
  refine lv_if_lt (tgt := 33) hx hb dX5_unitCodeOf_1 (by decide) (fun c_1 => ?_) (fun c_1 => ?_)
  · replace hf := xi_t c_1 hf
    refine lv_iconst (v := -1) hx hb dX5_unitCodeOf_33 (by decide) ?_
    have hP9 := hP.sub (ws' := [(ga, .inr (5, [.ref ga1, .ref ga2, .ref ga3, .ref ga4, .ref ga5, .int (v_ga 0 0), .int (v_ga 0 1), .int (v_ga 0 2)])), (ga1, .inl (cI, 10, .inl (v_ga 1))), (ga2, .inl (cI, 10, .inl (v_ga 2))), (ga3, .inl (cI, 10, .inl (v_ga 3))), (ga4, .inl (cI, 10, .inl (v_ga 4))), (ga5, .inl (cI, 5, .inl (v_ga 5)))]) [0, 1, 2, 3, 4, 5] rfl
    have hD9 := hD.sub (ws' := [(ga, .inr (5, [.ref ga1, .ref ga2, .ref ga3, .ref ga4, .ref ga5, .int (v_ga 0 0), .int (v_ga 0 1), .int (v_ga 0 2)])), (ga1, .inl (cI, 10, .inl (v_ga 1))), (ga2, .inl (cI, 10, .inl (v_ga 2))), (ga3, .inl (cI, 10, .inl (v_ga 3))), (ga4, .inl (cI, 10, .inl (v_ga 4))), (ga5, .inl (cI, 5, .inl (v_ga 5)))]) [0, 1, 2, 3, 4, 5] (by decide) rfl
    have r9_0 : (-1 : Int32) = r1 := (Option.some.inj hf)
    exact W.iret (v := (-1 : Int32)) hx hb hr (fun t ht hW => ⟨⟨(-1 : Int32), (), rfl, r9_0, by rw [ht]; exact hP9, va_K.moved hW.alike hK, hD9⟩, hS.F ht⟩) hS.2.2 dX5_unitCodeOf_34
  · replace hf := xi_f c_1 hf
    refine lv_iload_n hx hb dX5_unitCodeOf_4 rfl (lv_at hl 1 rfl) ?_
    refine lv_bipush (v := 10) hx hb dX5_unitCodeOf_5 (by decide) ?_
    refine lv_icmp_ge (tgt := 33) hx hb dX5_unitCodeOf_7 (by decide) (fun c_2 => ?_) (fun c_2 => ?_)
    · replace hf := xi_t c_2 hf
      refine lv_iconst (v := -1) hx hb dX5_unitCodeOf_33 (by decide) ?_
      have hP9 := hP.sub (ws' := [(ga, .inr (5, [.ref ga1, .ref ga2, .ref ga3, .ref ga4, .ref ga5, .int (v_ga 0 0), .int (v_ga 0 1), .int (v_ga 0 2)])), (ga1, .inl (cI, 10, .inl (v_ga 1))), (ga2, .inl (cI, 10, .inl (v_ga 2))), (ga3, .inl (cI, 10, .inl (v_ga 3))), (ga4, .inl (cI, 10, .inl (v_ga 4))), (ga5, .inl (cI, 5, .inl (v_ga 5)))]) [0, 1, 2, 3, 4, 5] rfl
      have hD9 := hD.sub (ws' := [(ga, .inr (5, [.ref ga1, .ref ga2, .ref ga3, .ref ga4, .ref ga5, .int (v_ga 0 0), .int (v_ga 0 1), .int (v_ga 0 2)])), (ga1, .inl (cI, 10, .inl (v_ga 1))), (ga2, .inl (cI, 10, .inl (v_ga 2))), (ga3, .inl (cI, 10, .inl (v_ga 3))), (ga4, .inl (cI, 10, .inl (v_ga 4))), (ga5, .inl (cI, 5, .inl (v_ga 5)))]) [0, 1, 2, 3, 4, 5] (by decide) rfl
      have r9_0 : (-1 : Int32) = r1 := (Option.some.inj hf)
      exact W.iret (v := (-1 : Int32)) hx hb hr (fun t ht hW => ⟨⟨(-1 : Int32), (), rfl, r9_0, by rw [ht]; exact hP9, va_K.moved hW.alike hK, hD9⟩, hS.F ht⟩) hS.2.2 dX5_unitCodeOf_34
    · replace hf := xi_f c_2 hf
      refine lv_aload_n hx hb dX5_unitCodeOf_10 rfl (lv_at hl 0 rfl) ?_
      refine va_get (D := (dC, dI)) (ci := 5) (v := .ref ga4) (C := RX5) (T := TX5) (N := 8) hx hb hts kk1_ hown hK hP 0 rfl rfl 3 (by decide) kk0_ (fun _ h9 => h9) rfl dX5_unitCodeOf_11 ?_
      refine lv_iload_n hx hb dX5_unitCodeOf_14 rfl (lv_at hl 1 rfl) ?_
      refine va_iald hx hb hK hP 4 0 rfl rfl (vp_in_iff.mpr (xr_in hf)) dX5_unitCodeOf_15 ?_
      refine lv_topi (fun y_3 ey_3 => ?_)
      replace hf := xr_to ey_3 hf
      refine lv_if_lt (tgt := 33) hx hb dX5_unitCodeOf_16 (by decide) (fun c_4 => ?_) (fun c_4 => ?_)
      · replace hf := xi_t c_4 hf
        refine lv_iconst (v := -1) hx hb dX5_unitCodeOf_33 (by decide) ?_
        have hP9 := hP.sub (ws' := [(ga, .inr (5, [.ref ga1, .ref ga2, .ref ga3, .ref ga4, .ref ga5, .int (v_ga 0 0), .int (v_ga 0 1), .int (v_ga 0 2)])), (ga1, .inl (cI, 10, .inl (v_ga 1))), (ga2, .inl (cI, 10, .inl (v_ga 2))), (ga3, .inl (cI, 10, .inl (v_ga 3))), (ga4, .inl (cI, 10, .inl (v_ga 4))), (ga5, .inl (cI, 5, .inl (v_ga 5)))]) [0, 1, 2, 3, 4, 5] rfl
        have hD9 := hD.sub (ws' := [(ga, .inr (5, [.ref ga1, .ref ga2, .ref ga3, .ref ga4, .ref ga5, .int (v_ga 0 0), .int (v_ga 0 1), .int (v_ga 0 2)])), (ga1, .inl (cI, 10, .inl (v_ga 1))), (ga2, .inl (cI, 10, .inl (v_ga 2))), (ga3, .inl (cI, 10, .inl (v_ga 3))), (ga4, .inl (cI, 10, .inl (v_ga 4))), (ga5, .inl (cI, 5, .inl (v_ga 5)))]) [0, 1, 2, 3, 4, 5] (by decide) rfl
        have r9_0 : (-1 : Int32) = r1 := (Option.some.inj hf)
        exact W.iret (v := (-1 : Int32)) hx hb hr (fun t ht hW => ⟨⟨(-1 : Int32), (), rfl, r9_0, by rw [ht]; exact hP9, va_K.moved hW.alike hK, hD9⟩, hS.F ht⟩) hS.2.2 dX5_unitCodeOf_34
      · replace hf := xi_f c_4 hf
        refine lv_bipush (v := 8) hx hb dX5_unitCodeOf_19 (by decide) ?_
        refine lv_aload_n hx hb dX5_unitCodeOf_21 rfl (lv_at hl 0 rfl) ?_
        refine va_get (D := (dC, dI)) (ci := 5) (v := .ref ga4) (C := RX5) (T := TX5) (N := 8) hx hb hts kk1_ hown hK hP 0 rfl rfl 3 (by decide) kk0_ (fun _ h9 => h9) rfl dX5_unitCodeOf_22 ?_
        refine lv_iload_n hx hb dX5_unitCodeOf_25 rfl (lv_at hl 1 rfl) ?_
        refine va_iald hx hb hK hP 4 0 rfl rfl (vp_in_iff.mpr (xr_in hf)) dX5_unitCodeOf_26 ?_
        refine lv_topi (fun y_5 ey_5 => ?_)
        replace hf := xr_to ey_5 hf
        refine lv_iconst (v := 1) hx hb dX5_unitCodeOf_27 (by decide) ?_
        refine lv_iadd hx hb dX5_unitCodeOf_28 ?_
        refine lv_topi (fun y_6 ey_6 => ?_)
        replace hf := xl_to (v := y_5 + ((1 : Int32))) ey_6 hf
        refine lv_imul hx hb dX5_unitCodeOf_29 ?_
        refine lv_topi (fun y_7 ey_7 => ?_)
        replace hf := xl_to (v := ((8 : Int32)) * y_6) ey_7 hf
        refine lv_goto (tgt := 34) hx hb dX5_unitCodeOf_30 (by decide) ?_
        have hP9 := hP.sub (ws' := [(ga, .inr (5, [.ref ga1, .ref ga2, .ref ga3, .ref ga4, .ref ga5, .int (v_ga 0 0), .int (v_ga 0 1), .int (v_ga 0 2)])), (ga1, .inl (cI, 10, .inl (v_ga 1))), (ga2, .inl (cI, 10, .inl (v_ga 2))), (ga3, .inl (cI, 10, .inl (v_ga 3))), (ga4, .inl (cI, 10, .inl (v_ga 4))), (ga5, .inl (cI, 5, .inl (v_ga 5)))]) [0, 1, 2, 3, 4, 5] rfl
        have hD9 := hD.sub (ws' := [(ga, .inr (5, [.ref ga1, .ref ga2, .ref ga3, .ref ga4, .ref ga5, .int (v_ga 0 0), .int (v_ga 0 1), .int (v_ga 0 2)])), (ga1, .inl (cI, 10, .inl (v_ga 1))), (ga2, .inl (cI, 10, .inl (v_ga 2))), (ga3, .inl (cI, 10, .inl (v_ga 3))), (ga4, .inl (cI, 10, .inl (v_ga 4))), (ga5, .inl (cI, 5, .inl (v_ga 5)))]) [0, 1, 2, 3, 4, 5] (by decide) rfl
        have r9_0 : y_7 = r1 := (Option.some.inj hf)
        exact W.iret (v := y_7) hx hb hr (fun t ht hW => ⟨⟨y_7, (), rfl, r9_0, by rw [ht]; exact hP9, va_K.moved hW.alike hK, hD9⟩, hS.F ht⟩) hS.2.2 dX5_unitCodeOf_34
def wo_X5_nameOfy : List Cond := .code yX5_nameOf cX5_nameOf 3 (some .int) :: (([.fieldLink RX5 9 "SumRewriter$Signature" "names" "[I", .fieldLink RX5 24 "SumRewriter$Signature" "variableNames" "[I", .initialized RX9, .static yX9_operatorIn] : List Cond) ++ ((wsX50) ++ ((wo_X9_operatorIny))))
set_option maxRecDepth 20000 in
theorem go_wo_X5_nameOfy_1 : GoodIn wo_X5_nameOfy (wo_X9_operatorIny) := goodIn_sub (fun _ h => (List.mem_cons_of_mem _ (List.mem_append_right _ (List.mem_append_right _ h)))) (by decide +kernel)
abbrev ww_X5_nameOfy (dC : Nat → ClassId) (dI : Nat → Nat → Nat) (cI cJ cB : ClassId) (ga ga1 ga2 ga3 ga4 ga5 : Nat) (sz : Nat) (v_ga : Nat → Nat → Int32) (p0 : Int32) (n9 : Nat) (r1 : Int32) : va_W := [(ga, .inr (5, [.ref ga1, .ref ga2, .ref ga3, .ref ga4, .ref ga5, .int (v_ga 0 0), .int (v_ga 0 1), .int (v_ga 0 2)])), (ga1, .inl (cI, 10, .inl (v_ga 1))), (ga2, .inl (cI, 10, .inl (v_ga 2))), (ga3, .inl (cI, 10, .inl (v_ga 3))), (ga4, .inl (cI, 10, .inl (v_ga 4))), (ga5, .inl (cI, 5, .inl (v_ga 5)))]
abbrev at_X5_nameOfy (dC : Nat → ClassId) (dI : Nat → Nat → Nat) (cI cJ cB : ClassId) (ga ga1 ga2 ga3 ga4 ga5 : Nat) (sz : Nat) (v_ga : Nat → Nat → Int32) (p0 : Int32) (n9 : Nat) (r1 : Int32) (u : Unit) (t : State) : Prop := match u with
  | () => va_P (dC, dI) vwCl [(ga, .inr (5, [.ref ga1, .ref ga2, .ref ga3, .ref ga4, .ref ga5, .int (v_ga 0 0), .int (v_ga 0 1), .int (v_ga 0 2)])), (ga1, .inl (cI, 10, .inl (v_ga 1))), (ga2, .inl (cI, 10, .inl (v_ga 2))), (ga3, .inl (cI, 10, .inl (v_ga 3))), (ga4, .inl (cI, 10, .inl (v_ga 4))), (ga5, .inl (cI, 5, .inl (v_ga 5)))] t.heap ∧ va_K (dC, dI) vwCl (tyL cI cJ cB) t ∧ va_D (va_A (ww_X5_nameOfy dC dI cI cJ cB ga ga1 ga2 ga3 ga4 ga5 sz v_ga p0 n9 r1) sz) [(ga, .inr (5, [.ref ga1, .ref ga2, .ref ga3, .ref ga4, .ref ga5, .int (v_ga 0 0), .int (v_ga 0 1), .int (v_ga 0 2)])), (ga1, .inl (cI, 10, .inl (v_ga 1))), (ga2, .inl (cI, 10, .inl (v_ga 2))), (ga3, .inl (cI, 10, .inl (v_ga 3))), (ga4, .inl (cI, 10, .inl (v_ga 4))), (ga5, .inl (cI, 5, .inl (v_ga 5)))]
abbrev qc_X5_nameOfy (dC : Nat → ClassId) (dI : Nat → Nat → Nat) (cI cJ cB : ClassId) (ga ga1 ga2 ga3 ga4 ga5 : Nat) (sz : Nat) (v_ga : Nat → Nat → Int32) (p0 : Int32) (n9 : Nat) (r1 : Int32) : Array Value → State → Outcome → State → Prop := va_Qi (fun (r : Int32) (u : Unit) => match u with | () => (r = r1)) (at_X5_nameOfy dC dI cI cJ cB ga ga1 ga2 ga3 ga4 ga5 sz v_ga p0 n9 r1) (va_A (ww_X5_nameOfy dC dI cI cJ cB ga ga1 ga2 ga3 ga4 ga5 sz v_ga p0 n9 r1) sz)
abbrev pc_X5_nameOfy (dC : Nat → ClassId) (dI : Nat → Nat → Nat) (cI cJ cB : ClassId) (ga ga1 ga2 ga3 ga4 ga5 : Nat) (sz : Nat) (v_ga : Nat → Nat → Int32) (p0 : Int32) (n9 : Nat) (r1 : Int32) : Array Value → State → Prop := va_Pc [.ref ga, .int p0] (fun U => U.heap.size = sz ∧ NW U ∧ va_P (dC, dI) vwCl (ww_X5_nameOfy dC dI cI cJ cB ga ga1 ga2 ga3 ga4 ga5 sz v_ga p0 n9 r1) U.heap ∧ va_K (dC, dI) vwCl (tyL cI cJ cB) U ∧ va_D (fun _ => True) (ww_X5_nameOfy dC dI cI cJ cB ga ga1 ga2 ga3 ga4 ga5 sz v_ga p0 n9 r1))
abbrev rm_X5_nameOfy : Room := { frames := 1, cells := 0, slots := 0, locals := 20 }
abbrev WW_X5_nameOfy (p : Program) (l : Launch) (e : Env) (s : State) (m : MethodId) (below : List Frame) (meth : Method) (c : Code) (dC : Nat → ClassId) (dI : Nat → Nat → Nat) (cI cJ cB : ClassId) (ga ga1 ga2 ga3 ga4 ga5 : Nat) (sz : Nat) (v_ga : Nat → Nat → Int32) (p0 : Int32) (n9 : Nat) (r1 : Int32) (H : Heap) (locs : List Loc) (g : JFrame) : Prop := W p l e rm_X5_nameOfy s m ([.ref ga, .int p0] : List Value).toArray below meth c H locs 0 0 (MQ below (qc_X5_nameOfy dC dI cI cJ cB ga ga1 ga2 ga3 ga4 ga5 sz v_ga p0 n9 r1) ([.ref ga, .int p0] : List Value).toArray s 0 0 (va_A (ww_X5_nameOfy dC dI cI cJ cB ga ga1 ga2 ga3 ga4 ga5 sz v_ga p0 n9 r1) sz)) g
set_option maxHeartbeats 4000000 in
set_option maxRecDepth 100000 in
theorem c_X5_nameOfy (l : Launch) (dC : Nat → ClassId) (dI : Nat → Nat → Nat) (cI cJ cB : ClassId) (ga ga1 ga2 ga3 ga4 ga5 : Nat) (sz : Nat) (v_ga : Nat → Nat → Int32) (p0 : Int32) (n9 : Nat) (r1 : Int32) (hf : fx_X5_nameOf n9 v_ga p0 = some (r1)) : Met l yX5_nameOf wo_X5_nameOfy rm_X5_nameOfy (pc_X5_nameOfy dC dI cI cJ cB ga ga1 ga2 ga3 ga4 ga5 sz v_ga p0 n9 r1) (qc_X5_nameOfy dC dI cI cJ cB ga ga1 ga2 ga3 ga4 ga5 sz v_ga p0 n9 r1) 0 0 (va_A (ww_X5_nameOfy dC dI cI cJ cB ga ga1 ga2 ga3 ga4 ga5 sz v_ga p0 n9 r1) sz) := by
  unfold fx_X5_nameOf at hf
  refine Met.ofW (cc := cX5_nameOf) (maxL := 3) (ret := (some .int)) (by decide) rfl ?_
  intro p e s m args below meth c s₁ B hml hv
  obtain ⟨rfl, hsz, hnw, hP, hK, hD0⟩ := hv
  have hx := B.exec
  have hb := B.bytes
  have hr := B.returns
  have hts := atoms_spec (ws := wo_X5_nameOfy) B.pre
  have hown : s.vm.findClass RX5 = some m.cls := findClass_of_methodNamed B.named
  have hlocks := B.notSynchronized
  clear B
  subst hsz
  have hD := hD0.self (sz := s.heap.size)
  clear hD0
  have kk0_ := hts (.fieldLink RX5 9 "SumRewriter$Signature" "names" "[I") (by decide +kernel)
  have kk1_ : ∀ w ∈ wsX50, w ∈ wo_X5_nameOfy := fun _ h => (List.mem_cons_of_mem _ (List.mem_append_right _ (List.mem_append_left _ h)))
  have kk2_ := hts (.fieldLink RX5 24 "SumRewriter$Signature" "variableNames" "[I") (by decide +kernel)
  have hA : ∀ q : Nat, s.heap.size ≤ q → (va_A (ww_X5_nameOfy dC dI cI cJ cB ga ga1 ga2 ga3 ga4 ga5 s.heap.size v_ga p0 n9 r1) s.heap.size) q := fun q h => Or.inr h
  have hS : va_S (va_A (ww_X5_nameOfy dC dI cI cJ cB ga ga1 ga2 ga3 ga4 ga5 s.heap.size v_ga p0 n9 r1) s.heap.size) s.heap s.heap [] := va_S.rf
  have hl := lv_entry ([.ref ga, .int p0]) (n := 3) (Nat.le_of_ble_eq_true rfl)
  rw [lg_entry_eq]
  generalize (lg_sl ([.ref ga, .int p0]) ++ List.replicate (3 - (lg_sl ([.ref ga, .int p0])).length) Slot.unset).toArray = ls at hl ⊢
  have hl : lv_has ls 3 [(0, .ref ga), (1, .int p0)] := hl
  have hP : va_P (dC, dI) vwCl [(ga, .inr (5, [.ref ga1, .ref ga2, .ref ga3, .ref ga4, .ref ga5, .int (v_ga 0 0), .int (v_ga 0 1), .int (v_ga 0 2)])), (ga1, .inl (cI, 10, .inl (v_ga 1))), (ga2, .inl (cI, 10, .inl (v_ga 2))), (ga3, .inl (cI, 10, .inl (v_ga 3))), (ga4, .inl (cI, 10, .inl (v_ga 4))), (ga5, .inl (cI, 5, .inl (v_ga 5)))] s.heap := hP
  have hD : va_D (va_A (ww_X5_nameOfy dC dI cI cJ cB ga ga1 ga2 ga3 ga4 ga5 s.heap.size v_ga p0 n9 r1) s.heap.size) [(ga, .inr (5, [.ref ga1, .ref ga2, .ref ga3, .ref ga4, .ref ga5, .int (v_ga 0 0), .int (v_ga 0 1), .int (v_ga 0 2)])), (ga1, .inl (cI, 10, .inl (v_ga 1))), (ga2, .inl (cI, 10, .inl (v_ga 2))), (ga3, .inl (cI, 10, .inl (v_ga 3))), (ga4, .inl (cI, 10, .inl (v_ga 4))), (ga5, .inl (cI, 5, .inl (v_ga 5)))] := hD
  obtain ⟨H, hH⟩ : ∃ H, H = s.heap := ⟨_, rfl⟩
  obtain ⟨locs, hlc⟩ : ∃ L : List Loc, L = [] := ⟨_, rfl⟩
  have hS : va_S (va_A (ww_X5_nameOfy dC dI cI cJ cB ga ga1 ga2 ga3 ga4 ga5 s.heap.size v_ga p0 n9 r1) s.heap.size) s.heap H locs := by rw [hH, hlc]; exact hS
  have hP : va_P (dC, dI) vwCl [(ga, .inr (5, [.ref ga1, .ref ga2, .ref ga3, .ref ga4, .ref ga5, .int (v_ga 0 0), .int (v_ga 0 1), .int (v_ga 0 2)])), (ga1, .inl (cI, 10, .inl (v_ga 1))), (ga2, .inl (cI, 10, .inl (v_ga 2))), (ga3, .inl (cI, 10, .inl (v_ga 3))), (ga4, .inl (cI, 10, .inl (v_ga 4))), (ga5, .inl (cI, 5, .inl (v_ga 5)))] H := by rw [hH]; exact hP
  suffices hgo : WW_X5_nameOfy p l e s m below meth c dC dI cI cJ cB ga ga1 ga2 ga3 ga4 ga5 s.heap.size v_ga p0 n9 r1 H locs (F0 m 0 ls []) by rw [hH, hlc] at hgo; exact hgo
  clear hH hlc
  refine lv_iload_n hx hb dX5_nameOf_0 rfl (lv_at hl 1 rfl) ?_
  refine lv_bipush (v := 8) hx hb dX5_nameOf_1 (by decide) ?_
  refine lv_icmp_ge (tgt := 26) hx hb dX5_nameOf_3 (by decide) (fun c_1 => ?_) (fun c_1 => ?_)
  · replace hf := xi_t c_1 hf
    refine lv_iload_n hx hb dX5_nameOf_26 rfl (lv_at hl 1 rfl) ?_
    replace hf := xb1_to hf
    obtain ⟨o_2, g_3, hf⟩ := hf
    have hPc := hP.sub (ws' := []) [] rfl
    have hDc := hD.sub (ws' := []) [] (by decide) rfl
    have hFc := va_free (wc := []) hD hS hA [] rfl
    refine va_calli (va_runSN (host := "SumRewriter") (As := [.int p0]) (rest := []) ⟨hx, hb, hml, hown, hts⟩ (c_X9_operatorIny l dC dI cI cJ cB  H.size p0 n9 o_2 g_3) ⟨va_cnB 1 hts go_wo_X5_nameOfy_1 rfl rfl rfl (hnw _ (by decide +kernel) : va_Nw (.methodLinkNest RX5 92 yX9_operatorIn "SumRewriter") s) (hts (.initialized RX9) (by decide +kernel)) (by decide +kernel) ⟨Nat.le_of_ble_eq_true rfl, Nat.le_of_ble_eq_true rfl⟩, hts (.static yX9_operatorIn) (by decide +kernel), trivial⟩ ⟨fun a U g mk q => by obtain ⟨q0, q1, qN, qP, qK, qD⟩ := q; exact ⟨q0, q1, NW.calling qN, qP, va_K.moved (u := U) (U := U.calling g mk a) (Vm.Alike.refl U.vm) qK, qD⟩, fun U hU hW => ⟨rfl, by rw [hU], NW.warm hW hnw, by rw [hU]; exact hPc, va_K.moved hW.alike hK, hDc.weaken (fun _ _ _ _ => trivial)⟩⟩ rfl rfl hl.1 rfl (lv_room (Nat.le_of_ble_eq_true rfl)) dX5_nameOf_27 ⟨Nat.zero_le _, Nat.zero_le _⟩) hS (fun q _ h => hFc q h) hFc (fun r_4 u t H1 locs ht hvm hw hB hz1 hk1 hS => ?_)
    cases u
    obtain ⟨hP1, hK1, hD1⟩ := hB
    rw [ht] at hP1
    have hw : (r_4 = o_2) := hw
    subst hw
    obtain ⟨hP, hD⟩ := va_join (wr := [(ga, .inr (5, [.ref ga1, .ref ga2, .ref ga3, .ref ga4, .ref ga5, .int (v_ga 0 0), .int (v_ga 0 1), .int (v_ga 0 2)])), (ga1, .inl (cI, 10, .inl (v_ga 1))), (ga2, .inl (cI, 10, .inl (v_ga 2))), (ga3, .inl (cI, 10, .inl (v_ga 3))), (ga4, .inl (cI, 10, .inl (v_ga 4))), (ga5, .inl (cI, 5, .inl (v_ga 5)))]) (w1 := []) hP hD [] [0, 1, 2, 3, 4, 5] rfl rfl (by decide) (by decide) hk1 hFc hP1 hD1
    generalize H1 = H at hP hS ⊢
    have hP : va_P (dC, dI) vwCl [(ga, .inr (5, [.ref ga1, .ref ga2, .ref ga3, .ref ga4, .ref ga5, .int (v_ga 0 0), .int (v_ga 0 1), .int (v_ga 0 2)])), (ga1, .inl (cI, 10, .inl (v_ga 1))), (ga2, .inl (cI, 10, .inl (v_ga 2))), (ga3, .inl (cI, 10, .inl (v_ga 3))), (ga4, .inl (cI, 10, .inl (v_ga 4))), (ga5, .inl (cI, 5, .inl (v_ga 5)))] H := hP
    have hD : va_D (va_A (ww_X5_nameOfy dC dI cI cJ cB ga ga1 ga2 ga3 ga4 ga5 s.heap.size v_ga p0 n9 r1) s.heap.size) [(ga, .inr (5, [.ref ga1, .ref ga2, .ref ga3, .ref ga4, .ref ga5, .int (v_ga 0 0), .int (v_ga 0 1), .int (v_ga 0 2)])), (ga1, .inl (cI, 10, .inl (v_ga 1))), (ga2, .inl (cI, 10, .inl (v_ga 2))), (ga3, .inl (cI, 10, .inl (v_ga 3))), (ga4, .inl (cI, 10, .inl (v_ga 4))), (ga5, .inl (cI, 5, .inl (v_ga 5)))] := hD
    clear hPc hDc hFc hP1 hK1 hD1 hk1 hz1 ht hvm g_3
    refine lv_istore_n (lv' := [(2, .int r_4), (0, .ref ga), (1, .int p0)]) hx hb dX5_nameOf_30 rfl hl (by decide) rfl (fun ls hl => ?_)
    refine lv_iload_n hx hb dX5_nameOf_31 rfl (lv_at hl 0 rfl) ?_
    refine lv_if_lt (tgt := 50) hx hb dX5_nameOf_32 (by decide) (fun c_6 => ?_) (fun c_6 => ?_)
    · replace hf := xi_t c_6 hf
      refine lv_iconst (v := 0) hx hb dX5_nameOf_50 (by decide) ?_
      have hP9 := hP.sub (ws' := [(ga, .inr (5, [.ref ga1, .ref ga2, .ref ga3, .ref ga4, .ref ga5, .int (v_ga 0 0), .int (v_ga 0 1), .int (v_ga 0 2)])), (ga1, .inl (cI, 10, .inl (v_ga 1))), (ga2, .inl (cI, 10, .inl (v_ga 2))), (ga3, .inl (cI, 10, .inl (v_ga 3))), (ga4, .inl (cI, 10, .inl (v_ga 4))), (ga5, .inl (cI, 5, .inl (v_ga 5)))]) [0, 1, 2, 3, 4, 5] rfl
      have hD9 := hD.sub (ws' := [(ga, .inr (5, [.ref ga1, .ref ga2, .ref ga3, .ref ga4, .ref ga5, .int (v_ga 0 0), .int (v_ga 0 1), .int (v_ga 0 2)])), (ga1, .inl (cI, 10, .inl (v_ga 1))), (ga2, .inl (cI, 10, .inl (v_ga 2))), (ga3, .inl (cI, 10, .inl (v_ga 3))), (ga4, .inl (cI, 10, .inl (v_ga 4))), (ga5, .inl (cI, 5, .inl (v_ga 5)))]) [0, 1, 2, 3, 4, 5] (by decide) rfl
      have r9_0 : (0 : Int32) = r1 := (Option.some.inj hf)
      exact W.iret (v := (0 : Int32)) hx hb hr (fun t ht hW => ⟨⟨(0 : Int32), (), rfl, r9_0, by rw [ht]; exact hP9, va_K.moved hW.alike hK, hD9⟩, hS.F ht⟩) hS.2.2 dX5_nameOf_51
    · replace hf := xi_f c_6 hf
      refine lv_iload_n hx hb dX5_nameOf_35 rfl (lv_at hl 0 rfl) ?_
      refine lv_bipush (v := 10) hx hb dX5_nameOf_36 (by decide) ?_
      refine lv_icmp_ge (tgt := 50) hx hb dX5_nameOf_38 (by decide) (fun c_7 => ?_) (fun c_7 => ?_)
      · replace hf := xi_t c_7 hf
        refine lv_iconst (v := 0) hx hb dX5_nameOf_50 (by decide) ?_
        have hP9 := hP.sub (ws' := [(ga, .inr (5, [.ref ga1, .ref ga2, .ref ga3, .ref ga4, .ref ga5, .int (v_ga 0 0), .int (v_ga 0 1), .int (v_ga 0 2)])), (ga1, .inl (cI, 10, .inl (v_ga 1))), (ga2, .inl (cI, 10, .inl (v_ga 2))), (ga3, .inl (cI, 10, .inl (v_ga 3))), (ga4, .inl (cI, 10, .inl (v_ga 4))), (ga5, .inl (cI, 5, .inl (v_ga 5)))]) [0, 1, 2, 3, 4, 5] rfl
        have hD9 := hD.sub (ws' := [(ga, .inr (5, [.ref ga1, .ref ga2, .ref ga3, .ref ga4, .ref ga5, .int (v_ga 0 0), .int (v_ga 0 1), .int (v_ga 0 2)])), (ga1, .inl (cI, 10, .inl (v_ga 1))), (ga2, .inl (cI, 10, .inl (v_ga 2))), (ga3, .inl (cI, 10, .inl (v_ga 3))), (ga4, .inl (cI, 10, .inl (v_ga 4))), (ga5, .inl (cI, 5, .inl (v_ga 5)))]) [0, 1, 2, 3, 4, 5] (by decide) rfl
        have r9_0 : (0 : Int32) = r1 := (Option.some.inj hf)
        exact W.iret (v := (0 : Int32)) hx hb hr (fun t ht hW => ⟨⟨(0 : Int32), (), rfl, r9_0, by rw [ht]; exact hP9, va_K.moved hW.alike hK, hD9⟩, hS.F ht⟩) hS.2.2 dX5_nameOf_51
      · replace hf := xi_f c_7 hf
        refine lv_aload_n hx hb dX5_nameOf_41 rfl (lv_at hl 1 rfl) ?_
        refine va_get (D := (dC, dI)) (ci := 5) (v := .ref ga1) (C := RX5) (T := TX5) (N := 8) hx hb hts kk1_ hown hK hP 0 rfl rfl 0 (by decide) kk0_ (fun _ h9 => h9) rfl dX5_nameOf_42 ?_
        refine lv_iload_n hx hb dX5_nameOf_45 rfl (lv_at hl 0 rfl) ?_
        refine va_iald hx hb hK hP 1 0 rfl rfl (vp_in_iff.mpr (xr_in hf)) dX5_nameOf_46 ?_
        refine lv_topi (fun y_8 ey_8 => ?_)
        replace hf := xr_to ey_8 hf
        refine lv_goto (tgt := 51) hx hb dX5_nameOf_47 (by decide) ?_
        have hP9 := hP.sub (ws' := [(ga, .inr (5, [.ref ga1, .ref ga2, .ref ga3, .ref ga4, .ref ga5, .int (v_ga 0 0), .int (v_ga 0 1), .int (v_ga 0 2)])), (ga1, .inl (cI, 10, .inl (v_ga 1))), (ga2, .inl (cI, 10, .inl (v_ga 2))), (ga3, .inl (cI, 10, .inl (v_ga 3))), (ga4, .inl (cI, 10, .inl (v_ga 4))), (ga5, .inl (cI, 5, .inl (v_ga 5)))]) [0, 1, 2, 3, 4, 5] rfl
        have hD9 := hD.sub (ws' := [(ga, .inr (5, [.ref ga1, .ref ga2, .ref ga3, .ref ga4, .ref ga5, .int (v_ga 0 0), .int (v_ga 0 1), .int (v_ga 0 2)])), (ga1, .inl (cI, 10, .inl (v_ga 1))), (ga2, .inl (cI, 10, .inl (v_ga 2))), (ga3, .inl (cI, 10, .inl (v_ga 3))), (ga4, .inl (cI, 10, .inl (v_ga 4))), (ga5, .inl (cI, 5, .inl (v_ga 5)))]) [0, 1, 2, 3, 4, 5] (by decide) rfl
        have r9_0 : y_8 = r1 := (Option.some.inj hf)
        exact W.iret (v := y_8) hx hb hr (fun t ht hW => ⟨⟨y_8, (), rfl, r9_0, by rw [ht]; exact hP9, va_K.moved hW.alike hK, hD9⟩, hS.F ht⟩) hS.2.2 dX5_nameOf_51
  · replace hf := xi_f c_1 hf
    refine lv_iload_n hx hb dX5_nameOf_6 rfl (lv_at hl 1 rfl) ?_
    refine lv_if_lt (tgt := 24) hx hb dX5_nameOf_7 (by decide) (fun c_9 => ?_) (fun c_9 => ?_)
    · replace hf := xi_t c_9 hf
      refine lv_iconst (v := 0) hx hb dX5_nameOf_24 (by decide) ?_
      have hP9 := hP.sub (ws' := [(ga, .inr (5, [.ref ga1, .ref ga2, .ref ga3, .ref ga4, .ref ga5, .int (v_ga 0 0), .int (v_ga 0 1), .int (v_ga 0 2)])), (ga1, .inl (cI, 10, .inl (v_ga 1))), (ga2, .inl (cI, 10, .inl (v_ga 2))), (ga3, .inl (cI, 10, .inl (v_ga 3))), (ga4, .inl (cI, 10, .inl (v_ga 4))), (ga5, .inl (cI, 5, .inl (v_ga 5)))]) [0, 1, 2, 3, 4, 5] rfl
      have hD9 := hD.sub (ws' := [(ga, .inr (5, [.ref ga1, .ref ga2, .ref ga3, .ref ga4, .ref ga5, .int (v_ga 0 0), .int (v_ga 0 1), .int (v_ga 0 2)])), (ga1, .inl (cI, 10, .inl (v_ga 1))), (ga2, .inl (cI, 10, .inl (v_ga 2))), (ga3, .inl (cI, 10, .inl (v_ga 3))), (ga4, .inl (cI, 10, .inl (v_ga 4))), (ga5, .inl (cI, 5, .inl (v_ga 5)))]) [0, 1, 2, 3, 4, 5] (by decide) rfl
      have r9_0 : (0 : Int32) = r1 := (Option.some.inj hf)
      exact W.iret (v := (0 : Int32)) hx hb hr (fun t ht hW => ⟨⟨(0 : Int32), (), rfl, r9_0, by rw [ht]; exact hP9, va_K.moved hW.alike hK, hD9⟩, hS.F ht⟩) hS.2.2 dX5_nameOf_25
    · replace hf := xi_f c_9 hf
      refine lv_iload_n hx hb dX5_nameOf_10 rfl (lv_at hl 1 rfl) ?_
      refine lv_iconst (v := 5) hx hb dX5_nameOf_11 (by decide) ?_
      refine lv_icmp_ge (tgt := 24) hx hb dX5_nameOf_12 (by decide) (fun c_10 => ?_) (fun c_10 => ?_)
      · replace hf := xi_t c_10 hf
        refine lv_iconst (v := 0) hx hb dX5_nameOf_24 (by decide) ?_
        have hP9 := hP.sub (ws' := [(ga, .inr (5, [.ref ga1, .ref ga2, .ref ga3, .ref ga4, .ref ga5, .int (v_ga 0 0), .int (v_ga 0 1), .int (v_ga 0 2)])), (ga1, .inl (cI, 10, .inl (v_ga 1))), (ga2, .inl (cI, 10, .inl (v_ga 2))), (ga3, .inl (cI, 10, .inl (v_ga 3))), (ga4, .inl (cI, 10, .inl (v_ga 4))), (ga5, .inl (cI, 5, .inl (v_ga 5)))]) [0, 1, 2, 3, 4, 5] rfl
        have hD9 := hD.sub (ws' := [(ga, .inr (5, [.ref ga1, .ref ga2, .ref ga3, .ref ga4, .ref ga5, .int (v_ga 0 0), .int (v_ga 0 1), .int (v_ga 0 2)])), (ga1, .inl (cI, 10, .inl (v_ga 1))), (ga2, .inl (cI, 10, .inl (v_ga 2))), (ga3, .inl (cI, 10, .inl (v_ga 3))), (ga4, .inl (cI, 10, .inl (v_ga 4))), (ga5, .inl (cI, 5, .inl (v_ga 5)))]) [0, 1, 2, 3, 4, 5] (by decide) rfl
        have r9_0 : (0 : Int32) = r1 := (Option.some.inj hf)
        exact W.iret (v := (0 : Int32)) hx hb hr (fun t ht hW => ⟨⟨(0 : Int32), (), rfl, r9_0, by rw [ht]; exact hP9, va_K.moved hW.alike hK, hD9⟩, hS.F ht⟩) hS.2.2 dX5_nameOf_25
      · replace hf := xi_f c_10 hf
        refine lv_aload_n hx hb dX5_nameOf_15 rfl (lv_at hl 0 rfl) ?_
        refine va_get (D := (dC, dI)) (ci := 5) (v := .ref ga5) (C := RX5) (T := TX5) (N := 8) hx hb hts kk1_ hown hK hP 0 rfl rfl 4 (by decide) kk2_ (fun _ h9 => h9) rfl dX5_nameOf_16 ?_
        refine lv_iload_n hx hb dX5_nameOf_19 rfl (lv_at hl 1 rfl) ?_
        refine va_iald hx hb hK hP 5 0 rfl rfl (vp_in_iff.mpr (xr_in hf)) dX5_nameOf_20 ?_
        refine lv_topi (fun y_11 ey_11 => ?_)
        replace hf := xr_to ey_11 hf
        refine lv_goto (tgt := 25) hx hb dX5_nameOf_21 (by decide) ?_
        have hP9 := hP.sub (ws' := [(ga, .inr (5, [.ref ga1, .ref ga2, .ref ga3, .ref ga4, .ref ga5, .int (v_ga 0 0), .int (v_ga 0 1), .int (v_ga 0 2)])), (ga1, .inl (cI, 10, .inl (v_ga 1))), (ga2, .inl (cI, 10, .inl (v_ga 2))), (ga3, .inl (cI, 10, .inl (v_ga 3))), (ga4, .inl (cI, 10, .inl (v_ga 4))), (ga5, .inl (cI, 5, .inl (v_ga 5)))]) [0, 1, 2, 3, 4, 5] rfl
        have hD9 := hD.sub (ws' := [(ga, .inr (5, [.ref ga1, .ref ga2, .ref ga3, .ref ga4, .ref ga5, .int (v_ga 0 0), .int (v_ga 0 1), .int (v_ga 0 2)])), (ga1, .inl (cI, 10, .inl (v_ga 1))), (ga2, .inl (cI, 10, .inl (v_ga 2))), (ga3, .inl (cI, 10, .inl (v_ga 3))), (ga4, .inl (cI, 10, .inl (v_ga 4))), (ga5, .inl (cI, 5, .inl (v_ga 5)))]) [0, 1, 2, 3, 4, 5] (by decide) rfl
        have r9_0 : y_11 = r1 := (Option.some.inj hf)
        exact W.iret (v := y_11) hx hb hr (fun t ht hW => ⟨⟨y_11, (), rfl, r9_0, by rw [ht]; exact hP9, va_K.moved hW.alike hK, hD9⟩, hS.F ht⟩) hS.2.2 dX5_nameOf_25
def wo_X5_findOperatory : List Cond := .code yX5_findOperator cX5_findOperator 3 (some .int) :: (([.fieldLink RX5 33 "SumRewriter$Signature" "operators" "I", .fieldLink RX5 9 "SumRewriter$Signature" "names" "[I"] : List Cond) ++ ((wsX50)))
abbrev ww_X5_findOperatory (dC : Nat → ClassId) (dI : Nat → Nat → Nat) (cI cJ cB : ClassId) (ga ga1 ga2 ga3 ga4 ga5 : Nat) (sz : Nat) (v_ga : Nat → Nat → Int32) (p0 : Int32) (n9 : Nat) (r1 : Int32) : va_W := [(ga, .inr (5, [.ref ga1, .ref ga2, .ref ga3, .ref ga4, .ref ga5, .int (v_ga 0 0), .int (v_ga 0 1), .int (v_ga 0 2)])), (ga1, .inl (cI, 10, .inl (v_ga 1))), (ga2, .inl (cI, 10, .inl (v_ga 2))), (ga3, .inl (cI, 10, .inl (v_ga 3))), (ga4, .inl (cI, 10, .inl (v_ga 4))), (ga5, .inl (cI, 5, .inl (v_ga 5)))]
abbrev at_X5_findOperatory (dC : Nat → ClassId) (dI : Nat → Nat → Nat) (cI cJ cB : ClassId) (ga ga1 ga2 ga3 ga4 ga5 : Nat) (sz : Nat) (v_ga : Nat → Nat → Int32) (p0 : Int32) (n9 : Nat) (r1 : Int32) (u : Unit) (t : State) : Prop := match u with
  | () => va_P (dC, dI) vwCl [(ga, .inr (5, [.ref ga1, .ref ga2, .ref ga3, .ref ga4, .ref ga5, .int (v_ga 0 0), .int (v_ga 0 1), .int (v_ga 0 2)])), (ga1, .inl (cI, 10, .inl (v_ga 1))), (ga2, .inl (cI, 10, .inl (v_ga 2))), (ga3, .inl (cI, 10, .inl (v_ga 3))), (ga4, .inl (cI, 10, .inl (v_ga 4))), (ga5, .inl (cI, 5, .inl (v_ga 5)))] t.heap ∧ va_K (dC, dI) vwCl (tyL cI cJ cB) t ∧ va_D (va_A (ww_X5_findOperatory dC dI cI cJ cB ga ga1 ga2 ga3 ga4 ga5 sz v_ga p0 n9 r1) sz) [(ga, .inr (5, [.ref ga1, .ref ga2, .ref ga3, .ref ga4, .ref ga5, .int (v_ga 0 0), .int (v_ga 0 1), .int (v_ga 0 2)])), (ga1, .inl (cI, 10, .inl (v_ga 1))), (ga2, .inl (cI, 10, .inl (v_ga 2))), (ga3, .inl (cI, 10, .inl (v_ga 3))), (ga4, .inl (cI, 10, .inl (v_ga 4))), (ga5, .inl (cI, 5, .inl (v_ga 5)))]
abbrev qc_X5_findOperatory (dC : Nat → ClassId) (dI : Nat → Nat → Nat) (cI cJ cB : ClassId) (ga ga1 ga2 ga3 ga4 ga5 : Nat) (sz : Nat) (v_ga : Nat → Nat → Int32) (p0 : Int32) (n9 : Nat) (r1 : Int32) : Array Value → State → Outcome → State → Prop := va_Qi (fun (r : Int32) (u : Unit) => match u with | () => (r = r1)) (at_X5_findOperatory dC dI cI cJ cB ga ga1 ga2 ga3 ga4 ga5 sz v_ga p0 n9 r1) (va_A (ww_X5_findOperatory dC dI cI cJ cB ga ga1 ga2 ga3 ga4 ga5 sz v_ga p0 n9 r1) sz)
abbrev pc_X5_findOperatory (dC : Nat → ClassId) (dI : Nat → Nat → Nat) (cI cJ cB : ClassId) (ga ga1 ga2 ga3 ga4 ga5 : Nat) (sz : Nat) (v_ga : Nat → Nat → Int32) (p0 : Int32) (n9 : Nat) (r1 : Int32) : Array Value → State → Prop := va_Pc [.ref ga, .int p0] (fun U => U.heap.size = sz ∧ NW U ∧ va_P (dC, dI) vwCl (ww_X5_findOperatory dC dI cI cJ cB ga ga1 ga2 ga3 ga4 ga5 sz v_ga p0 n9 r1) U.heap ∧ va_K (dC, dI) vwCl (tyL cI cJ cB) U ∧ va_D (fun _ => True) (ww_X5_findOperatory dC dI cI cJ cB ga ga1 ga2 ga3 ga4 ga5 sz v_ga p0 n9 r1))
abbrev rm_X5_findOperatory : Room := { frames := 0, cells := 0, slots := 0, locals := 0 }
abbrev WW_X5_findOperatory (p : Program) (l : Launch) (e : Env) (s : State) (m : MethodId) (below : List Frame) (meth : Method) (c : Code) (dC : Nat → ClassId) (dI : Nat → Nat → Nat) (cI cJ cB : ClassId) (ga ga1 ga2 ga3 ga4 ga5 : Nat) (sz : Nat) (v_ga : Nat → Nat → Int32) (p0 : Int32) (n9 : Nat) (r1 : Int32) (H : Heap) (locs : List Loc) (g : JFrame) : Prop := W p l e rm_X5_findOperatory s m ([.ref ga, .int p0] : List Value).toArray below meth c H locs 0 0 (MQ below (qc_X5_findOperatory dC dI cI cJ cB ga ga1 ga2 ga3 ga4 ga5 sz v_ga p0 n9 r1) ([.ref ga, .int p0] : List Value).toArray s 0 0 (va_A (ww_X5_findOperatory dC dI cI cJ cB ga ga1 ga2 ga3 ga4 ga5 sz v_ga p0 n9 r1) sz)) g
set_option maxHeartbeats 4000000 in
set_option maxRecDepth 100000 in
theorem c_X5_findOperatory (l : Launch) (dC : Nat → ClassId) (dI : Nat → Nat → Nat) (cI cJ cB : ClassId) (ga ga1 ga2 ga3 ga4 ga5 : Nat) (sz : Nat) (v_ga : Nat → Nat → Int32) (p0 : Int32) (n9 : Nat) (r1 : Int32) (hf : fx_X5_findOperator n9 v_ga p0 = some (r1)) : Met l yX5_findOperator wo_X5_findOperatory rm_X5_findOperatory (pc_X5_findOperatory dC dI cI cJ cB ga ga1 ga2 ga3 ga4 ga5 sz v_ga p0 n9 r1) (qc_X5_findOperatory dC dI cI cJ cB ga ga1 ga2 ga3 ga4 ga5 sz v_ga p0 n9 r1) 0 0 (va_A (ww_X5_findOperatory dC dI cI cJ cB ga ga1 ga2 ga3 ga4 ga5 sz v_ga p0 n9 r1) sz) := by
  unfold fx_X5_findOperator at hf
  refine Met.ofW (cc := cX5_findOperator) (maxL := 3) (ret := (some .int)) (by decide) rfl ?_
  intro p e s m args below meth c s₁ B hml hv
  obtain ⟨rfl, hsz, hnw, hP, hK, hD0⟩ := hv
  have hx := B.exec
  have hb := B.bytes
  have hr := B.returns
  have hts := atoms_spec (ws := wo_X5_findOperatory) B.pre
  have hown : s.vm.findClass RX5 = some m.cls := findClass_of_methodNamed B.named
  have hlocks := B.notSynchronized
  clear B
  subst hsz
  have hD := hD0.self (sz := s.heap.size)
  clear hD0
  have kk0_ := hts (.fieldLink RX5 33 "SumRewriter$Signature" "operators" "I") (by decide +kernel)
  have kk1_ : ∀ w ∈ wsX50, w ∈ wo_X5_findOperatory := fun _ h => (List.mem_cons_of_mem _ (List.mem_append_right _ h))
  have kk2_ := hts (.fieldLink RX5 9 "SumRewriter$Signature" "names" "[I") (by decide +kernel)
  have hA : ∀ q : Nat, s.heap.size ≤ q → (va_A (ww_X5_findOperatory dC dI cI cJ cB ga ga1 ga2 ga3 ga4 ga5 s.heap.size v_ga p0 n9 r1) s.heap.size) q := fun q h => Or.inr h
  have hS : va_S (va_A (ww_X5_findOperatory dC dI cI cJ cB ga ga1 ga2 ga3 ga4 ga5 s.heap.size v_ga p0 n9 r1) s.heap.size) s.heap s.heap [] := va_S.rf
  have hl := lv_entry ([.ref ga, .int p0]) (n := 3) (Nat.le_of_ble_eq_true rfl)
  rw [lg_entry_eq]
  generalize (lg_sl ([.ref ga, .int p0]) ++ List.replicate (3 - (lg_sl ([.ref ga, .int p0])).length) Slot.unset).toArray = ls at hl ⊢
  have hl : lv_has ls 3 [(0, .ref ga), (1, .int p0)] := hl
  have hP : va_P (dC, dI) vwCl [(ga, .inr (5, [.ref ga1, .ref ga2, .ref ga3, .ref ga4, .ref ga5, .int (v_ga 0 0), .int (v_ga 0 1), .int (v_ga 0 2)])), (ga1, .inl (cI, 10, .inl (v_ga 1))), (ga2, .inl (cI, 10, .inl (v_ga 2))), (ga3, .inl (cI, 10, .inl (v_ga 3))), (ga4, .inl (cI, 10, .inl (v_ga 4))), (ga5, .inl (cI, 5, .inl (v_ga 5)))] s.heap := hP
  have hD : va_D (va_A (ww_X5_findOperatory dC dI cI cJ cB ga ga1 ga2 ga3 ga4 ga5 s.heap.size v_ga p0 n9 r1) s.heap.size) [(ga, .inr (5, [.ref ga1, .ref ga2, .ref ga3, .ref ga4, .ref ga5, .int (v_ga 0 0), .int (v_ga 0 1), .int (v_ga 0 2)])), (ga1, .inl (cI, 10, .inl (v_ga 1))), (ga2, .inl (cI, 10, .inl (v_ga 2))), (ga3, .inl (cI, 10, .inl (v_ga 3))), (ga4, .inl (cI, 10, .inl (v_ga 4))), (ga5, .inl (cI, 5, .inl (v_ga 5)))] := hD
  obtain ⟨H, hH⟩ : ∃ H, H = s.heap := ⟨_, rfl⟩
  obtain ⟨locs, hlc⟩ : ∃ L : List Loc, L = [] := ⟨_, rfl⟩
  have hS : va_S (va_A (ww_X5_findOperatory dC dI cI cJ cB ga ga1 ga2 ga3 ga4 ga5 s.heap.size v_ga p0 n9 r1) s.heap.size) s.heap H locs := by rw [hH, hlc]; exact hS
  have hP : va_P (dC, dI) vwCl [(ga, .inr (5, [.ref ga1, .ref ga2, .ref ga3, .ref ga4, .ref ga5, .int (v_ga 0 0), .int (v_ga 0 1), .int (v_ga 0 2)])), (ga1, .inl (cI, 10, .inl (v_ga 1))), (ga2, .inl (cI, 10, .inl (v_ga 2))), (ga3, .inl (cI, 10, .inl (v_ga 3))), (ga4, .inl (cI, 10, .inl (v_ga 4))), (ga5, .inl (cI, 5, .inl (v_ga 5)))] H := by rw [hH]; exact hP
  suffices hgo : WW_X5_findOperatory p l e s m below meth c dC dI cI cJ cB ga ga1 ga2 ga3 ga4 ga5 s.heap.size v_ga p0 n9 r1 H locs (F0 m 0 ls []) by rw [hH, hlc] at hgo; exact hgo
  clear hH hlc
  have L_2 : ∀ (N_2 : Nat), ∀ (x2 : Int32), lx_X5_findOperator_2 n9 v_ga p0 N_2 x2 = some (r1) → ∀ (H : Heap) (locs : List Loc), va_P (dC, dI) vwCl [(ga, .inr (5, [.ref ga1, .ref ga2, .ref ga3, .ref ga4, .ref ga5, .int (v_ga 0 0), .int (v_ga 0 1), .int (v_ga 0 2)])), (ga1, .inl (cI, 10, .inl (v_ga 1))), (ga2, .inl (cI, 10, .inl (v_ga 2))), (ga3, .inl (cI, 10, .inl (v_ga 3))), (ga4, .inl (cI, 10, .inl (v_ga 4))), (ga5, .inl (cI, 5, .inl (v_ga 5)))] H → va_D (va_A (ww_X5_findOperatory dC dI cI cJ cB ga ga1 ga2 ga3 ga4 ga5 s.heap.size v_ga p0 n9 r1) s.heap.size) [(ga, .inr (5, [.ref ga1, .ref ga2, .ref ga3, .ref ga4, .ref ga5, .int (v_ga 0 0), .int (v_ga 0 1), .int (v_ga 0 2)])), (ga1, .inl (cI, 10, .inl (v_ga 1))), (ga2, .inl (cI, 10, .inl (v_ga 2))), (ga3, .inl (cI, 10, .inl (v_ga 3))), (ga4, .inl (cI, 10, .inl (v_ga 4))), (ga5, .inl (cI, 5, .inl (v_ga 5)))] → va_S (va_A (ww_X5_findOperatory dC dI cI cJ cB ga ga1 ga2 ga3 ga4 ga5 s.heap.size v_ga p0 n9 r1) s.heap.size) s.heap H locs → ∀ ls : Array Slot, lv_has ls 3 [(0, .ref ga), (1, .int p0), (2, .int x2)] → WW_X5_findOperatory p l e s m below meth c dC dI cI cJ cB ga ga1 ga2 ga3 ga4 ga5 s.heap.size v_ga p0 n9 r1 H locs (F0 m 2 ls []) := by
    intro N_2
    induction N_2 with
    | zero => intro x2 hf; exact xn_to hf
    | succ N_2 ih_2 =>
      intro x2 hf H locs hP hD hS ls hl
      replace hf : bx_X5_findOperator_2 n9 v_ga p0 (lx_X5_findOperator_2 n9 v_ga p0 N_2) x2 = some (r1) := hf
      generalize lx_X5_findOperator_2 n9 v_ga p0 N_2 = k_2 at hf ih_2
      unfold bx_X5_findOperator_2 at hf
      refine lv_iload_n hx hb dX5_findOperator_2 rfl (lv_at hl 2 rfl) ?_
      refine lv_aload_n hx hb dX5_findOperator_3 rfl (lv_at hl 0 rfl) ?_
      refine va_get (D := (dC, dI)) (ci := 5) (v := .int (v_ga 0 0)) (C := RX5) (T := TX5) (N := 8) hx hb hts kk1_ hown hK hP 0 rfl rfl 5 (by decide) kk0_ (fun _ h9 => h9) rfl dX5_findOperator_4 ?_
      refine lv_icmp_ge (tgt := 34) hx hb dX5_findOperator_7 (by decide) (fun c_1 => ?_) (fun c_1 => ?_)
      · replace hf := xi_t c_1 hf
        refine lv_iconst (v := -1) hx hb dX5_findOperator_34 (by decide) ?_
        have hP9 := hP.sub (ws' := [(ga, .inr (5, [.ref ga1, .ref ga2, .ref ga3, .ref ga4, .ref ga5, .int (v_ga 0 0), .int (v_ga 0 1), .int (v_ga 0 2)])), (ga1, .inl (cI, 10, .inl (v_ga 1))), (ga2, .inl (cI, 10, .inl (v_ga 2))), (ga3, .inl (cI, 10, .inl (v_ga 3))), (ga4, .inl (cI, 10, .inl (v_ga 4))), (ga5, .inl (cI, 5, .inl (v_ga 5)))]) [0, 1, 2, 3, 4, 5] rfl
        have hD9 := hD.sub (ws' := [(ga, .inr (5, [.ref ga1, .ref ga2, .ref ga3, .ref ga4, .ref ga5, .int (v_ga 0 0), .int (v_ga 0 1), .int (v_ga 0 2)])), (ga1, .inl (cI, 10, .inl (v_ga 1))), (ga2, .inl (cI, 10, .inl (v_ga 2))), (ga3, .inl (cI, 10, .inl (v_ga 3))), (ga4, .inl (cI, 10, .inl (v_ga 4))), (ga5, .inl (cI, 5, .inl (v_ga 5)))]) [0, 1, 2, 3, 4, 5] (by decide) rfl
        have r9_0 : (-1 : Int32) = r1 := (Option.some.inj hf)
        exact W.iret (v := (-1 : Int32)) hx hb hr (fun t ht hW => ⟨⟨(-1 : Int32), (), rfl, r9_0, by rw [ht]; exact hP9, va_K.moved hW.alike hK, hD9⟩, hS.F ht⟩) hS.2.2 dX5_findOperator_35
      · replace hf := xi_f c_1 hf
        refine lv_iload_n hx hb dX5_findOperator_10 rfl (lv_at hl 2 rfl) ?_
        refine lv_bipush (v := 10) hx hb dX5_findOperator_11 (by decide) ?_
        refine lv_icmp_ge (tgt := 34) hx hb dX5_findOperator_13 (by decide) (fun c_2 => ?_) (fun c_2 => ?_)
        · replace hf := xi_t c_2 hf
          refine lv_iconst (v := -1) hx hb dX5_findOperator_34 (by decide) ?_
          have hP9 := hP.sub (ws' := [(ga, .inr (5, [.ref ga1, .ref ga2, .ref ga3, .ref ga4, .ref ga5, .int (v_ga 0 0), .int (v_ga 0 1), .int (v_ga 0 2)])), (ga1, .inl (cI, 10, .inl (v_ga 1))), (ga2, .inl (cI, 10, .inl (v_ga 2))), (ga3, .inl (cI, 10, .inl (v_ga 3))), (ga4, .inl (cI, 10, .inl (v_ga 4))), (ga5, .inl (cI, 5, .inl (v_ga 5)))]) [0, 1, 2, 3, 4, 5] rfl
          have hD9 := hD.sub (ws' := [(ga, .inr (5, [.ref ga1, .ref ga2, .ref ga3, .ref ga4, .ref ga5, .int (v_ga 0 0), .int (v_ga 0 1), .int (v_ga 0 2)])), (ga1, .inl (cI, 10, .inl (v_ga 1))), (ga2, .inl (cI, 10, .inl (v_ga 2))), (ga3, .inl (cI, 10, .inl (v_ga 3))), (ga4, .inl (cI, 10, .inl (v_ga 4))), (ga5, .inl (cI, 5, .inl (v_ga 5)))]) [0, 1, 2, 3, 4, 5] (by decide) rfl
          have r9_0 : (-1 : Int32) = r1 := (Option.some.inj hf)
          exact W.iret (v := (-1 : Int32)) hx hb hr (fun t ht hW => ⟨⟨(-1 : Int32), (), rfl, r9_0, by rw [ht]; exact hP9, va_K.moved hW.alike hK, hD9⟩, hS.F ht⟩) hS.2.2 dX5_findOperator_35
        · replace hf := xi_f c_2 hf
          refine lv_aload_n hx hb dX5_findOperator_16 rfl (lv_at hl 0 rfl) ?_
          refine va_get (D := (dC, dI)) (ci := 5) (v := .ref ga1) (C := RX5) (T := TX5) (N := 8) hx hb hts kk1_ hown hK hP 0 rfl rfl 0 (by decide) kk2_ (fun _ h9 => h9) rfl dX5_findOperator_17 ?_
          refine lv_iload_n hx hb dX5_findOperator_20 rfl (lv_at hl 2 rfl) ?_
          refine va_iald hx hb hK hP 1 0 rfl rfl (vp_in_iff.mpr (xr_in hf)) dX5_findOperator_21 ?_
          refine lv_topi (fun y_3 ey_3 => ?_)
          replace hf := xr_to ey_3 hf
          refine lv_iload_n hx hb dX5_findOperator_22 rfl (lv_at hl 1 rfl) ?_
          refine lv_icmp_ne (tgt := 28) hx hb dX5_findOperator_23 (by decide) (fun c_4 => ?_) (fun c_4 => ?_)
          · replace hf := xi_f c_4 hf
            obtain ⟨x2_5, ex2_5⟩ : ∃ y : Int32, y = x2 + (1) := ⟨_, rfl⟩
            refine lv_iinc (v := x2_5) (lv' := [(2, .int x2_5), (0, .ref ga), (1, .int p0)]) hx hb dX5_findOperator_28 hl (k := 2) rfl (by rw [ex2_5]; rfl) (by decide) rfl (fun ls hl => ?_)
            replace hf := xl_to ex2_5 hf
            refine lv_goto (tgt := 2) hx hb dX5_findOperator_31 (by decide) ?_
            exact ih_2 x2_5 hf _ _ (hP.sub [0, 1, 2, 3, 4, 5] rfl) (hD.sub [0, 1, 2, 3, 4, 5] (by decide) rfl) hS ls (lv_sub hl [1, 2, 0] rfl)
          · replace hf := xi_t c_4 hf
            refine lv_iload_n hx hb dX5_findOperator_26 rfl (lv_at hl 2 rfl) ?_
            have hP9 := hP.sub (ws' := [(ga, .inr (5, [.ref ga1, .ref ga2, .ref ga3, .ref ga4, .ref ga5, .int (v_ga 0 0), .int (v_ga 0 1), .int (v_ga 0 2)])), (ga1, .inl (cI, 10, .inl (v_ga 1))), (ga2, .inl (cI, 10, .inl (v_ga 2))), (ga3, .inl (cI, 10, .inl (v_ga 3))), (ga4, .inl (cI, 10, .inl (v_ga 4))), (ga5, .inl (cI, 5, .inl (v_ga 5)))]) [0, 1, 2, 3, 4, 5] rfl
            have hD9 := hD.sub (ws' := [(ga, .inr (5, [.ref ga1, .ref ga2, .ref ga3, .ref ga4, .ref ga5, .int (v_ga 0 0), .int (v_ga 0 1), .int (v_ga 0 2)])), (ga1, .inl (cI, 10, .inl (v_ga 1))), (ga2, .inl (cI, 10, .inl (v_ga 2))), (ga3, .inl (cI, 10, .inl (v_ga 3))), (ga4, .inl (cI, 10, .inl (v_ga 4))), (ga5, .inl (cI, 5, .inl (v_ga 5)))]) [0, 1, 2, 3, 4, 5] (by decide) rfl
            have r9_0 : x2 = r1 := (Option.some.inj hf)
            exact W.iret (v := x2) hx hb hr (fun t ht hW => ⟨⟨x2, (), rfl, r9_0, by rw [ht]; exact hP9, va_K.moved hW.alike hK, hD9⟩, hS.F ht⟩) hS.2.2 dX5_findOperator_27
  refine lv_iconst (v := 0) hx hb dX5_findOperator_0 (by decide) ?_
  refine lv_istore_n (lv' := [(2, .int ((0 : Int32))), (0, .ref ga), (1, .int p0)]) hx hb dX5_findOperator_1 rfl hl (by decide) rfl (fun ls hl => ?_)
  exact L_2 n9 ((0 : Int32)) hf _ _ (hP.sub [0, 1, 2, 3, 4, 5] rfl) (hD.sub [0, 1, 2, 3, 4, 5] (by decide) rfl) hS ls (lv_sub hl [1, 2, 0] rfl)
def wo_X5_findVariabley : List Cond := .code yX5_findVariable cX5_findVariable 3 (some .int) :: (([.fieldLink RX5 37 "SumRewriter$Signature" "variables" "I", .fieldLink RX5 24 "SumRewriter$Signature" "variableNames" "[I"] : List Cond) ++ ((wsX50)))
abbrev ww_X5_findVariabley (dC : Nat → ClassId) (dI : Nat → Nat → Nat) (cI cJ cB : ClassId) (ga ga1 ga2 ga3 ga4 ga5 : Nat) (sz : Nat) (v_ga : Nat → Nat → Int32) (p0 : Int32) (n9 : Nat) (r1 : Int32) : va_W := [(ga, .inr (5, [.ref ga1, .ref ga2, .ref ga3, .ref ga4, .ref ga5, .int (v_ga 0 0), .int (v_ga 0 1), .int (v_ga 0 2)])), (ga1, .inl (cI, 10, .inl (v_ga 1))), (ga2, .inl (cI, 10, .inl (v_ga 2))), (ga3, .inl (cI, 10, .inl (v_ga 3))), (ga4, .inl (cI, 10, .inl (v_ga 4))), (ga5, .inl (cI, 5, .inl (v_ga 5)))]
abbrev at_X5_findVariabley (dC : Nat → ClassId) (dI : Nat → Nat → Nat) (cI cJ cB : ClassId) (ga ga1 ga2 ga3 ga4 ga5 : Nat) (sz : Nat) (v_ga : Nat → Nat → Int32) (p0 : Int32) (n9 : Nat) (r1 : Int32) (u : Unit) (t : State) : Prop := match u with
  | () => va_P (dC, dI) vwCl [(ga, .inr (5, [.ref ga1, .ref ga2, .ref ga3, .ref ga4, .ref ga5, .int (v_ga 0 0), .int (v_ga 0 1), .int (v_ga 0 2)])), (ga1, .inl (cI, 10, .inl (v_ga 1))), (ga2, .inl (cI, 10, .inl (v_ga 2))), (ga3, .inl (cI, 10, .inl (v_ga 3))), (ga4, .inl (cI, 10, .inl (v_ga 4))), (ga5, .inl (cI, 5, .inl (v_ga 5)))] t.heap ∧ va_K (dC, dI) vwCl (tyL cI cJ cB) t ∧ va_D (va_A (ww_X5_findVariabley dC dI cI cJ cB ga ga1 ga2 ga3 ga4 ga5 sz v_ga p0 n9 r1) sz) [(ga, .inr (5, [.ref ga1, .ref ga2, .ref ga3, .ref ga4, .ref ga5, .int (v_ga 0 0), .int (v_ga 0 1), .int (v_ga 0 2)])), (ga1, .inl (cI, 10, .inl (v_ga 1))), (ga2, .inl (cI, 10, .inl (v_ga 2))), (ga3, .inl (cI, 10, .inl (v_ga 3))), (ga4, .inl (cI, 10, .inl (v_ga 4))), (ga5, .inl (cI, 5, .inl (v_ga 5)))]
abbrev qc_X5_findVariabley (dC : Nat → ClassId) (dI : Nat → Nat → Nat) (cI cJ cB : ClassId) (ga ga1 ga2 ga3 ga4 ga5 : Nat) (sz : Nat) (v_ga : Nat → Nat → Int32) (p0 : Int32) (n9 : Nat) (r1 : Int32) : Array Value → State → Outcome → State → Prop := va_Qi (fun (r : Int32) (u : Unit) => match u with | () => (r = r1)) (at_X5_findVariabley dC dI cI cJ cB ga ga1 ga2 ga3 ga4 ga5 sz v_ga p0 n9 r1) (va_A (ww_X5_findVariabley dC dI cI cJ cB ga ga1 ga2 ga3 ga4 ga5 sz v_ga p0 n9 r1) sz)
abbrev pc_X5_findVariabley (dC : Nat → ClassId) (dI : Nat → Nat → Nat) (cI cJ cB : ClassId) (ga ga1 ga2 ga3 ga4 ga5 : Nat) (sz : Nat) (v_ga : Nat → Nat → Int32) (p0 : Int32) (n9 : Nat) (r1 : Int32) : Array Value → State → Prop := va_Pc [.ref ga, .int p0] (fun U => U.heap.size = sz ∧ NW U ∧ va_P (dC, dI) vwCl (ww_X5_findVariabley dC dI cI cJ cB ga ga1 ga2 ga3 ga4 ga5 sz v_ga p0 n9 r1) U.heap ∧ va_K (dC, dI) vwCl (tyL cI cJ cB) U ∧ va_D (fun _ => True) (ww_X5_findVariabley dC dI cI cJ cB ga ga1 ga2 ga3 ga4 ga5 sz v_ga p0 n9 r1))
abbrev rm_X5_findVariabley : Room := { frames := 0, cells := 0, slots := 0, locals := 0 }
abbrev WW_X5_findVariabley (p : Program) (l : Launch) (e : Env) (s : State) (m : MethodId) (below : List Frame) (meth : Method) (c : Code) (dC : Nat → ClassId) (dI : Nat → Nat → Nat) (cI cJ cB : ClassId) (ga ga1 ga2 ga3 ga4 ga5 : Nat) (sz : Nat) (v_ga : Nat → Nat → Int32) (p0 : Int32) (n9 : Nat) (r1 : Int32) (H : Heap) (locs : List Loc) (g : JFrame) : Prop := W p l e rm_X5_findVariabley s m ([.ref ga, .int p0] : List Value).toArray below meth c H locs 0 0 (MQ below (qc_X5_findVariabley dC dI cI cJ cB ga ga1 ga2 ga3 ga4 ga5 sz v_ga p0 n9 r1) ([.ref ga, .int p0] : List Value).toArray s 0 0 (va_A (ww_X5_findVariabley dC dI cI cJ cB ga ga1 ga2 ga3 ga4 ga5 sz v_ga p0 n9 r1) sz)) g
set_option maxHeartbeats 4000000 in
set_option maxRecDepth 100000 in
theorem c_X5_findVariabley (l : Launch) (dC : Nat → ClassId) (dI : Nat → Nat → Nat) (cI cJ cB : ClassId) (ga ga1 ga2 ga3 ga4 ga5 : Nat) (sz : Nat) (v_ga : Nat → Nat → Int32) (p0 : Int32) (n9 : Nat) (r1 : Int32) (hf : fx_X5_findVariable n9 v_ga p0 = some (r1)) : Met l yX5_findVariable wo_X5_findVariabley rm_X5_findVariabley (pc_X5_findVariabley dC dI cI cJ cB ga ga1 ga2 ga3 ga4 ga5 sz v_ga p0 n9 r1) (qc_X5_findVariabley dC dI cI cJ cB ga ga1 ga2 ga3 ga4 ga5 sz v_ga p0 n9 r1) 0 0 (va_A (ww_X5_findVariabley dC dI cI cJ cB ga ga1 ga2 ga3 ga4 ga5 sz v_ga p0 n9 r1) sz) := by
  unfold fx_X5_findVariable at hf
  refine Met.ofW (cc := cX5_findVariable) (maxL := 3) (ret := (some .int)) (by decide) rfl ?_
  intro p e s m args below meth c s₁ B hml hv
  obtain ⟨rfl, hsz, hnw, hP, hK, hD0⟩ := hv
  have hx := B.exec
  have hb := B.bytes
  have hr := B.returns
  have hts := atoms_spec (ws := wo_X5_findVariabley) B.pre
  have hown : s.vm.findClass RX5 = some m.cls := findClass_of_methodNamed B.named
  have hlocks := B.notSynchronized
  clear B
  subst hsz
  have hD := hD0.self (sz := s.heap.size)
  clear hD0
  have kk0_ := hts (.fieldLink RX5 37 "SumRewriter$Signature" "variables" "I") (by decide +kernel)
  have kk1_ : ∀ w ∈ wsX50, w ∈ wo_X5_findVariabley := fun _ h => (List.mem_cons_of_mem _ (List.mem_append_right _ h))
  have kk2_ := hts (.fieldLink RX5 24 "SumRewriter$Signature" "variableNames" "[I") (by decide +kernel)
  have hA : ∀ q : Nat, s.heap.size ≤ q → (va_A (ww_X5_findVariabley dC dI cI cJ cB ga ga1 ga2 ga3 ga4 ga5 s.heap.size v_ga p0 n9 r1) s.heap.size) q := fun q h => Or.inr h
  have hS : va_S (va_A (ww_X5_findVariabley dC dI cI cJ cB ga ga1 ga2 ga3 ga4 ga5 s.heap.size v_ga p0 n9 r1) s.heap.size) s.heap s.heap [] := va_S.rf
  have hl := lv_entry ([.ref ga, .int p0]) (n := 3) (Nat.le_of_ble_eq_true rfl)
  rw [lg_entry_eq]
  generalize (lg_sl ([.ref ga, .int p0]) ++ List.replicate (3 - (lg_sl ([.ref ga, .int p0])).length) Slot.unset).toArray = ls at hl ⊢
  have hl : lv_has ls 3 [(0, .ref ga), (1, .int p0)] := hl
  have hP : va_P (dC, dI) vwCl [(ga, .inr (5, [.ref ga1, .ref ga2, .ref ga3, .ref ga4, .ref ga5, .int (v_ga 0 0), .int (v_ga 0 1), .int (v_ga 0 2)])), (ga1, .inl (cI, 10, .inl (v_ga 1))), (ga2, .inl (cI, 10, .inl (v_ga 2))), (ga3, .inl (cI, 10, .inl (v_ga 3))), (ga4, .inl (cI, 10, .inl (v_ga 4))), (ga5, .inl (cI, 5, .inl (v_ga 5)))] s.heap := hP
  have hD : va_D (va_A (ww_X5_findVariabley dC dI cI cJ cB ga ga1 ga2 ga3 ga4 ga5 s.heap.size v_ga p0 n9 r1) s.heap.size) [(ga, .inr (5, [.ref ga1, .ref ga2, .ref ga3, .ref ga4, .ref ga5, .int (v_ga 0 0), .int (v_ga 0 1), .int (v_ga 0 2)])), (ga1, .inl (cI, 10, .inl (v_ga 1))), (ga2, .inl (cI, 10, .inl (v_ga 2))), (ga3, .inl (cI, 10, .inl (v_ga 3))), (ga4, .inl (cI, 10, .inl (v_ga 4))), (ga5, .inl (cI, 5, .inl (v_ga 5)))] := hD
  obtain ⟨H, hH⟩ : ∃ H, H = s.heap := ⟨_, rfl⟩
  obtain ⟨locs, hlc⟩ : ∃ L : List Loc, L = [] := ⟨_, rfl⟩
  have hS : va_S (va_A (ww_X5_findVariabley dC dI cI cJ cB ga ga1 ga2 ga3 ga4 ga5 s.heap.size v_ga p0 n9 r1) s.heap.size) s.heap H locs := by rw [hH, hlc]; exact hS
  have hP : va_P (dC, dI) vwCl [(ga, .inr (5, [.ref ga1, .ref ga2, .ref ga3, .ref ga4, .ref ga5, .int (v_ga 0 0), .int (v_ga 0 1), .int (v_ga 0 2)])), (ga1, .inl (cI, 10, .inl (v_ga 1))), (ga2, .inl (cI, 10, .inl (v_ga 2))), (ga3, .inl (cI, 10, .inl (v_ga 3))), (ga4, .inl (cI, 10, .inl (v_ga 4))), (ga5, .inl (cI, 5, .inl (v_ga 5)))] H := by rw [hH]; exact hP
  suffices hgo : WW_X5_findVariabley p l e s m below meth c dC dI cI cJ cB ga ga1 ga2 ga3 ga4 ga5 s.heap.size v_ga p0 n9 r1 H locs (F0 m 0 ls []) by rw [hH, hlc] at hgo; exact hgo
  clear hH hlc
  have L_2 : ∀ (N_2 : Nat), ∀ (x2 : Int32), lx_X5_findVariable_2 n9 v_ga p0 N_2 x2 = some (r1) → ∀ (H : Heap) (locs : List Loc), va_P (dC, dI) vwCl [(ga, .inr (5, [.ref ga1, .ref ga2, .ref ga3, .ref ga4, .ref ga5, .int (v_ga 0 0), .int (v_ga 0 1), .int (v_ga 0 2)])), (ga1, .inl (cI, 10, .inl (v_ga 1))), (ga2, .inl (cI, 10, .inl (v_ga 2))), (ga3, .inl (cI, 10, .inl (v_ga 3))), (ga4, .inl (cI, 10, .inl (v_ga 4))), (ga5, .inl (cI, 5, .inl (v_ga 5)))] H → va_D (va_A (ww_X5_findVariabley dC dI cI cJ cB ga ga1 ga2 ga3 ga4 ga5 s.heap.size v_ga p0 n9 r1) s.heap.size) [(ga, .inr (5, [.ref ga1, .ref ga2, .ref ga3, .ref ga4, .ref ga5, .int (v_ga 0 0), .int (v_ga 0 1), .int (v_ga 0 2)])), (ga1, .inl (cI, 10, .inl (v_ga 1))), (ga2, .inl (cI, 10, .inl (v_ga 2))), (ga3, .inl (cI, 10, .inl (v_ga 3))), (ga4, .inl (cI, 10, .inl (v_ga 4))), (ga5, .inl (cI, 5, .inl (v_ga 5)))] → va_S (va_A (ww_X5_findVariabley dC dI cI cJ cB ga ga1 ga2 ga3 ga4 ga5 s.heap.size v_ga p0 n9 r1) s.heap.size) s.heap H locs → ∀ ls : Array Slot, lv_has ls 3 [(0, .ref ga), (1, .int p0), (2, .int x2)] → WW_X5_findVariabley p l e s m below meth c dC dI cI cJ cB ga ga1 ga2 ga3 ga4 ga5 s.heap.size v_ga p0 n9 r1 H locs (F0 m 2 ls []) := by
    intro N_2
    induction N_2 with
    | zero => intro x2 hf; exact xn_to hf
    | succ N_2 ih_2 =>
      intro x2 hf H locs hP hD hS ls hl
      replace hf : bx_X5_findVariable_2 n9 v_ga p0 (lx_X5_findVariable_2 n9 v_ga p0 N_2) x2 = some (r1) := hf
      generalize lx_X5_findVariable_2 n9 v_ga p0 N_2 = k_2 at hf ih_2
      unfold bx_X5_findVariable_2 at hf
      refine lv_iload_n hx hb dX5_findVariable_2 rfl (lv_at hl 2 rfl) ?_
      refine lv_aload_n hx hb dX5_findVariable_3 rfl (lv_at hl 0 rfl) ?_
      refine va_get (D := (dC, dI)) (ci := 5) (v := .int (v_ga 0 1)) (C := RX5) (T := TX5) (N := 8) hx hb hts kk1_ hown hK hP 0 rfl rfl 6 (by decide) kk0_ (fun _ h9 => h9) rfl dX5_findVariable_4 ?_
      refine lv_icmp_ge (tgt := 33) hx hb dX5_findVariable_7 (by decide) (fun c_1 => ?_) (fun c_1 => ?_)
      · replace hf := xi_t c_1 hf
        refine lv_iconst (v := -1) hx hb dX5_findVariable_33 (by decide) ?_
        have hP9 := hP.sub (ws' := [(ga, .inr (5, [.ref ga1, .ref ga2, .ref ga3, .ref ga4, .ref ga5, .int (v_ga 0 0), .int (v_ga 0 1), .int (v_ga 0 2)])), (ga1, .inl (cI, 10, .inl (v_ga 1))), (ga2, .inl (cI, 10, .inl (v_ga 2))), (ga3, .inl (cI, 10, .inl (v_ga 3))), (ga4, .inl (cI, 10, .inl (v_ga 4))), (ga5, .inl (cI, 5, .inl (v_ga 5)))]) [0, 1, 2, 3, 4, 5] rfl
        have hD9 := hD.sub (ws' := [(ga, .inr (5, [.ref ga1, .ref ga2, .ref ga3, .ref ga4, .ref ga5, .int (v_ga 0 0), .int (v_ga 0 1), .int (v_ga 0 2)])), (ga1, .inl (cI, 10, .inl (v_ga 1))), (ga2, .inl (cI, 10, .inl (v_ga 2))), (ga3, .inl (cI, 10, .inl (v_ga 3))), (ga4, .inl (cI, 10, .inl (v_ga 4))), (ga5, .inl (cI, 5, .inl (v_ga 5)))]) [0, 1, 2, 3, 4, 5] (by decide) rfl
        have r9_0 : (-1 : Int32) = r1 := (Option.some.inj hf)
        exact W.iret (v := (-1 : Int32)) hx hb hr (fun t ht hW => ⟨⟨(-1 : Int32), (), rfl, r9_0, by rw [ht]; exact hP9, va_K.moved hW.alike hK, hD9⟩, hS.F ht⟩) hS.2.2 dX5_findVariable_34
      · replace hf := xi_f c_1 hf
        refine lv_iload_n hx hb dX5_findVariable_10 rfl (lv_at hl 2 rfl) ?_
        refine lv_iconst (v := 5) hx hb dX5_findVariable_11 (by decide) ?_
        refine lv_icmp_ge (tgt := 33) hx hb dX5_findVariable_12 (by decide) (fun c_2 => ?_) (fun c_2 => ?_)
        · replace hf := xi_t c_2 hf
          refine lv_iconst (v := -1) hx hb dX5_findVariable_33 (by decide) ?_
          have hP9 := hP.sub (ws' := [(ga, .inr (5, [.ref ga1, .ref ga2, .ref ga3, .ref ga4, .ref ga5, .int (v_ga 0 0), .int (v_ga 0 1), .int (v_ga 0 2)])), (ga1, .inl (cI, 10, .inl (v_ga 1))), (ga2, .inl (cI, 10, .inl (v_ga 2))), (ga3, .inl (cI, 10, .inl (v_ga 3))), (ga4, .inl (cI, 10, .inl (v_ga 4))), (ga5, .inl (cI, 5, .inl (v_ga 5)))]) [0, 1, 2, 3, 4, 5] rfl
          have hD9 := hD.sub (ws' := [(ga, .inr (5, [.ref ga1, .ref ga2, .ref ga3, .ref ga4, .ref ga5, .int (v_ga 0 0), .int (v_ga 0 1), .int (v_ga 0 2)])), (ga1, .inl (cI, 10, .inl (v_ga 1))), (ga2, .inl (cI, 10, .inl (v_ga 2))), (ga3, .inl (cI, 10, .inl (v_ga 3))), (ga4, .inl (cI, 10, .inl (v_ga 4))), (ga5, .inl (cI, 5, .inl (v_ga 5)))]) [0, 1, 2, 3, 4, 5] (by decide) rfl
          have r9_0 : (-1 : Int32) = r1 := (Option.some.inj hf)
          exact W.iret (v := (-1 : Int32)) hx hb hr (fun t ht hW => ⟨⟨(-1 : Int32), (), rfl, r9_0, by rw [ht]; exact hP9, va_K.moved hW.alike hK, hD9⟩, hS.F ht⟩) hS.2.2 dX5_findVariable_34
        · replace hf := xi_f c_2 hf
          refine lv_aload_n hx hb dX5_findVariable_15 rfl (lv_at hl 0 rfl) ?_
          refine va_get (D := (dC, dI)) (ci := 5) (v := .ref ga5) (C := RX5) (T := TX5) (N := 8) hx hb hts kk1_ hown hK hP 0 rfl rfl 4 (by decide) kk2_ (fun _ h9 => h9) rfl dX5_findVariable_16 ?_
          refine lv_iload_n hx hb dX5_findVariable_19 rfl (lv_at hl 2 rfl) ?_
          refine va_iald hx hb hK hP 5 0 rfl rfl (vp_in_iff.mpr (xr_in hf)) dX5_findVariable_20 ?_
          refine lv_topi (fun y_3 ey_3 => ?_)
          replace hf := xr_to ey_3 hf
          refine lv_iload_n hx hb dX5_findVariable_21 rfl (lv_at hl 1 rfl) ?_
          refine lv_icmp_ne (tgt := 27) hx hb dX5_findVariable_22 (by decide) (fun c_4 => ?_) (fun c_4 => ?_)
          · replace hf := xi_f c_4 hf
            obtain ⟨x2_5, ex2_5⟩ : ∃ y : Int32, y = x2 + (1) := ⟨_, rfl⟩
            refine lv_iinc (v := x2_5) (lv' := [(2, .int x2_5), (0, .ref ga), (1, .int p0)]) hx hb dX5_findVariable_27 hl (k := 2) rfl (by rw [ex2_5]; rfl) (by decide) rfl (fun ls hl => ?_)
            replace hf := xl_to ex2_5 hf
            refine lv_goto (tgt := 2) hx hb dX5_findVariable_30 (by decide) ?_
            exact ih_2 x2_5 hf _ _ (hP.sub [0, 1, 2, 3, 4, 5] rfl) (hD.sub [0, 1, 2, 3, 4, 5] (by decide) rfl) hS ls (lv_sub hl [1, 2, 0] rfl)
          · replace hf := xi_t c_4 hf
            refine lv_iload_n hx hb dX5_findVariable_25 rfl (lv_at hl 2 rfl) ?_
            have hP9 := hP.sub (ws' := [(ga, .inr (5, [.ref ga1, .ref ga2, .ref ga3, .ref ga4, .ref ga5, .int (v_ga 0 0), .int (v_ga 0 1), .int (v_ga 0 2)])), (ga1, .inl (cI, 10, .inl (v_ga 1))), (ga2, .inl (cI, 10, .inl (v_ga 2))), (ga3, .inl (cI, 10, .inl (v_ga 3))), (ga4, .inl (cI, 10, .inl (v_ga 4))), (ga5, .inl (cI, 5, .inl (v_ga 5)))]) [0, 1, 2, 3, 4, 5] rfl
            have hD9 := hD.sub (ws' := [(ga, .inr (5, [.ref ga1, .ref ga2, .ref ga3, .ref ga4, .ref ga5, .int (v_ga 0 0), .int (v_ga 0 1), .int (v_ga 0 2)])), (ga1, .inl (cI, 10, .inl (v_ga 1))), (ga2, .inl (cI, 10, .inl (v_ga 2))), (ga3, .inl (cI, 10, .inl (v_ga 3))), (ga4, .inl (cI, 10, .inl (v_ga 4))), (ga5, .inl (cI, 5, .inl (v_ga 5)))]) [0, 1, 2, 3, 4, 5] (by decide) rfl
            have r9_0 : x2 = r1 := (Option.some.inj hf)
            exact W.iret (v := x2) hx hb hr (fun t ht hW => ⟨⟨x2, (), rfl, r9_0, by rw [ht]; exact hP9, va_K.moved hW.alike hK, hD9⟩, hS.F ht⟩) hS.2.2 dX5_findVariable_26
  refine lv_iconst (v := 0) hx hb dX5_findVariable_0 (by decide) ?_
  refine lv_istore_n (lv' := [(2, .int ((0 : Int32))), (0, .ref ga), (1, .int p0)]) hx hb dX5_findVariable_1 rfl hl (by decide) rfl (fun ls hl => ?_)
  exact L_2 n9 ((0 : Int32)) hf _ _ (hP.sub [0, 1, 2, 3, 4, 5] rfl) (hD.sub [0, 1, 2, 3, 4, 5] (by decide) rfl) hS ls (lv_sub hl [1, 2, 0] rfl)
def wo_X5_isNewNamey : List Cond := .code yX5_isNewName cX5_isNewName 2 (some .boolean) :: (([.constant RX5 62 (215205), .constant RX5 78 (702772)] : List Cond) ++ ((wsV RX5 79 RX5 yX5_findOperator wo_X5_findOperatory) ++ ((wsV RX5 89 RX5 yX5_findVariable wo_X5_findVariabley))))
set_option maxRecDepth 20000 in
theorem go_wo_X5_isNewNamey_0 : GoodIn wo_X5_isNewNamey (wsV RX5 79 RX5 yX5_findOperator wo_X5_findOperatory) := goodIn_sub (fun _ h => (List.mem_cons_of_mem _ (List.mem_append_right _ (List.mem_append_left _ h)))) (by decide +kernel)
set_option maxRecDepth 20000 in
theorem go_wo_X5_isNewNamey_1 : GoodIn wo_X5_isNewNamey (wsV RX5 89 RX5 yX5_findVariable wo_X5_findVariabley) := goodIn_sub (fun _ h => (List.mem_cons_of_mem _ (List.mem_append_right _ (List.mem_append_right _ h)))) (by decide +kernel)
abbrev ww_X5_isNewNamey (dC : Nat → ClassId) (dI : Nat → Nat → Nat) (cI cJ cB : ClassId) (ga ga1 ga2 ga3 ga4 ga5 : Nat) (sz : Nat) (v_ga : Nat → Nat → Int32) (p0 : Int32) (n9 : Nat) (r1 : Int32) : va_W := [(ga, .inr (5, [.ref ga1, .ref ga2, .ref ga3, .ref ga4, .ref ga5, .int (v_ga 0 0), .int (v_ga 0 1), .int (v_ga 0 2)])), (ga1, .inl (cI, 10, .inl (v_ga 1))), (ga2, .inl (cI, 10, .inl (v_ga 2))), (ga3, .inl (cI, 10, .inl (v_ga 3))), (ga4, .inl (cI, 10, .inl (v_ga 4))), (ga5, .inl (cI, 5, .inl (v_ga 5)))]
abbrev at_X5_isNewNamey (dC : Nat → ClassId) (dI : Nat → Nat → Nat) (cI cJ cB : ClassId) (ga ga1 ga2 ga3 ga4 ga5 : Nat) (sz : Nat) (v_ga : Nat → Nat → Int32) (p0 : Int32) (n9 : Nat) (r1 : Int32) (u : Unit) (t : State) : Prop := match u with
  | () => va_P (dC, dI) vwCl [(ga, .inr (5, [.ref ga1, .ref ga2, .ref ga3, .ref ga4, .ref ga5, .int (v_ga 0 0), .int (v_ga 0 1), .int (v_ga 0 2)])), (ga1, .inl (cI, 10, .inl (v_ga 1))), (ga2, .inl (cI, 10, .inl (v_ga 2))), (ga3, .inl (cI, 10, .inl (v_ga 3))), (ga4, .inl (cI, 10, .inl (v_ga 4))), (ga5, .inl (cI, 5, .inl (v_ga 5)))] t.heap ∧ va_K (dC, dI) vwCl (tyL cI cJ cB) t ∧ va_D (va_A (ww_X5_isNewNamey dC dI cI cJ cB ga ga1 ga2 ga3 ga4 ga5 sz v_ga p0 n9 r1) sz) [(ga, .inr (5, [.ref ga1, .ref ga2, .ref ga3, .ref ga4, .ref ga5, .int (v_ga 0 0), .int (v_ga 0 1), .int (v_ga 0 2)])), (ga1, .inl (cI, 10, .inl (v_ga 1))), (ga2, .inl (cI, 10, .inl (v_ga 2))), (ga3, .inl (cI, 10, .inl (v_ga 3))), (ga4, .inl (cI, 10, .inl (v_ga 4))), (ga5, .inl (cI, 5, .inl (v_ga 5)))]
abbrev qc_X5_isNewNamey (dC : Nat → ClassId) (dI : Nat → Nat → Nat) (cI cJ cB : ClassId) (ga ga1 ga2 ga3 ga4 ga5 : Nat) (sz : Nat) (v_ga : Nat → Nat → Int32) (p0 : Int32) (n9 : Nat) (r1 : Int32) : Array Value → State → Outcome → State → Prop := va_Qi (fun (r : Int32) (u : Unit) => match u with | () => (r = r1)) (at_X5_isNewNamey dC dI cI cJ cB ga ga1 ga2 ga3 ga4 ga5 sz v_ga p0 n9 r1) (va_A (ww_X5_isNewNamey dC dI cI cJ cB ga ga1 ga2 ga3 ga4 ga5 sz v_ga p0 n9 r1) sz)
abbrev pc_X5_isNewNamey (dC : Nat → ClassId) (dI : Nat → Nat → Nat) (cI cJ cB : ClassId) (ga ga1 ga2 ga3 ga4 ga5 : Nat) (sz : Nat) (v_ga : Nat → Nat → Int32) (p0 : Int32) (n9 : Nat) (r1 : Int32) : Array Value → State → Prop := va_Pc [.ref ga, .int p0] (fun U => U.heap.size = sz ∧ NW U ∧ va_P (dC, dI) vwCl (ww_X5_isNewNamey dC dI cI cJ cB ga ga1 ga2 ga3 ga4 ga5 sz v_ga p0 n9 r1) U.heap ∧ va_K (dC, dI) vwCl (tyL cI cJ cB) U ∧ va_D (fun _ => True) (ww_X5_isNewNamey dC dI cI cJ cB ga ga1 ga2 ga3 ga4 ga5 sz v_ga p0 n9 r1))
abbrev rm_X5_isNewNamey : Room := { frames := 1, cells := 0, slots := 0, locals := 22 }
abbrev WW_X5_isNewNamey (p : Program) (l : Launch) (e : Env) (s : State) (m : MethodId) (below : List Frame) (meth : Method) (c : Code) (dC : Nat → ClassId) (dI : Nat → Nat → Nat) (cI cJ cB : ClassId) (ga ga1 ga2 ga3 ga4 ga5 : Nat) (sz : Nat) (v_ga : Nat → Nat → Int32) (p0 : Int32) (n9 : Nat) (r1 : Int32) (H : Heap) (locs : List Loc) (g : JFrame) : Prop := W p l e rm_X5_isNewNamey s m ([.ref ga, .int p0] : List Value).toArray below meth c H locs 0 0 (MQ below (qc_X5_isNewNamey dC dI cI cJ cB ga ga1 ga2 ga3 ga4 ga5 sz v_ga p0 n9 r1) ([.ref ga, .int p0] : List Value).toArray s 0 0 (va_A (ww_X5_isNewNamey dC dI cI cJ cB ga ga1 ga2 ga3 ga4 ga5 sz v_ga p0 n9 r1) sz)) g
set_option maxHeartbeats 4000000 in
set_option maxRecDepth 100000 in
theorem c_X5_isNewNamey (l : Launch) (dC : Nat → ClassId) (dI : Nat → Nat → Nat) (cI cJ cB : ClassId) (ga ga1 ga2 ga3 ga4 ga5 : Nat) (sz : Nat) (v_ga : Nat → Nat → Int32) (p0 : Int32) (n9 : Nat) (r1 : Int32) (hf : fx_X5_isNewName n9 v_ga p0 = some (r1)) : Met l yX5_isNewName wo_X5_isNewNamey rm_X5_isNewNamey (pc_X5_isNewNamey dC dI cI cJ cB ga ga1 ga2 ga3 ga4 ga5 sz v_ga p0 n9 r1) (qc_X5_isNewNamey dC dI cI cJ cB ga ga1 ga2 ga3 ga4 ga5 sz v_ga p0 n9 r1) 0 0 (va_A (ww_X5_isNewNamey dC dI cI cJ cB ga ga1 ga2 ga3 ga4 ga5 sz v_ga p0 n9 r1) sz) := by
  unfold fx_X5_isNewName at hf
  refine Met.ofW (cc := cX5_isNewName) (maxL := 2) (ret := (some .boolean)) (by decide) rfl ?_
  intro p e s m args below meth c s₁ B hml hv
  obtain ⟨rfl, hsz, hnw, hP, hK, hD0⟩ := hv
  have hx := B.exec
  have hb := B.bytes
  have hr := B.returns
  have hts := atoms_spec (ws := wo_X5_isNewNamey) B.pre
  have hown : s.vm.findClass RX5 = some m.cls := findClass_of_methodNamed B.named
  have hlocks := B.notSynchronized
  clear B
  subst hsz
  have hD := hD0.self (sz := s.heap.size)
  clear hD0
  have kk0_ := hts (.constant RX5 62 (215205)) (by decide +kernel)
  have kk1_ := hts (.constant RX5 78 (702772)) (by decide +kernel)
  have hA : ∀ q : Nat, s.heap.size ≤ q → (va_A (ww_X5_isNewNamey dC dI cI cJ cB ga ga1 ga2 ga3 ga4 ga5 s.heap.size v_ga p0 n9 r1) s.heap.size) q := fun q h => Or.inr h
  have hS : va_S (va_A (ww_X5_isNewNamey dC dI cI cJ cB ga ga1 ga2 ga3 ga4 ga5 s.heap.size v_ga p0 n9 r1) s.heap.size) s.heap s.heap [] := va_S.rf
  have hl := lv_entry ([.ref ga, .int p0]) (n := 2) (Nat.le_of_ble_eq_true rfl)
  rw [lg_entry_eq]
  generalize (lg_sl ([.ref ga, .int p0]) ++ List.replicate (2 - (lg_sl ([.ref ga, .int p0])).length) Slot.unset).toArray = ls at hl ⊢
  have hl : lv_has ls 2 [(0, .ref ga), (1, .int p0)] := hl
  have hP : va_P (dC, dI) vwCl [(ga, .inr (5, [.ref ga1, .ref ga2, .ref ga3, .ref ga4, .ref ga5, .int (v_ga 0 0), .int (v_ga 0 1), .int (v_ga 0 2)])), (ga1, .inl (cI, 10, .inl (v_ga 1))), (ga2, .inl (cI, 10, .inl (v_ga 2))), (ga3, .inl (cI, 10, .inl (v_ga 3))), (ga4, .inl (cI, 10, .inl (v_ga 4))), (ga5, .inl (cI, 5, .inl (v_ga 5)))] s.heap := hP
  have hD : va_D (va_A (ww_X5_isNewNamey dC dI cI cJ cB ga ga1 ga2 ga3 ga4 ga5 s.heap.size v_ga p0 n9 r1) s.heap.size) [(ga, .inr (5, [.ref ga1, .ref ga2, .ref ga3, .ref ga4, .ref ga5, .int (v_ga 0 0), .int (v_ga 0 1), .int (v_ga 0 2)])), (ga1, .inl (cI, 10, .inl (v_ga 1))), (ga2, .inl (cI, 10, .inl (v_ga 2))), (ga3, .inl (cI, 10, .inl (v_ga 3))), (ga4, .inl (cI, 10, .inl (v_ga 4))), (ga5, .inl (cI, 5, .inl (v_ga 5)))] := hD
  obtain ⟨H, hH⟩ : ∃ H, H = s.heap := ⟨_, rfl⟩
  obtain ⟨locs, hlc⟩ : ∃ L : List Loc, L = [] := ⟨_, rfl⟩
  have hS : va_S (va_A (ww_X5_isNewNamey dC dI cI cJ cB ga ga1 ga2 ga3 ga4 ga5 s.heap.size v_ga p0 n9 r1) s.heap.size) s.heap H locs := by rw [hH, hlc]; exact hS
  have hP : va_P (dC, dI) vwCl [(ga, .inr (5, [.ref ga1, .ref ga2, .ref ga3, .ref ga4, .ref ga5, .int (v_ga 0 0), .int (v_ga 0 1), .int (v_ga 0 2)])), (ga1, .inl (cI, 10, .inl (v_ga 1))), (ga2, .inl (cI, 10, .inl (v_ga 2))), (ga3, .inl (cI, 10, .inl (v_ga 3))), (ga4, .inl (cI, 10, .inl (v_ga 4))), (ga5, .inl (cI, 5, .inl (v_ga 5)))] H := by rw [hH]; exact hP
  suffices hgo : WW_X5_isNewNamey p l e s m below meth c dC dI cI cJ cB ga ga1 ga2 ga3 ga4 ga5 s.heap.size v_ga p0 n9 r1 H locs (F0 m 0 ls []) by rw [hH, hlc] at hgo; exact hgo
  clear hH hlc
  refine lv_iload_n hx hb dX5_isNewName_0 rfl (lv_at hl 1 rfl) ?_
  refine lv_if_eq (tgt := 54) hx hb dX5_isNewName_1 (by decide) (fun c_1 => ?_) (fun c_1 => ?_)
  · replace hf := xi_t c_1 hf
    refine lv_iconst (v := 0) hx hb dX5_isNewName_54 (by decide) ?_
    have hP9 := hP.sub (ws' := [(ga, .inr (5, [.ref ga1, .ref ga2, .ref ga3, .ref ga4, .ref ga5, .int (v_ga 0 0), .int (v_ga 0 1), .int (v_ga 0 2)])), (ga1, .inl (cI, 10, .inl (v_ga 1))), (ga2, .inl (cI, 10, .inl (v_ga 2))), (ga3, .inl (cI, 10, .inl (v_ga 3))), (ga4, .inl (cI, 10, .inl (v_ga 4))), (ga5, .inl (cI, 5, .inl (v_ga 5)))]) [0, 1, 2, 3, 4, 5] rfl
    have hD9 := hD.sub (ws' := [(ga, .inr (5, [.ref ga1, .ref ga2, .ref ga3, .ref ga4, .ref ga5, .int (v_ga 0 0), .int (v_ga 0 1), .int (v_ga 0 2)])), (ga1, .inl (cI, 10, .inl (v_ga 1))), (ga2, .inl (cI, 10, .inl (v_ga 2))), (ga3, .inl (cI, 10, .inl (v_ga 3))), (ga4, .inl (cI, 10, .inl (v_ga 4))), (ga5, .inl (cI, 5, .inl (v_ga 5)))]) [0, 1, 2, 3, 4, 5] (by decide) rfl
    have r9_0 : (0 : Int32) = r1 := (Option.some.inj hf)
    exact W.zret (v := (0 : Int32)) hx hb hr rfl (fun t ht hW => ⟨⟨(0 : Int32), (), rfl, r9_0, by rw [ht]; exact hP9, va_K.moved hW.alike hK, hD9⟩, hS.F ht⟩) hS.2.2 dX5_isNewName_55
  · replace hf := xi_f c_1 hf
    refine lv_iload_n hx hb dX5_isNewName_4 rfl (lv_at hl 1 rfl) ?_
    refine lv_ldc (v := 215205) hx hb hown kk0_ dX5_isNewName_5 ?_
    refine lv_icmp_eq (tgt := 54) hx hb dX5_isNewName_7 (by decide) (fun c_2 => ?_) (fun c_2 => ?_)
    · replace hf := xi_t c_2 hf
      refine lv_iconst (v := 0) hx hb dX5_isNewName_54 (by decide) ?_
      have hP9 := hP.sub (ws' := [(ga, .inr (5, [.ref ga1, .ref ga2, .ref ga3, .ref ga4, .ref ga5, .int (v_ga 0 0), .int (v_ga 0 1), .int (v_ga 0 2)])), (ga1, .inl (cI, 10, .inl (v_ga 1))), (ga2, .inl (cI, 10, .inl (v_ga 2))), (ga3, .inl (cI, 10, .inl (v_ga 3))), (ga4, .inl (cI, 10, .inl (v_ga 4))), (ga5, .inl (cI, 5, .inl (v_ga 5)))]) [0, 1, 2, 3, 4, 5] rfl
      have hD9 := hD.sub (ws' := [(ga, .inr (5, [.ref ga1, .ref ga2, .ref ga3, .ref ga4, .ref ga5, .int (v_ga 0 0), .int (v_ga 0 1), .int (v_ga 0 2)])), (ga1, .inl (cI, 10, .inl (v_ga 1))), (ga2, .inl (cI, 10, .inl (v_ga 2))), (ga3, .inl (cI, 10, .inl (v_ga 3))), (ga4, .inl (cI, 10, .inl (v_ga 4))), (ga5, .inl (cI, 5, .inl (v_ga 5)))]) [0, 1, 2, 3, 4, 5] (by decide) rfl
      have r9_0 : (0 : Int32) = r1 := (Option.some.inj hf)
      exact W.zret (v := (0 : Int32)) hx hb hr rfl (fun t ht hW => ⟨⟨(0 : Int32), (), rfl, r9_0, by rw [ht]; exact hP9, va_K.moved hW.alike hK, hD9⟩, hS.F ht⟩) hS.2.2 dX5_isNewName_55
    · replace hf := xi_f c_2 hf
      refine lv_iload_n hx hb dX5_isNewName_10 rfl (lv_at hl 1 rfl) ?_
      refine lv_iconst (v := 3) hx hb dX5_isNewName_11 (by decide) ?_
      refine lv_icmp_eq (tgt := 54) hx hb dX5_isNewName_12 (by decide) (fun c_3 => ?_) (fun c_3 => ?_)
      · replace hf := xi_t c_3 hf
        refine lv_iconst (v := 0) hx hb dX5_isNewName_54 (by decide) ?_
        have hP9 := hP.sub (ws' := [(ga, .inr (5, [.ref ga1, .ref ga2, .ref ga3, .ref ga4, .ref ga5, .int (v_ga 0 0), .int (v_ga 0 1), .int (v_ga 0 2)])), (ga1, .inl (cI, 10, .inl (v_ga 1))), (ga2, .inl (cI, 10, .inl (v_ga 2))), (ga3, .inl (cI, 10, .inl (v_ga 3))), (ga4, .inl (cI, 10, .inl (v_ga 4))), (ga5, .inl (cI, 5, .inl (v_ga 5)))]) [0, 1, 2, 3, 4, 5] rfl
        have hD9 := hD.sub (ws' := [(ga, .inr (5, [.ref ga1, .ref ga2, .ref ga3, .ref ga4, .ref ga5, .int (v_ga 0 0), .int (v_ga 0 1), .int (v_ga 0 2)])), (ga1, .inl (cI, 10, .inl (v_ga 1))), (ga2, .inl (cI, 10, .inl (v_ga 2))), (ga3, .inl (cI, 10, .inl (v_ga 3))), (ga4, .inl (cI, 10, .inl (v_ga 4))), (ga5, .inl (cI, 5, .inl (v_ga 5)))]) [0, 1, 2, 3, 4, 5] (by decide) rfl
        have r9_0 : (0 : Int32) = r1 := (Option.some.inj hf)
        exact W.zret (v := (0 : Int32)) hx hb hr rfl (fun t ht hW => ⟨⟨(0 : Int32), (), rfl, r9_0, by rw [ht]; exact hP9, va_K.moved hW.alike hK, hD9⟩, hS.F ht⟩) hS.2.2 dX5_isNewName_55
      · replace hf := xi_f c_3 hf
        refine lv_iload_n hx hb dX5_isNewName_15 rfl (lv_at hl 1 rfl) ?_
        refine lv_bipush (v := 35) hx hb dX5_isNewName_16 (by decide) ?_
        refine lv_icmp_eq (tgt := 54) hx hb dX5_isNewName_18 (by decide) (fun c_4 => ?_) (fun c_4 => ?_)
        · replace hf := xi_t c_4 hf
          refine lv_iconst (v := 0) hx hb dX5_isNewName_54 (by decide) ?_
          have hP9 := hP.sub (ws' := [(ga, .inr (5, [.ref ga1, .ref ga2, .ref ga3, .ref ga4, .ref ga5, .int (v_ga 0 0), .int (v_ga 0 1), .int (v_ga 0 2)])), (ga1, .inl (cI, 10, .inl (v_ga 1))), (ga2, .inl (cI, 10, .inl (v_ga 2))), (ga3, .inl (cI, 10, .inl (v_ga 3))), (ga4, .inl (cI, 10, .inl (v_ga 4))), (ga5, .inl (cI, 5, .inl (v_ga 5)))]) [0, 1, 2, 3, 4, 5] rfl
          have hD9 := hD.sub (ws' := [(ga, .inr (5, [.ref ga1, .ref ga2, .ref ga3, .ref ga4, .ref ga5, .int (v_ga 0 0), .int (v_ga 0 1), .int (v_ga 0 2)])), (ga1, .inl (cI, 10, .inl (v_ga 1))), (ga2, .inl (cI, 10, .inl (v_ga 2))), (ga3, .inl (cI, 10, .inl (v_ga 3))), (ga4, .inl (cI, 10, .inl (v_ga 4))), (ga5, .inl (cI, 5, .inl (v_ga 5)))]) [0, 1, 2, 3, 4, 5] (by decide) rfl
          have r9_0 : (0 : Int32) = r1 := (Option.some.inj hf)
          exact W.zret (v := (0 : Int32)) hx hb hr rfl (fun t ht hW => ⟨⟨(0 : Int32), (), rfl, r9_0, by rw [ht]; exact hP9, va_K.moved hW.alike hK, hD9⟩, hS.F ht⟩) hS.2.2 dX5_isNewName_55
        · replace hf := xi_f c_4 hf
          refine lv_iload_n hx hb dX5_isNewName_21 rfl (lv_at hl 1 rfl) ?_
          refine lv_ldc (v := 702772) hx hb hown kk1_ dX5_isNewName_22 ?_
          refine lv_icmp_eq (tgt := 54) hx hb dX5_isNewName_24 (by decide) (fun c_5 => ?_) (fun c_5 => ?_)
          · replace hf := xi_t c_5 hf
            refine lv_iconst (v := 0) hx hb dX5_isNewName_54 (by decide) ?_
            have hP9 := hP.sub (ws' := [(ga, .inr (5, [.ref ga1, .ref ga2, .ref ga3, .ref ga4, .ref ga5, .int (v_ga 0 0), .int (v_ga 0 1), .int (v_ga 0 2)])), (ga1, .inl (cI, 10, .inl (v_ga 1))), (ga2, .inl (cI, 10, .inl (v_ga 2))), (ga3, .inl (cI, 10, .inl (v_ga 3))), (ga4, .inl (cI, 10, .inl (v_ga 4))), (ga5, .inl (cI, 5, .inl (v_ga 5)))]) [0, 1, 2, 3, 4, 5] rfl
            have hD9 := hD.sub (ws' := [(ga, .inr (5, [.ref ga1, .ref ga2, .ref ga3, .ref ga4, .ref ga5, .int (v_ga 0 0), .int (v_ga 0 1), .int (v_ga 0 2)])), (ga1, .inl (cI, 10, .inl (v_ga 1))), (ga2, .inl (cI, 10, .inl (v_ga 2))), (ga3, .inl (cI, 10, .inl (v_ga 3))), (ga4, .inl (cI, 10, .inl (v_ga 4))), (ga5, .inl (cI, 5, .inl (v_ga 5)))]) [0, 1, 2, 3, 4, 5] (by decide) rfl
            have r9_0 : (0 : Int32) = r1 := (Option.some.inj hf)
            exact W.zret (v := (0 : Int32)) hx hb hr rfl (fun t ht hW => ⟨⟨(0 : Int32), (), rfl, r9_0, by rw [ht]; exact hP9, va_K.moved hW.alike hK, hD9⟩, hS.F ht⟩) hS.2.2 dX5_isNewName_55
          · replace hf := xi_f c_5 hf
            refine lv_iload_n hx hb dX5_isNewName_27 rfl (lv_at hl 1 rfl) ?_
            refine lv_sipush (v := 22578) hx hb dX5_isNewName_28 (by decide) ?_
            refine lv_icmp_eq (tgt := 54) hx hb dX5_isNewName_31 (by decide) (fun c_6 => ?_) (fun c_6 => ?_)
            · replace hf := xi_t c_6 hf
              refine lv_iconst (v := 0) hx hb dX5_isNewName_54 (by decide) ?_
              have hP9 := hP.sub (ws' := [(ga, .inr (5, [.ref ga1, .ref ga2, .ref ga3, .ref ga4, .ref ga5, .int (v_ga 0 0), .int (v_ga 0 1), .int (v_ga 0 2)])), (ga1, .inl (cI, 10, .inl (v_ga 1))), (ga2, .inl (cI, 10, .inl (v_ga 2))), (ga3, .inl (cI, 10, .inl (v_ga 3))), (ga4, .inl (cI, 10, .inl (v_ga 4))), (ga5, .inl (cI, 5, .inl (v_ga 5)))]) [0, 1, 2, 3, 4, 5] rfl
              have hD9 := hD.sub (ws' := [(ga, .inr (5, [.ref ga1, .ref ga2, .ref ga3, .ref ga4, .ref ga5, .int (v_ga 0 0), .int (v_ga 0 1), .int (v_ga 0 2)])), (ga1, .inl (cI, 10, .inl (v_ga 1))), (ga2, .inl (cI, 10, .inl (v_ga 2))), (ga3, .inl (cI, 10, .inl (v_ga 3))), (ga4, .inl (cI, 10, .inl (v_ga 4))), (ga5, .inl (cI, 5, .inl (v_ga 5)))]) [0, 1, 2, 3, 4, 5] (by decide) rfl
              have r9_0 : (0 : Int32) = r1 := (Option.some.inj hf)
              exact W.zret (v := (0 : Int32)) hx hb hr rfl (fun t ht hW => ⟨⟨(0 : Int32), (), rfl, r9_0, by rw [ht]; exact hP9, va_K.moved hW.alike hK, hD9⟩, hS.F ht⟩) hS.2.2 dX5_isNewName_55
            · replace hf := xi_f c_6 hf
              refine lv_aload_n hx hb dX5_isNewName_34 rfl (lv_at hl 0 rfl) ?_
              refine lv_iload_n hx hb dX5_isNewName_35 rfl (lv_at hl 1 rfl) ?_
              replace hf := xb1_to hf
              obtain ⟨o_7, g_8, hf⟩ := hf
              have hPc := hP.sub (ws' := [(ga, .inr (5, [.ref ga1, .ref ga2, .ref ga3, .ref ga4, .ref ga5, .int (v_ga 0 0), .int (v_ga 0 1), .int (v_ga 0 2)])), (ga1, .inl (cI, 10, .inl (v_ga 1))), (ga2, .inl (cI, 10, .inl (v_ga 2))), (ga3, .inl (cI, 10, .inl (v_ga 3))), (ga4, .inl (cI, 10, .inl (v_ga 4))), (ga5, .inl (cI, 5, .inl (v_ga 5)))]) [0, 1, 2, 3, 4, 5] rfl
              have hDc := hD.sub (ws' := [(ga, .inr (5, [.ref ga1, .ref ga2, .ref ga3, .ref ga4, .ref ga5, .int (v_ga 0 0), .int (v_ga 0 1), .int (v_ga 0 2)])), (ga1, .inl (cI, 10, .inl (v_ga 1))), (ga2, .inl (cI, 10, .inl (v_ga 2))), (ga3, .inl (cI, 10, .inl (v_ga 3))), (ga4, .inl (cI, 10, .inl (v_ga 4))), (ga5, .inl (cI, 5, .inl (v_ga 5)))]) [0, 1, 2, 3, 4, 5] (by decide) rfl
              have hFc := va_free (wc := [(ga, .inr (5, [.ref ga1, .ref ga2, .ref ga3, .ref ga4, .ref ga5, .int (v_ga 0 0), .int (v_ga 0 1), .int (v_ga 0 2)])), (ga1, .inl (cI, 10, .inl (v_ga 1))), (ga2, .inl (cI, 10, .inl (v_ga 2))), (ga3, .inl (cI, 10, .inl (v_ga 3))), (ga4, .inl (cI, 10, .inl (v_ga 4))), (ga5, .inl (cI, 5, .inl (v_ga 5)))]) hD hS hA [0, 1, 2, 3, 4, 5] rfl
              refine va_calli (va_runV (As := [.int p0]) (rest := []) ⟨hx, hb, hml, hown, hts⟩ (c_X5_findOperatory l dC dI cI cJ cB ga ga1 ga2 ga3 ga4 ga5 H.size v_ga p0 n9 o_7 g_8) (cwV 1 hts go_wo_X5_isNewNamey_0 rfl rfl rfl (by decide +kernel) ⟨Nat.le_of_ble_eq_true rfl, Nat.le_of_ble_eq_true rfl⟩) ⟨fun a U g mk q => by obtain ⟨q0, q1, qN, qP, qK, qD⟩ := q; exact ⟨q0, q1, NW.calling qN, qP, va_K.moved (u := U) (U := U.calling g mk a) (Vm.Alike.refl U.vm) qK, qD⟩, va_recv hK hPc (ci := 5) (q0 := 0) rfl rfl, fun U hU hW => ⟨rfl, by rw [hU], NW.warm hW hnw, by rw [hU]; exact hPc, va_K.moved hW.alike hK, hDc.weaken (fun _ _ _ _ => trivial)⟩⟩ rfl rfl hl.1 rfl (lv_room (Nat.le_of_ble_eq_true rfl)) dX5_isNewName_36 ⟨Nat.zero_le _, Nat.zero_le _⟩) hS (fun q _ h => hFc q h) hFc (fun r_9 u t H1 locs ht hvm hw hB hz1 hk1 hS => ?_)
              cases u
              obtain ⟨hP1, hK1, hD1⟩ := hB
              rw [ht] at hP1
              have hw : (r_9 = o_7) := hw
              subst hw
              obtain ⟨hP, hD⟩ := va_join (wr := []) (w1 := [(ga, .inr (5, [.ref ga1, .ref ga2, .ref ga3, .ref ga4, .ref ga5, .int (v_ga 0 0), .int (v_ga 0 1), .int (v_ga 0 2)])), (ga1, .inl (cI, 10, .inl (v_ga 1))), (ga2, .inl (cI, 10, .inl (v_ga 2))), (ga3, .inl (cI, 10, .inl (v_ga 3))), (ga4, .inl (cI, 10, .inl (v_ga 4))), (ga5, .inl (cI, 5, .inl (v_ga 5)))]) hP hD [0, 1, 2, 3, 4, 5] [] rfl rfl (by decide) (by decide) hk1 hFc hP1 hD1
              generalize H1 = H at hP hS ⊢
              have hP : va_P (dC, dI) vwCl [(ga, .inr (5, [.ref ga1, .ref ga2, .ref ga3, .ref ga4, .ref ga5, .int (v_ga 0 0), .int (v_ga 0 1), .int (v_ga 0 2)])), (ga1, .inl (cI, 10, .inl (v_ga 1))), (ga2, .inl (cI, 10, .inl (v_ga 2))), (ga3, .inl (cI, 10, .inl (v_ga 3))), (ga4, .inl (cI, 10, .inl (v_ga 4))), (ga5, .inl (cI, 5, .inl (v_ga 5)))] H := hP
              have hD : va_D (va_A (ww_X5_isNewNamey dC dI cI cJ cB ga ga1 ga2 ga3 ga4 ga5 s.heap.size v_ga p0 n9 r1) s.heap.size) [(ga, .inr (5, [.ref ga1, .ref ga2, .ref ga3, .ref ga4, .ref ga5, .int (v_ga 0 0), .int (v_ga 0 1), .int (v_ga 0 2)])), (ga1, .inl (cI, 10, .inl (v_ga 1))), (ga2, .inl (cI, 10, .inl (v_ga 2))), (ga3, .inl (cI, 10, .inl (v_ga 3))), (ga4, .inl (cI, 10, .inl (v_ga 4))), (ga5, .inl (cI, 5, .inl (v_ga 5)))] := hD
              clear hPc hDc hFc hP1 hK1 hD1 hk1 hz1 ht hvm g_8
              refine lv_if_ge (tgt := 54) hx hb dX5_isNewName_39 (by decide) (fun c_11 => ?_) (fun c_11 => ?_)
              · replace hf := xi_t c_11 hf
                refine lv_iconst (v := 0) hx hb dX5_isNewName_54 (by decide) ?_
                have hP9 := hP.sub (ws' := [(ga, .inr (5, [.ref ga1, .ref ga2, .ref ga3, .ref ga4, .ref ga5, .int (v_ga 0 0), .int (v_ga 0 1), .int (v_ga 0 2)])), (ga1, .inl (cI, 10, .inl (v_ga 1))), (ga2, .inl (cI, 10, .inl (v_ga 2))), (ga3, .inl (cI, 10, .inl (v_ga 3))), (ga4, .inl (cI, 10, .inl (v_ga 4))), (ga5, .inl (cI, 5, .inl (v_ga 5)))]) [0, 1, 2, 3, 4, 5] rfl
                have hD9 := hD.sub (ws' := [(ga, .inr (5, [.ref ga1, .ref ga2, .ref ga3, .ref ga4, .ref ga5, .int (v_ga 0 0), .int (v_ga 0 1), .int (v_ga 0 2)])), (ga1, .inl (cI, 10, .inl (v_ga 1))), (ga2, .inl (cI, 10, .inl (v_ga 2))), (ga3, .inl (cI, 10, .inl (v_ga 3))), (ga4, .inl (cI, 10, .inl (v_ga 4))), (ga5, .inl (cI, 5, .inl (v_ga 5)))]) [0, 1, 2, 3, 4, 5] (by decide) rfl
                have r9_0 : (0 : Int32) = r1 := (Option.some.inj hf)
                exact W.zret (v := (0 : Int32)) hx hb hr rfl (fun t ht hW => ⟨⟨(0 : Int32), (), rfl, r9_0, by rw [ht]; exact hP9, va_K.moved hW.alike hK, hD9⟩, hS.F ht⟩) hS.2.2 dX5_isNewName_55
              · replace hf := xi_f c_11 hf
                refine lv_aload_n hx hb dX5_isNewName_42 rfl (lv_at hl 0 rfl) ?_
                refine lv_iload_n hx hb dX5_isNewName_43 rfl (lv_at hl 1 rfl) ?_
                replace hf := xb1_to hf
                obtain ⟨o_12, g_13, hf⟩ := hf
                have hPc := hP.sub (ws' := [(ga, .inr (5, [.ref ga1, .ref ga2, .ref ga3, .ref ga4, .ref ga5, .int (v_ga 0 0), .int (v_ga 0 1), .int (v_ga 0 2)])), (ga1, .inl (cI, 10, .inl (v_ga 1))), (ga2, .inl (cI, 10, .inl (v_ga 2))), (ga3, .inl (cI, 10, .inl (v_ga 3))), (ga4, .inl (cI, 10, .inl (v_ga 4))), (ga5, .inl (cI, 5, .inl (v_ga 5)))]) [0, 1, 2, 3, 4, 5] rfl
                have hDc := hD.sub (ws' := [(ga, .inr (5, [.ref ga1, .ref ga2, .ref ga3, .ref ga4, .ref ga5, .int (v_ga 0 0), .int (v_ga 0 1), .int (v_ga 0 2)])), (ga1, .inl (cI, 10, .inl (v_ga 1))), (ga2, .inl (cI, 10, .inl (v_ga 2))), (ga3, .inl (cI, 10, .inl (v_ga 3))), (ga4, .inl (cI, 10, .inl (v_ga 4))), (ga5, .inl (cI, 5, .inl (v_ga 5)))]) [0, 1, 2, 3, 4, 5] (by decide) rfl
                have hFc := va_free (wc := [(ga, .inr (5, [.ref ga1, .ref ga2, .ref ga3, .ref ga4, .ref ga5, .int (v_ga 0 0), .int (v_ga 0 1), .int (v_ga 0 2)])), (ga1, .inl (cI, 10, .inl (v_ga 1))), (ga2, .inl (cI, 10, .inl (v_ga 2))), (ga3, .inl (cI, 10, .inl (v_ga 3))), (ga4, .inl (cI, 10, .inl (v_ga 4))), (ga5, .inl (cI, 5, .inl (v_ga 5)))]) hD hS hA [0, 1, 2, 3, 4, 5] rfl
                refine va_calli (va_runV (As := [.int p0]) (rest := []) ⟨hx, hb, hml, hown, hts⟩ (c_X5_findVariabley l dC dI cI cJ cB ga ga1 ga2 ga3 ga4 ga5 H.size v_ga p0 n9 o_12 g_13) (cwV 1 hts go_wo_X5_isNewNamey_1 rfl rfl rfl (by decide +kernel) ⟨Nat.le_of_ble_eq_true rfl, Nat.le_of_ble_eq_true rfl⟩) ⟨fun a U g mk q => by obtain ⟨q0, q1, qN, qP, qK, qD⟩ := q; exact ⟨q0, q1, NW.calling qN, qP, va_K.moved (u := U) (U := U.calling g mk a) (Vm.Alike.refl U.vm) qK, qD⟩, va_recv hK hPc (ci := 5) (q0 := 0) rfl rfl, fun U hU hW => ⟨rfl, by rw [hU], NW.warm hW hnw, by rw [hU]; exact hPc, va_K.moved hW.alike hK, hDc.weaken (fun _ _ _ _ => trivial)⟩⟩ rfl rfl hl.1 rfl (lv_room (Nat.le_of_ble_eq_true rfl)) dX5_isNewName_44 ⟨Nat.zero_le _, Nat.zero_le _⟩) hS (fun q _ h => hFc q h) hFc (fun r_14 u t H1 locs ht hvm hw hB hz1 hk1 hS => ?_)
                cases u
                obtain ⟨hP1, hK1, hD1⟩ := hB
                rw [ht] at hP1
                have hw : (r_14 = o_12) := hw
                subst hw
                obtain ⟨hP, hD⟩ := va_join (wr := []) (w1 := [(ga, .inr (5, [.ref ga1, .ref ga2, .ref ga3, .ref ga4, .ref ga5, .int (v_ga 0 0), .int (v_ga 0 1), .int (v_ga 0 2)])), (ga1, .inl (cI, 10, .inl (v_ga 1))), (ga2, .inl (cI, 10, .inl (v_ga 2))), (ga3, .inl (cI, 10, .inl (v_ga 3))), (ga4, .inl (cI, 10, .inl (v_ga 4))), (ga5, .inl (cI, 5, .inl (v_ga 5)))]) hP hD [0, 1, 2, 3, 4, 5] [] rfl rfl (by decide) (by decide) hk1 hFc hP1 hD1
                generalize H1 = H at hP hS ⊢
                have hP : va_P (dC, dI) vwCl [(ga, .inr (5, [.ref ga1, .ref ga2, .ref ga3, .ref ga4, .ref ga5, .int (v_ga 0 0), .int (v_ga 0 1), .int (v_ga 0 2)])), (ga1, .inl (cI, 10, .inl (v_ga 1))), (ga2, .inl (cI, 10, .inl (v_ga 2))), (ga3, .inl (cI, 10, .inl (v_ga 3))), (ga4, .inl (cI, 10, .inl (v_ga 4))), (ga5, .inl (cI, 5, .inl (v_ga 5)))] H := hP
                have hD : va_D (va_A (ww_X5_isNewNamey dC dI cI cJ cB ga ga1 ga2 ga3 ga4 ga5 s.heap.size v_ga p0 n9 r1) s.heap.size) [(ga, .inr (5, [.ref ga1, .ref ga2, .ref ga3, .ref ga4, .ref ga5, .int (v_ga 0 0), .int (v_ga 0 1), .int (v_ga 0 2)])), (ga1, .inl (cI, 10, .inl (v_ga 1))), (ga2, .inl (cI, 10, .inl (v_ga 2))), (ga3, .inl (cI, 10, .inl (v_ga 3))), (ga4, .inl (cI, 10, .inl (v_ga 4))), (ga5, .inl (cI, 5, .inl (v_ga 5)))] := hD
                clear hPc hDc hFc hP1 hK1 hD1 hk1 hz1 ht hvm g_13
                refine lv_if_ge (tgt := 54) hx hb dX5_isNewName_47 (by decide) (fun c_16 => ?_) (fun c_16 => ?_)
                · replace hf := xi_t c_16 hf
                  refine lv_iconst (v := 0) hx hb dX5_isNewName_54 (by decide) ?_
                  have hP9 := hP.sub (ws' := [(ga, .inr (5, [.ref ga1, .ref ga2, .ref ga3, .ref ga4, .ref ga5, .int (v_ga 0 0), .int (v_ga 0 1), .int (v_ga 0 2)])), (ga1, .inl (cI, 10, .inl (v_ga 1))), (ga2, .inl (cI, 10, .inl (v_ga 2))), (ga3, .inl (cI, 10, .inl (v_ga 3))), (ga4, .inl (cI, 10, .inl (v_ga 4))), (ga5, .inl (cI, 5, .inl (v_ga 5)))]) [0, 1, 2, 3, 4, 5] rfl
                  have hD9 := hD.sub (ws' := [(ga, .inr (5, [.ref ga1, .ref ga2, .ref ga3, .ref ga4, .ref ga5, .int (v_ga 0 0), .int (v_ga 0 1), .int (v_ga 0 2)])), (ga1, .inl (cI, 10, .inl (v_ga 1))), (ga2, .inl (cI, 10, .inl (v_ga 2))), (ga3, .inl (cI, 10, .inl (v_ga 3))), (ga4, .inl (cI, 10, .inl (v_ga 4))), (ga5, .inl (cI, 5, .inl (v_ga 5)))]) [0, 1, 2, 3, 4, 5] (by decide) rfl
                  have r9_0 : (0 : Int32) = r1 := (Option.some.inj hf)
                  exact W.zret (v := (0 : Int32)) hx hb hr rfl (fun t ht hW => ⟨⟨(0 : Int32), (), rfl, r9_0, by rw [ht]; exact hP9, va_K.moved hW.alike hK, hD9⟩, hS.F ht⟩) hS.2.2 dX5_isNewName_55
                · replace hf := xi_f c_16 hf
                  refine lv_iconst (v := 1) hx hb dX5_isNewName_50 (by decide) ?_
                  refine lv_goto (tgt := 55) hx hb dX5_isNewName_51 (by decide) ?_
                  have hP9 := hP.sub (ws' := [(ga, .inr (5, [.ref ga1, .ref ga2, .ref ga3, .ref ga4, .ref ga5, .int (v_ga 0 0), .int (v_ga 0 1), .int (v_ga 0 2)])), (ga1, .inl (cI, 10, .inl (v_ga 1))), (ga2, .inl (cI, 10, .inl (v_ga 2))), (ga3, .inl (cI, 10, .inl (v_ga 3))), (ga4, .inl (cI, 10, .inl (v_ga 4))), (ga5, .inl (cI, 5, .inl (v_ga 5)))]) [0, 1, 2, 3, 4, 5] rfl
                  have hD9 := hD.sub (ws' := [(ga, .inr (5, [.ref ga1, .ref ga2, .ref ga3, .ref ga4, .ref ga5, .int (v_ga 0 0), .int (v_ga 0 1), .int (v_ga 0 2)])), (ga1, .inl (cI, 10, .inl (v_ga 1))), (ga2, .inl (cI, 10, .inl (v_ga 2))), (ga3, .inl (cI, 10, .inl (v_ga 3))), (ga4, .inl (cI, 10, .inl (v_ga 4))), (ga5, .inl (cI, 5, .inl (v_ga 5)))]) [0, 1, 2, 3, 4, 5] (by decide) rfl
                  have r9_0 : (1 : Int32) = r1 := (Option.some.inj hf)
                  exact W.zret (v := (1 : Int32)) hx hb hr rfl (fun t ht hW => ⟨⟨(1 : Int32), (), rfl, r9_0, by rw [ht]; exact hP9, va_K.moved hW.alike hK, hD9⟩, hS.F ht⟩) hS.2.2 dX5_isNewName_55
