def wo_X3_isBlank : List Cond := .code yX3_isBlank cX3_isBlank 1 (some .boolean) :: (([] : List Cond))
abbrev ww_X3_isBlank (dC : Nat → ClassId) (dI : Nat → Nat → Nat) (cI cJ cB : ClassId) (sz : Nat) (p0 : Int32) : va_W := []
abbrev at_X3_isBlank (dC : Nat → ClassId) (dI : Nat → Nat → Nat) (cI cJ cB : ClassId) (sz : Nat) (p0 : Int32) (u : Unit) (t : State) : Prop := match u with
  | () => va_P (dC, dI) vwCl [] t.heap ∧ va_K (dC, dI) vwCl (tyL cI cJ cB) t ∧ va_D (va_A (ww_X3_isBlank dC dI cI cJ cB  sz p0) sz) []
abbrev qc_X3_isBlank (dC : Nat → ClassId) (dI : Nat → Nat → Nat) (cI cJ cB : ClassId) (sz : Nat) (p0 : Int32) : Array Value → State → Outcome → State → Prop := va_Qi (fun (r : Int32) (u : Unit) => match u with | () => (r = 0 ∨ r = 1)) (at_X3_isBlank dC dI cI cJ cB  sz p0) (va_A (ww_X3_isBlank dC dI cI cJ cB  sz p0) sz)
abbrev pc_X3_isBlank (dC : Nat → ClassId) (dI : Nat → Nat → Nat) (cI cJ cB : ClassId) (sz : Nat) (p0 : Int32) : Array Value → State → Prop := va_Pc [.int p0] (fun U => U.heap.size = sz ∧ NW U ∧ va_P (dC, dI) vwCl (ww_X3_isBlank dC dI cI cJ cB  sz p0) U.heap ∧ va_K (dC, dI) vwCl (tyL cI cJ cB) U ∧ va_D (fun _ => True) (ww_X3_isBlank dC dI cI cJ cB  sz p0))
abbrev rm_X3_isBlank : Room := { frames := 0, cells := 0, slots := 0, locals := 0 }
abbrev WW_X3_isBlank (p : Program) (l : Launch) (e : Env) (s : State) (m : MethodId) (below : List Frame) (meth : Method) (c : Code) (dC : Nat → ClassId) (dI : Nat → Nat → Nat) (cI cJ cB : ClassId) (sz : Nat) (p0 : Int32) (H : Heap) (locs : List Loc) (g : JFrame) : Prop := W p l e rm_X3_isBlank s m ([.int p0] : List Value).toArray below meth c H locs 0 0 (MQ below (qc_X3_isBlank dC dI cI cJ cB  sz p0) ([.int p0] : List Value).toArray s 0 0 (va_A (ww_X3_isBlank dC dI cI cJ cB  sz p0) sz)) g
set_option maxHeartbeats 4000000 in
set_option maxRecDepth 100000 in
theorem c_X3_isBlank (l : Launch) (dC : Nat → ClassId) (dI : Nat → Nat → Nat) (cI cJ cB : ClassId) (sz : Nat) (p0 : Int32) : Met l yX3_isBlank wo_X3_isBlank rm_X3_isBlank (pc_X3_isBlank dC dI cI cJ cB  sz p0) (qc_X3_isBlank dC dI cI cJ cB  sz p0) 0 0 (va_A (ww_X3_isBlank dC dI cI cJ cB  sz p0) sz) := by
  refine Met.ofW (cc := cX3_isBlank) (maxL := 1) (ret := (some .boolean)) (by decide) rfl ?_
  intro p e s m args below meth c s₁ B hml hv
  obtain ⟨rfl, hsz, hnw, hP, hK, hD0⟩ := hv
  have hx := B.exec
  have hb := B.bytes
  have hr := B.returns
  have hts := atoms_spec (ws := wo_X3_isBlank) B.pre
  have hown : s.vm.findClass RX3 = some m.cls := findClass_of_methodNamed B.named
  have hlocks := B.notSynchronized
  clear B
  subst hsz
  have hD := hD0.self (sz := s.heap.size)
  clear hD0
  have hA : ∀ q : Nat, s.heap.size ≤ q → (va_A (ww_X3_isBlank dC dI cI cJ cB  s.heap.size p0) s.heap.size) q := fun q h => Or.inr h
  have hS : va_S (va_A (ww_X3_isBlank dC dI cI cJ cB  s.heap.size p0) s.heap.size) s.heap s.heap [] := va_S.rf
  have hl := lv_entry ([.int p0]) (n := 1) (Nat.le_of_ble_eq_true rfl)
  rw [lg_entry_eq]
  generalize (lg_sl ([.int p0]) ++ List.replicate (1 - (lg_sl ([.int p0])).length) Slot.unset).toArray = ls at hl ⊢
  have hl : lv_has ls 1 [(0, .int p0)] := hl
  have hP : va_P (dC, dI) vwCl [] s.heap := hP
  have hD : va_D (va_A (ww_X3_isBlank dC dI cI cJ cB  s.heap.size p0) s.heap.size) [] := hD
  obtain ⟨H, hH⟩ : ∃ H, H = s.heap := ⟨_, rfl⟩
  obtain ⟨locs, hlc⟩ : ∃ L : List Loc, L = [] := ⟨_, rfl⟩
  have hS : va_S (va_A (ww_X3_isBlank dC dI cI cJ cB  s.heap.size p0) s.heap.size) s.heap H locs := by rw [hH, hlc]; exact hS
  have hP : va_P (dC, dI) vwCl [] H := by rw [hH]; exact hP
  suffices hgo : WW_X3_isBlank p l e s m below meth c dC dI cI cJ cB  s.heap.size p0 H locs (F0 m 0 ls []) by rw [hH, hlc] at hgo; exact hgo
  clear hH hlc
  refine lv_iload_n hx hb dX3_isBlank_0 rfl (lv_at hl 0 rfl) ?_
  refine lv_bipush (v := 9) hx hb dX3_isBlank_1 (by decide) ?_
  refine lv_icmp_eq (tgt := 18) hx hb dX3_isBlank_3 (by decide) (fun c_1 => ?_) (fun c_1 => ?_)
  · have tc_1 : p0.toInt = 9 := tb_eq_t c_1
    refine lv_iconst (v := 1) hx hb dX3_isBlank_18 (by decide) ?_
    refine lv_goto (tgt := 23) hx hb dX3_isBlank_19 (by decide) ?_
    have hP9 := hP.sub (ws' := []) [] rfl
    have hD9 := hD.sub (ws' := []) [] (by decide) rfl
    have r9_0 : (1 : Int32) = 0 ∨ (1 : Int32) = 1 := Or.inr rfl
    exact W.zret (v := (1 : Int32)) hx hb hr rfl (fun t ht hW => ⟨⟨(1 : Int32), (), rfl, r9_0, by rw [ht]; exact hP9, va_K.moved hW.alike hK, hD9⟩, hS.F ht⟩) hS.2.2 dX3_isBlank_23
  · have tc_1 : ¬ (p0.toInt = 9) := tb_eq_f c_1
    refine lv_iload_n hx hb dX3_isBlank_6 rfl (lv_at hl 0 rfl) ?_
    refine lv_bipush (v := 10) hx hb dX3_isBlank_7 (by decide) ?_
    refine lv_icmp_eq (tgt := 18) hx hb dX3_isBlank_9 (by decide) (fun c_2 => ?_) (fun c_2 => ?_)
    · have tc_2 : p0.toInt = 10 := tb_eq_t c_2
      refine lv_iconst (v := 1) hx hb dX3_isBlank_18 (by decide) ?_
      refine lv_goto (tgt := 23) hx hb dX3_isBlank_19 (by decide) ?_
      have hP9 := hP.sub (ws' := []) [] rfl
      have hD9 := hD.sub (ws' := []) [] (by decide) rfl
      have r9_0 : (1 : Int32) = 0 ∨ (1 : Int32) = 1 := Or.inr rfl
      exact W.zret (v := (1 : Int32)) hx hb hr rfl (fun t ht hW => ⟨⟨(1 : Int32), (), rfl, r9_0, by rw [ht]; exact hP9, va_K.moved hW.alike hK, hD9⟩, hS.F ht⟩) hS.2.2 dX3_isBlank_23
    · have tc_2 : ¬ (p0.toInt = 10) := tb_eq_f c_2
      refine lv_iload_n hx hb dX3_isBlank_12 rfl (lv_at hl 0 rfl) ?_
      refine lv_bipush (v := 32) hx hb dX3_isBlank_13 (by decide) ?_
      refine lv_icmp_ne (tgt := 22) hx hb dX3_isBlank_15 (by decide) (fun c_3 => ?_) (fun c_3 => ?_)
      · have tc_3 : ¬ (p0.toInt = 32) := tb_ne_t c_3
        refine lv_iconst (v := 0) hx hb dX3_isBlank_22 (by decide) ?_
        have hP9 := hP.sub (ws' := []) [] rfl
        have hD9 := hD.sub (ws' := []) [] (by decide) rfl
        have r9_0 : (0 : Int32) = 0 ∨ (0 : Int32) = 1 := Or.inl rfl
        exact W.zret (v := (0 : Int32)) hx hb hr rfl (fun t ht hW => ⟨⟨(0 : Int32), (), rfl, r9_0, by rw [ht]; exact hP9, va_K.moved hW.alike hK, hD9⟩, hS.F ht⟩) hS.2.2 dX3_isBlank_23
      · have tc_3 : p0.toInt = 32 := tb_ne_f c_3
        refine lv_iconst (v := 1) hx hb dX3_isBlank_18 (by decide) ?_
        refine lv_goto (tgt := 23) hx hb dX3_isBlank_19 (by decide) ?_
        have hP9 := hP.sub (ws' := []) [] rfl
        have hD9 := hD.sub (ws' := []) [] (by decide) rfl
        have r9_0 : (1 : Int32) = 0 ∨ (1 : Int32) = 1 := Or.inr rfl
        exact W.zret (v := (1 : Int32)) hx hb hr rfl (fun t ht hW => ⟨⟨(1 : Int32), (), rfl, r9_0, by rw [ht]; exact hP9, va_K.moved hW.alike hK, hD9⟩, hS.F ht⟩) hS.2.2 dX3_isBlank_23
def wo_X3_isLetter : List Cond := .code yX3_isLetter cX3_isLetter 1 (some .boolean) :: (([] : List Cond))
abbrev ww_X3_isLetter (dC : Nat → ClassId) (dI : Nat → Nat → Nat) (cI cJ cB : ClassId) (sz : Nat) (p0 : Int32) : va_W := []
abbrev at_X3_isLetter (dC : Nat → ClassId) (dI : Nat → Nat → Nat) (cI cJ cB : ClassId) (sz : Nat) (p0 : Int32) (u : Unit) (t : State) : Prop := match u with
  | () => va_P (dC, dI) vwCl [] t.heap ∧ va_K (dC, dI) vwCl (tyL cI cJ cB) t ∧ va_D (va_A (ww_X3_isLetter dC dI cI cJ cB  sz p0) sz) []
abbrev qc_X3_isLetter (dC : Nat → ClassId) (dI : Nat → Nat → Nat) (cI cJ cB : ClassId) (sz : Nat) (p0 : Int32) : Array Value → State → Outcome → State → Prop := va_Qi (fun (r : Int32) (u : Unit) => match u with | () => (r = 0 ∨ r = 1)) (at_X3_isLetter dC dI cI cJ cB  sz p0) (va_A (ww_X3_isLetter dC dI cI cJ cB  sz p0) sz)
abbrev pc_X3_isLetter (dC : Nat → ClassId) (dI : Nat → Nat → Nat) (cI cJ cB : ClassId) (sz : Nat) (p0 : Int32) : Array Value → State → Prop := va_Pc [.int p0] (fun U => U.heap.size = sz ∧ NW U ∧ va_P (dC, dI) vwCl (ww_X3_isLetter dC dI cI cJ cB  sz p0) U.heap ∧ va_K (dC, dI) vwCl (tyL cI cJ cB) U ∧ va_D (fun _ => True) (ww_X3_isLetter dC dI cI cJ cB  sz p0))
abbrev rm_X3_isLetter : Room := { frames := 0, cells := 0, slots := 0, locals := 0 }
abbrev WW_X3_isLetter (p : Program) (l : Launch) (e : Env) (s : State) (m : MethodId) (below : List Frame) (meth : Method) (c : Code) (dC : Nat → ClassId) (dI : Nat → Nat → Nat) (cI cJ cB : ClassId) (sz : Nat) (p0 : Int32) (H : Heap) (locs : List Loc) (g : JFrame) : Prop := W p l e rm_X3_isLetter s m ([.int p0] : List Value).toArray below meth c H locs 0 0 (MQ below (qc_X3_isLetter dC dI cI cJ cB  sz p0) ([.int p0] : List Value).toArray s 0 0 (va_A (ww_X3_isLetter dC dI cI cJ cB  sz p0) sz)) g
set_option maxHeartbeats 4000000 in
set_option maxRecDepth 100000 in
theorem c_X3_isLetter (l : Launch) (dC : Nat → ClassId) (dI : Nat → Nat → Nat) (cI cJ cB : ClassId) (sz : Nat) (p0 : Int32) : Met l yX3_isLetter wo_X3_isLetter rm_X3_isLetter (pc_X3_isLetter dC dI cI cJ cB  sz p0) (qc_X3_isLetter dC dI cI cJ cB  sz p0) 0 0 (va_A (ww_X3_isLetter dC dI cI cJ cB  sz p0) sz) := by
  refine Met.ofW (cc := cX3_isLetter) (maxL := 1) (ret := (some .boolean)) (by decide) rfl ?_
  intro p e s m args below meth c s₁ B hml hv
  obtain ⟨rfl, hsz, hnw, hP, hK, hD0⟩ := hv
  have hx := B.exec
  have hb := B.bytes
  have hr := B.returns
  have hts := atoms_spec (ws := wo_X3_isLetter) B.pre
  have hown : s.vm.findClass RX3 = some m.cls := findClass_of_methodNamed B.named
  have hlocks := B.notSynchronized
  clear B
  subst hsz
  have hD := hD0.self (sz := s.heap.size)
  clear hD0
  have hA : ∀ q : Nat, s.heap.size ≤ q → (va_A (ww_X3_isLetter dC dI cI cJ cB  s.heap.size p0) s.heap.size) q := fun q h => Or.inr h
  have hS : va_S (va_A (ww_X3_isLetter dC dI cI cJ cB  s.heap.size p0) s.heap.size) s.heap s.heap [] := va_S.rf
  have hl := lv_entry ([.int p0]) (n := 1) (Nat.le_of_ble_eq_true rfl)
  rw [lg_entry_eq]
  generalize (lg_sl ([.int p0]) ++ List.replicate (1 - (lg_sl ([.int p0])).length) Slot.unset).toArray = ls at hl ⊢
  have hl : lv_has ls 1 [(0, .int p0)] := hl
  have hP : va_P (dC, dI) vwCl [] s.heap := hP
  have hD : va_D (va_A (ww_X3_isLetter dC dI cI cJ cB  s.heap.size p0) s.heap.size) [] := hD
  obtain ⟨H, hH⟩ : ∃ H, H = s.heap := ⟨_, rfl⟩
  obtain ⟨locs, hlc⟩ : ∃ L : List Loc, L = [] := ⟨_, rfl⟩
  have hS : va_S (va_A (ww_X3_isLetter dC dI cI cJ cB  s.heap.size p0) s.heap.size) s.heap H locs := by rw [hH, hlc]; exact hS
  have hP : va_P (dC, dI) vwCl [] H := by rw [hH]; exact hP
  suffices hgo : WW_X3_isLetter p l e s m below meth c dC dI cI cJ cB  s.heap.size p0 H locs (F0 m 0 ls []) by rw [hH, hlc] at hgo; exact hgo
  clear hH hlc
  refine lv_iload_n hx hb dX3_isLetter_0 rfl (lv_at hl 0 rfl) ?_
  refine lv_bipush (v := 97) hx hb dX3_isLetter_1 (by decide) ?_
  refine lv_icmp_lt (tgt := 16) hx hb dX3_isLetter_3 (by decide) (fun c_1 => ?_) (fun c_1 => ?_)
  · have tc_1 : p0.toInt < 97 := tb_lt_t c_1
    refine lv_iconst (v := 0) hx hb dX3_isLetter_16 (by decide) ?_
    have hP9 := hP.sub (ws' := []) [] rfl
    have hD9 := hD.sub (ws' := []) [] (by decide) rfl
    have r9_0 : (0 : Int32) = 0 ∨ (0 : Int32) = 1 := Or.inl rfl
    exact W.zret (v := (0 : Int32)) hx hb hr rfl (fun t ht hW => ⟨⟨(0 : Int32), (), rfl, r9_0, by rw [ht]; exact hP9, va_K.moved hW.alike hK, hD9⟩, hS.F ht⟩) hS.2.2 dX3_isLetter_17
  · have tc_1 : 97 ≤ p0.toInt := tb_lt_f c_1
    refine lv_iload_n hx hb dX3_isLetter_6 rfl (lv_at hl 0 rfl) ?_
    refine lv_bipush (v := 122) hx hb dX3_isLetter_7 (by decide) ?_
    refine lv_icmp_gt (tgt := 16) hx hb dX3_isLetter_9 (by decide) (fun c_2 => ?_) (fun c_2 => ?_)
    · have tc_2 : 122 < p0.toInt := tb_gt_t c_2
      refine lv_iconst (v := 0) hx hb dX3_isLetter_16 (by decide) ?_
      have hP9 := hP.sub (ws' := []) [] rfl
      have hD9 := hD.sub (ws' := []) [] (by decide) rfl
      have r9_0 : (0 : Int32) = 0 ∨ (0 : Int32) = 1 := Or.inl rfl
      exact W.zret (v := (0 : Int32)) hx hb hr rfl (fun t ht hW => ⟨⟨(0 : Int32), (), rfl, r9_0, by rw [ht]; exact hP9, va_K.moved hW.alike hK, hD9⟩, hS.F ht⟩) hS.2.2 dX3_isLetter_17
    · have tc_2 : p0.toInt ≤ 122 := tb_gt_f c_2
      refine lv_iconst (v := 1) hx hb dX3_isLetter_12 (by decide) ?_
      refine lv_goto (tgt := 17) hx hb dX3_isLetter_13 (by decide) ?_
      have hP9 := hP.sub (ws' := []) [] rfl
      have hD9 := hD.sub (ws' := []) [] (by decide) rfl
      have r9_0 : (1 : Int32) = 0 ∨ (1 : Int32) = 1 := Or.inr rfl
      exact W.zret (v := (1 : Int32)) hx hb hr rfl (fun t ht hW => ⟨⟨(1 : Int32), (), rfl, r9_0, by rw [ht]; exact hP9, va_K.moved hW.alike hK, hD9⟩, hS.F ht⟩) hS.2.2 dX3_isLetter_17
def wo_X3_isDigit : List Cond := .code yX3_isDigit cX3_isDigit 1 (some .boolean) :: (([] : List Cond))
abbrev ww_X3_isDigit (dC : Nat → ClassId) (dI : Nat → Nat → Nat) (cI cJ cB : ClassId) (sz : Nat) (p0 : Int32) : va_W := []
abbrev at_X3_isDigit (dC : Nat → ClassId) (dI : Nat → Nat → Nat) (cI cJ cB : ClassId) (sz : Nat) (p0 : Int32) (u : Unit) (t : State) : Prop := match u with
  | () => va_P (dC, dI) vwCl [] t.heap ∧ va_K (dC, dI) vwCl (tyL cI cJ cB) t ∧ va_D (va_A (ww_X3_isDigit dC dI cI cJ cB  sz p0) sz) []
abbrev qc_X3_isDigit (dC : Nat → ClassId) (dI : Nat → Nat → Nat) (cI cJ cB : ClassId) (sz : Nat) (p0 : Int32) : Array Value → State → Outcome → State → Prop := va_Qi (fun (r : Int32) (u : Unit) => match u with | () => (r = 0 ∨ r = 1)) (at_X3_isDigit dC dI cI cJ cB  sz p0) (va_A (ww_X3_isDigit dC dI cI cJ cB  sz p0) sz)
abbrev pc_X3_isDigit (dC : Nat → ClassId) (dI : Nat → Nat → Nat) (cI cJ cB : ClassId) (sz : Nat) (p0 : Int32) : Array Value → State → Prop := va_Pc [.int p0] (fun U => U.heap.size = sz ∧ NW U ∧ va_P (dC, dI) vwCl (ww_X3_isDigit dC dI cI cJ cB  sz p0) U.heap ∧ va_K (dC, dI) vwCl (tyL cI cJ cB) U ∧ va_D (fun _ => True) (ww_X3_isDigit dC dI cI cJ cB  sz p0))
abbrev rm_X3_isDigit : Room := { frames := 0, cells := 0, slots := 0, locals := 0 }
abbrev WW_X3_isDigit (p : Program) (l : Launch) (e : Env) (s : State) (m : MethodId) (below : List Frame) (meth : Method) (c : Code) (dC : Nat → ClassId) (dI : Nat → Nat → Nat) (cI cJ cB : ClassId) (sz : Nat) (p0 : Int32) (H : Heap) (locs : List Loc) (g : JFrame) : Prop := W p l e rm_X3_isDigit s m ([.int p0] : List Value).toArray below meth c H locs 0 0 (MQ below (qc_X3_isDigit dC dI cI cJ cB  sz p0) ([.int p0] : List Value).toArray s 0 0 (va_A (ww_X3_isDigit dC dI cI cJ cB  sz p0) sz)) g
set_option maxHeartbeats 4000000 in
set_option maxRecDepth 100000 in
theorem c_X3_isDigit (l : Launch) (dC : Nat → ClassId) (dI : Nat → Nat → Nat) (cI cJ cB : ClassId) (sz : Nat) (p0 : Int32) : Met l yX3_isDigit wo_X3_isDigit rm_X3_isDigit (pc_X3_isDigit dC dI cI cJ cB  sz p0) (qc_X3_isDigit dC dI cI cJ cB  sz p0) 0 0 (va_A (ww_X3_isDigit dC dI cI cJ cB  sz p0) sz) := by
  refine Met.ofW (cc := cX3_isDigit) (maxL := 1) (ret := (some .boolean)) (by decide) rfl ?_
  intro p e s m args below meth c s₁ B hml hv
  obtain ⟨rfl, hsz, hnw, hP, hK, hD0⟩ := hv
  have hx := B.exec
  have hb := B.bytes
  have hr := B.returns
  have hts := atoms_spec (ws := wo_X3_isDigit) B.pre
  have hown : s.vm.findClass RX3 = some m.cls := findClass_of_methodNamed B.named
  have hlocks := B.notSynchronized
  clear B
  subst hsz
  have hD := hD0.self (sz := s.heap.size)
  clear hD0
  have hA : ∀ q : Nat, s.heap.size ≤ q → (va_A (ww_X3_isDigit dC dI cI cJ cB  s.heap.size p0) s.heap.size) q := fun q h => Or.inr h
  have hS : va_S (va_A (ww_X3_isDigit dC dI cI cJ cB  s.heap.size p0) s.heap.size) s.heap s.heap [] := va_S.rf
  have hl := lv_entry ([.int p0]) (n := 1) (Nat.le_of_ble_eq_true rfl)
  rw [lg_entry_eq]
  generalize (lg_sl ([.int p0]) ++ List.replicate (1 - (lg_sl ([.int p0])).length) Slot.unset).toArray = ls at hl ⊢
  have hl : lv_has ls 1 [(0, .int p0)] := hl
  have hP : va_P (dC, dI) vwCl [] s.heap := hP
  have hD : va_D (va_A (ww_X3_isDigit dC dI cI cJ cB  s.heap.size p0) s.heap.size) [] := hD
  obtain ⟨H, hH⟩ : ∃ H, H = s.heap := ⟨_, rfl⟩
  obtain ⟨locs, hlc⟩ : ∃ L : List Loc, L = [] := ⟨_, rfl⟩
  have hS : va_S (va_A (ww_X3_isDigit dC dI cI cJ cB  s.heap.size p0) s.heap.size) s.heap H locs := by rw [hH, hlc]; exact hS
  have hP : va_P (dC, dI) vwCl [] H := by rw [hH]; exact hP
  suffices hgo : WW_X3_isDigit p l e s m below meth c dC dI cI cJ cB  s.heap.size p0 H locs (F0 m 0 ls []) by rw [hH, hlc] at hgo; exact hgo
  clear hH hlc
  refine lv_iload_n hx hb dX3_isDigit_0 rfl (lv_at hl 0 rfl) ?_
  refine lv_bipush (v := 48) hx hb dX3_isDigit_1 (by decide) ?_
  refine lv_icmp_lt (tgt := 16) hx hb dX3_isDigit_3 (by decide) (fun c_1 => ?_) (fun c_1 => ?_)
  · have tc_1 : p0.toInt < 48 := tb_lt_t c_1
    refine lv_iconst (v := 0) hx hb dX3_isDigit_16 (by decide) ?_
    have hP9 := hP.sub (ws' := []) [] rfl
    have hD9 := hD.sub (ws' := []) [] (by decide) rfl
    have r9_0 : (0 : Int32) = 0 ∨ (0 : Int32) = 1 := Or.inl rfl
    exact W.zret (v := (0 : Int32)) hx hb hr rfl (fun t ht hW => ⟨⟨(0 : Int32), (), rfl, r9_0, by rw [ht]; exact hP9, va_K.moved hW.alike hK, hD9⟩, hS.F ht⟩) hS.2.2 dX3_isDigit_17
  · have tc_1 : 48 ≤ p0.toInt := tb_lt_f c_1
    refine lv_iload_n hx hb dX3_isDigit_6 rfl (lv_at hl 0 rfl) ?_
    refine lv_bipush (v := 57) hx hb dX3_isDigit_7 (by decide) ?_
    refine lv_icmp_gt (tgt := 16) hx hb dX3_isDigit_9 (by decide) (fun c_2 => ?_) (fun c_2 => ?_)
    · have tc_2 : 57 < p0.toInt := tb_gt_t c_2
      refine lv_iconst (v := 0) hx hb dX3_isDigit_16 (by decide) ?_
      have hP9 := hP.sub (ws' := []) [] rfl
      have hD9 := hD.sub (ws' := []) [] (by decide) rfl
      have r9_0 : (0 : Int32) = 0 ∨ (0 : Int32) = 1 := Or.inl rfl
      exact W.zret (v := (0 : Int32)) hx hb hr rfl (fun t ht hW => ⟨⟨(0 : Int32), (), rfl, r9_0, by rw [ht]; exact hP9, va_K.moved hW.alike hK, hD9⟩, hS.F ht⟩) hS.2.2 dX3_isDigit_17
    · have tc_2 : p0.toInt ≤ 57 := tb_gt_f c_2
      refine lv_iconst (v := 1) hx hb dX3_isDigit_12 (by decide) ?_
      refine lv_goto (tgt := 17) hx hb dX3_isDigit_13 (by decide) ?_
      have hP9 := hP.sub (ws' := []) [] rfl
      have hD9 := hD.sub (ws' := []) [] (by decide) rfl
      have r9_0 : (1 : Int32) = 0 ∨ (1 : Int32) = 1 := Or.inr rfl
      exact W.zret (v := (1 : Int32)) hx hb hr rfl (fun t ht hW => ⟨⟨(1 : Int32), (), rfl, r9_0, by rw [ht]; exact hP9, va_K.moved hW.alike hK, hD9⟩, hS.F ht⟩) hS.2.2 dX3_isDigit_17
def wo_X3_look : List Cond := .code yX3_look cX3_look 1 (some .int) :: (([.fieldLink RX3 26 "SumRewriter$Scanner" "at" "I", .fieldLink RX3 23 "SumRewriter$Scanner" "limit" "I", .fieldLink RX3 9 "SumRewriter$Scanner" "tape" "[I"] : List Cond) ++ ((wsX30)))
abbrev ww_X3_look (dC : Nat → ClassId) (dI : Nat → Nat → Nat) (cI cJ cB : ClassId) (h h1 : Nat) (sz : Nat) (h_len : Int32) (h_limit : Int32) (h_pos : Int32) (h_sort : Int32) (h_start : Int32) (h_val : Int32) (h_tape : Nat → Int32) : va_W := [(h, .inr (3, [.ref h1, .int h_len, .int h_limit, .int h_pos, .int h_sort, .int h_start, .int h_val])), (h1, .inl (cI, 400, .inl h_tape))]
abbrev at_X3_look (dC : Nat → ClassId) (dI : Nat → Nat → Nat) (cI cJ cB : ClassId) (h h1 : Nat) (sz : Nat) (h_len : Int32) (h_limit : Int32) (h_pos : Int32) (h_sort : Int32) (h_start : Int32) (h_val : Int32) (h_tape : Nat → Int32) (u : Unit) (t : State) : Prop := match u with
  | () => va_P (dC, dI) vwCl [(h, .inr (3, [.ref h1, .int h_len, .int h_limit, .int h_pos, .int h_sort, .int h_start, .int h_val])), (h1, .inl (cI, 400, .inl h_tape))] t.heap ∧ va_K (dC, dI) vwCl (tyL cI cJ cB) t ∧ va_D (va_A (ww_X3_look dC dI cI cJ cB h h1 sz h_len h_limit h_pos h_sort h_start h_val h_tape) sz) [(h, .inr (3, [.ref h1, .int h_len, .int h_limit, .int h_pos, .int h_sort, .int h_start, .int h_val])), (h1, .inl (cI, 400, .inl h_tape))]
abbrev qc_X3_look (dC : Nat → ClassId) (dI : Nat → Nat → Nat) (cI cJ cB : ClassId) (h h1 : Nat) (sz : Nat) (h_len : Int32) (h_limit : Int32) (h_pos : Int32) (h_sort : Int32) (h_start : Int32) (h_val : Int32) (h_tape : Nat → Int32) : Array Value → State → Outcome → State → Prop := va_Qi (fun (r : Int32) (u : Unit) => match u with | () => ((h_limit).toInt ≤ (h_pos).toInt → r = -1)) (at_X3_look dC dI cI cJ cB h h1 sz h_len h_limit h_pos h_sort h_start h_val h_tape) (va_A (ww_X3_look dC dI cI cJ cB h h1 sz h_len h_limit h_pos h_sort h_start h_val h_tape) sz)
abbrev pc_X3_look (dC : Nat → ClassId) (dI : Nat → Nat → Nat) (cI cJ cB : ClassId) (h h1 : Nat) (sz : Nat) (h_len : Int32) (h_limit : Int32) (h_pos : Int32) (h_sort : Int32) (h_start : Int32) (h_val : Int32) (h_tape : Nat → Int32) : Array Value → State → Prop := va_Pc [.ref h] (fun U => U.heap.size = sz ∧ NW U ∧ va_P (dC, dI) vwCl (ww_X3_look dC dI cI cJ cB h h1 sz h_len h_limit h_pos h_sort h_start h_val h_tape) U.heap ∧ va_K (dC, dI) vwCl (tyL cI cJ cB) U ∧ va_D (fun _ => True) (ww_X3_look dC dI cI cJ cB h h1 sz h_len h_limit h_pos h_sort h_start h_val h_tape))
abbrev rm_X3_look : Room := { frames := 0, cells := 0, slots := 0, locals := 0 }
abbrev WW_X3_look (p : Program) (l : Launch) (e : Env) (s : State) (m : MethodId) (below : List Frame) (meth : Method) (c : Code) (dC : Nat → ClassId) (dI : Nat → Nat → Nat) (cI cJ cB : ClassId) (h h1 : Nat) (sz : Nat) (h_len : Int32) (h_limit : Int32) (h_pos : Int32) (h_sort : Int32) (h_start : Int32) (h_val : Int32) (h_tape : Nat → Int32) (H : Heap) (locs : List Loc) (g : JFrame) : Prop := W p l e rm_X3_look s m ([.ref h] : List Value).toArray below meth c H locs 0 0 (MQ below (qc_X3_look dC dI cI cJ cB h h1 sz h_len h_limit h_pos h_sort h_start h_val h_tape) ([.ref h] : List Value).toArray s 0 0 (va_A (ww_X3_look dC dI cI cJ cB h h1 sz h_len h_limit h_pos h_sort h_start h_val h_tape) sz)) g
set_option maxHeartbeats 4000000 in
set_option maxRecDepth 100000 in
theorem c_X3_look (l : Launch) (dC : Nat → ClassId) (dI : Nat → Nat → Nat) (cI cJ cB : ClassId) (h h1 : Nat) (sz : Nat) (h_len : Int32) (h_limit : Int32) (h_pos : Int32) (h_sort : Int32) (h_start : Int32) (h_val : Int32) (h_tape : Nat → Int32) : Met l yX3_look wo_X3_look rm_X3_look (pc_X3_look dC dI cI cJ cB h h1 sz h_len h_limit h_pos h_sort h_start h_val h_tape) (qc_X3_look dC dI cI cJ cB h h1 sz h_len h_limit h_pos h_sort h_start h_val h_tape) 0 0 (va_A (ww_X3_look dC dI cI cJ cB h h1 sz h_len h_limit h_pos h_sort h_start h_val h_tape) sz) := by
  refine Met.ofW (cc := cX3_look) (maxL := 1) (ret := (some .int)) (by decide) rfl ?_
  intro p e s m args below meth c s₁ B hml hv
  obtain ⟨rfl, hsz, hnw, hP, hK, hD0⟩ := hv
  have hx := B.exec
  have hb := B.bytes
  have hr := B.returns
  have hts := atoms_spec (ws := wo_X3_look) B.pre
  have hown : s.vm.findClass RX3 = some m.cls := findClass_of_methodNamed B.named
  have hlocks := B.notSynchronized
  clear B
  subst hsz
  have hD := hD0.self (sz := s.heap.size)
  clear hD0
  have kk0_ := hts (.fieldLink RX3 26 "SumRewriter$Scanner" "at" "I") (by decide +kernel)
  have kk1_ : ∀ w ∈ wsX30, w ∈ wo_X3_look := fun _ h => (List.mem_cons_of_mem _ (List.mem_append_right _ h))
  have kk2_ := hts (.fieldLink RX3 23 "SumRewriter$Scanner" "limit" "I") (by decide +kernel)
  have kk3_ := hts (.fieldLink RX3 9 "SumRewriter$Scanner" "tape" "[I") (by decide +kernel)
  have hA : ∀ q : Nat, s.heap.size ≤ q → (va_A (ww_X3_look dC dI cI cJ cB h h1 s.heap.size h_len h_limit h_pos h_sort h_start h_val h_tape) s.heap.size) q := fun q h => Or.inr h
  have hS : va_S (va_A (ww_X3_look dC dI cI cJ cB h h1 s.heap.size h_len h_limit h_pos h_sort h_start h_val h_tape) s.heap.size) s.heap s.heap [] := va_S.rf
  have hl := lv_entry ([.ref h]) (n := 1) (Nat.le_of_ble_eq_true rfl)
  rw [lg_entry_eq]
  generalize (lg_sl ([.ref h]) ++ List.replicate (1 - (lg_sl ([.ref h])).length) Slot.unset).toArray = ls at hl ⊢
  have hl : lv_has ls 1 [(0, .ref h)] := hl
  have hP : va_P (dC, dI) vwCl [(h, .inr (3, [.ref h1, .int h_len, .int h_limit, .int h_pos, .int h_sort, .int h_start, .int h_val])), (h1, .inl (cI, 400, .inl h_tape))] s.heap := hP
  have hD : va_D (va_A (ww_X3_look dC dI cI cJ cB h h1 s.heap.size h_len h_limit h_pos h_sort h_start h_val h_tape) s.heap.size) [(h, .inr (3, [.ref h1, .int h_len, .int h_limit, .int h_pos, .int h_sort, .int h_start, .int h_val])), (h1, .inl (cI, 400, .inl h_tape))] := hD
  obtain ⟨H, hH⟩ : ∃ H, H = s.heap := ⟨_, rfl⟩
  obtain ⟨locs, hlc⟩ : ∃ L : List Loc, L = [] := ⟨_, rfl⟩
  have hS : va_S (va_A (ww_X3_look dC dI cI cJ cB h h1 s.heap.size h_len h_limit h_pos h_sort h_start h_val h_tape) s.heap.size) s.heap H locs := by rw [hH, hlc]; exact hS
  have hP : va_P (dC, dI) vwCl [(h, .inr (3, [.ref h1, .int h_len, .int h_limit, .int h_pos, .int h_sort, .int h_start, .int h_val])), (h1, .inl (cI, 400, .inl h_tape))] H := by rw [hH]; exact hP
  suffices hgo : WW_X3_look p l e s m below meth c dC dI cI cJ cB h h1 s.heap.size h_len h_limit h_pos h_sort h_start h_val h_tape H locs (F0 m 0 ls []) by rw [hH, hlc] at hgo; exact hgo
  clear hH hlc
  refine lv_aload_n hx hb dX3_look_0 rfl (lv_at hl 0 rfl) ?_
  refine va_get (D := (dC, dI)) (ci := 3) (v := .int h_pos) (C := RX3) (T := TX3) (N := 7) hx hb hts kk1_ hown hK hP 0 rfl rfl 3 (by decide) kk0_ (fun _ h9 => h9) rfl dX3_look_1 ?_
  refine lv_if_lt (tgt := 42) hx hb dX3_look_4 (by decide) (fun c_1 => ?_) (fun c_1 => ?_)
  · have tc_1 : h_pos.toInt < 0 := tb_lt_t c_1
    refine lv_iconst (v := -1) hx hb dX3_look_42 (by decide) ?_
    have hP9 := hP.sub (ws' := [(h, .inr (3, [.ref h1, .int h_len, .int h_limit, .int h_pos, .int h_sort, .int h_start, .int h_val])), (h1, .inl (cI, 400, .inl h_tape))]) [0, 1] rfl
    have hD9 := hD.sub (ws' := [(h, .inr (3, [.ref h1, .int h_len, .int h_limit, .int h_pos, .int h_sort, .int h_start, .int h_val])), (h1, .inl (cI, 400, .inl h_tape))]) [0, 1] (by decide) rfl
    have r9_0 : (h_limit).toInt ≤ (h_pos).toInt → (-1 : Int32) = -1 := fun _ => rfl
    exact W.iret (v := (-1 : Int32)) hx hb hr (fun t ht hW => ⟨⟨(-1 : Int32), (), rfl, r9_0, by rw [ht]; exact hP9, va_K.moved hW.alike hK, hD9⟩, hS.F ht⟩) hS.2.2 dX3_look_43
  · have tc_1 : 0 ≤ h_pos.toInt := tb_lt_f c_1
    refine lv_aload_n hx hb dX3_look_7 rfl (lv_at hl 0 rfl) ?_
    refine va_get (D := (dC, dI)) (ci := 3) (v := .int h_pos) (C := RX3) (T := TX3) (N := 7) hx hb hts kk1_ hown hK hP 0 rfl rfl 3 (by decide) kk0_ (fun _ h9 => h9) rfl dX3_look_8 ?_
    refine lv_aload_n hx hb dX3_look_11 rfl (lv_at hl 0 rfl) ?_
    refine va_get (D := (dC, dI)) (ci := 3) (v := .int h_limit) (C := RX3) (T := TX3) (N := 7) hx hb hts kk1_ hown hK hP 0 rfl rfl 2 (by decide) kk2_ (fun _ h9 => h9) rfl dX3_look_12 ?_
    refine lv_icmp_ge (tgt := 42) hx hb dX3_look_15 (by decide) (fun c_2 => ?_) (fun c_2 => ?_)
    · have tc_2 : h_limit.toInt ≤ h_pos.toInt := tb_ge_t c_2
      have := ti_rng h_limit
      refine lv_iconst (v := -1) hx hb dX3_look_42 (by decide) ?_
      have hP9 := hP.sub (ws' := [(h, .inr (3, [.ref h1, .int h_len, .int h_limit, .int h_pos, .int h_sort, .int h_start, .int h_val])), (h1, .inl (cI, 400, .inl h_tape))]) [0, 1] rfl
      have hD9 := hD.sub (ws' := [(h, .inr (3, [.ref h1, .int h_len, .int h_limit, .int h_pos, .int h_sort, .int h_start, .int h_val])), (h1, .inl (cI, 400, .inl h_tape))]) [0, 1] (by decide) rfl
      have r9_0 : (h_limit).toInt ≤ (h_pos).toInt → (-1 : Int32) = -1 := fun _ => rfl
      exact W.iret (v := (-1 : Int32)) hx hb hr (fun t ht hW => ⟨⟨(-1 : Int32), (), rfl, r9_0, by rw [ht]; exact hP9, va_K.moved hW.alike hK, hD9⟩, hS.F ht⟩) hS.2.2 dX3_look_43
    · have tc_2 : h_pos.toInt < h_limit.toInt := tb_ge_f c_2
      have := ti_rng h_limit
      refine lv_aload_n hx hb dX3_look_18 rfl (lv_at hl 0 rfl) ?_
      refine va_get (D := (dC, dI)) (ci := 3) (v := .int h_pos) (C := RX3) (T := TX3) (N := 7) hx hb hts kk1_ hown hK hP 0 rfl rfl 3 (by decide) kk0_ (fun _ h9 => h9) rfl dX3_look_19 ?_
      refine lv_aload_n hx hb dX3_look_22 rfl (lv_at hl 0 rfl) ?_
      refine va_get (D := (dC, dI)) (ci := 3) (v := .ref h1) (C := RX3) (T := TX3) (N := 7) hx hb hts kk1_ hown hK hP 0 rfl rfl 0 (by decide) kk3_ (fun _ h9 => h9) rfl dX3_look_23 ?_
      refine va_alen (v := 400) hx hb hK hP 1 0 rfl rfl rfl dX3_look_26 ?_
      refine lv_icmp_ge (tgt := 42) hx hb dX3_look_27 (by decide) (fun c_3 => ?_) (fun c_3 => ?_)
      · have tc_3 : 400 ≤ h_pos.toInt := tb_ge_t c_3
        refine lv_iconst (v := -1) hx hb dX3_look_42 (by decide) ?_
        have hP9 := hP.sub (ws' := [(h, .inr (3, [.ref h1, .int h_len, .int h_limit, .int h_pos, .int h_sort, .int h_start, .int h_val])), (h1, .inl (cI, 400, .inl h_tape))]) [0, 1] rfl
        have hD9 := hD.sub (ws' := [(h, .inr (3, [.ref h1, .int h_len, .int h_limit, .int h_pos, .int h_sort, .int h_start, .int h_val])), (h1, .inl (cI, 400, .inl h_tape))]) [0, 1] (by decide) rfl
        have r9_0 : (h_limit).toInt ≤ (h_pos).toInt → (-1 : Int32) = -1 := fun _ => rfl
        exact W.iret (v := (-1 : Int32)) hx hb hr (fun t ht hW => ⟨⟨(-1 : Int32), (), rfl, r9_0, by rw [ht]; exact hP9, va_K.moved hW.alike hK, hD9⟩, hS.F ht⟩) hS.2.2 dX3_look_43
      · have tc_3 : h_pos.toInt < 400 := tb_ge_f c_3
        refine lv_aload_n hx hb dX3_look_30 rfl (lv_at hl 0 rfl) ?_
        refine va_get (D := (dC, dI)) (ci := 3) (v := .ref h1) (C := RX3) (T := TX3) (N := 7) hx hb hts kk1_ hown hK hP 0 rfl rfl 0 (by decide) kk3_ (fun _ h9 => h9) rfl dX3_look_31 ?_
        refine lv_aload_n hx hb dX3_look_34 rfl (lv_at hl 0 rfl) ?_
        refine va_get (D := (dC, dI)) (ci := 3) (v := .int h_pos) (C := RX3) (T := TX3) (N := 7) hx hb hts kk1_ hown hK hP 0 rfl rfl 3 (by decide) kk0_ (fun _ h9 => h9) rfl dX3_look_35 ?_
        refine va_iald hx hb hK hP 1 0 rfl rfl (vp_in_iff.mpr ⟨by omega, by omega⟩) dX3_look_38 ?_
        refine lv_topi (fun y_4 ey_4 => ?_)
        refine lv_goto (tgt := 43) hx hb dX3_look_39 (by decide) ?_
        have hP9 := hP.sub (ws' := [(h, .inr (3, [.ref h1, .int h_len, .int h_limit, .int h_pos, .int h_sort, .int h_start, .int h_val])), (h1, .inl (cI, 400, .inl h_tape))]) [0, 1] rfl
        have hD9 := hD.sub (ws' := [(h, .inr (3, [.ref h1, .int h_len, .int h_limit, .int h_pos, .int h_sort, .int h_start, .int h_val])), (h1, .inl (cI, 400, .inl h_tape))]) [0, 1] (by decide) rfl
        have r9_0 : (h_limit).toInt ≤ (h_pos).toInt → y_4 = -1 := fun h => absurd h (by omega)
        exact W.iret (v := y_4) hx hb hr (fun t ht hW => ⟨⟨y_4, (), rfl, r9_0, by rw [ht]; exact hP9, va_K.moved hW.alike hK, hD9⟩, hS.F ht⟩) hS.2.2 dX3_look_43
def wo_X3_isSign : List Cond := .code yX3_isSign cX3_isSign 2 (some .boolean) :: (([.fieldLink RX3 43 "SumRewriter$Scanner" "sort" "I", .fieldLink RX3 46 "SumRewriter$Scanner" "value" "I"] : List Cond) ++ ((wsX30)))
abbrev ww_X3_isSign (dC : Nat → ClassId) (dI : Nat → Nat → Nat) (cI cJ cB : ClassId) (h h1 : Nat) (sz : Nat) (h_len : Int32) (h_limit : Int32) (h_pos : Int32) (h_sort : Int32) (h_start : Int32) (h_val : Int32) (h_tape : Nat → Int32) (p0 : Int32) : va_W := [(h, .inr (3, [.ref h1, .int h_len, .int h_limit, .int h_pos, .int h_sort, .int h_start, .int h_val])), (h1, .inl (cI, 400, .inl h_tape))]
abbrev at_X3_isSign (dC : Nat → ClassId) (dI : Nat → Nat → Nat) (cI cJ cB : ClassId) (h h1 : Nat) (sz : Nat) (h_len : Int32) (h_limit : Int32) (h_pos : Int32) (h_sort : Int32) (h_start : Int32) (h_val : Int32) (h_tape : Nat → Int32) (p0 : Int32) (u : Unit) (t : State) : Prop := match u with
  | () => va_P (dC, dI) vwCl [(h, .inr (3, [.ref h1, .int h_len, .int h_limit, .int h_pos, .int h_sort, .int h_start, .int h_val])), (h1, .inl (cI, 400, .inl h_tape))] t.heap ∧ va_K (dC, dI) vwCl (tyL cI cJ cB) t ∧ va_D (va_A (ww_X3_isSign dC dI cI cJ cB h h1 sz h_len h_limit h_pos h_sort h_start h_val h_tape p0) sz) [(h, .inr (3, [.ref h1, .int h_len, .int h_limit, .int h_pos, .int h_sort, .int h_start, .int h_val])), (h1, .inl (cI, 400, .inl h_tape))]
abbrev qc_X3_isSign (dC : Nat → ClassId) (dI : Nat → Nat → Nat) (cI cJ cB : ClassId) (h h1 : Nat) (sz : Nat) (h_len : Int32) (h_limit : Int32) (h_pos : Int32) (h_sort : Int32) (h_start : Int32) (h_val : Int32) (h_tape : Nat → Int32) (p0 : Int32) : Array Value → State → Outcome → State → Prop := va_Qi (fun (r : Int32) (u : Unit) => match u with | () => (r = 0 ∨ r = 1)) (at_X3_isSign dC dI cI cJ cB h h1 sz h_len h_limit h_pos h_sort h_start h_val h_tape p0) (va_A (ww_X3_isSign dC dI cI cJ cB h h1 sz h_len h_limit h_pos h_sort h_start h_val h_tape p0) sz)
abbrev pc_X3_isSign (dC : Nat → ClassId) (dI : Nat → Nat → Nat) (cI cJ cB : ClassId) (h h1 : Nat) (sz : Nat) (h_len : Int32) (h_limit : Int32) (h_pos : Int32) (h_sort : Int32) (h_start : Int32) (h_val : Int32) (h_tape : Nat → Int32) (p0 : Int32) : Array Value → State → Prop := va_Pc [.ref h, .int p0] (fun U => U.heap.size = sz ∧ NW U ∧ va_P (dC, dI) vwCl (ww_X3_isSign dC dI cI cJ cB h h1 sz h_len h_limit h_pos h_sort h_start h_val h_tape p0) U.heap ∧ va_K (dC, dI) vwCl (tyL cI cJ cB) U ∧ va_D (fun _ => True) (ww_X3_isSign dC dI cI cJ cB h h1 sz h_len h_limit h_pos h_sort h_start h_val h_tape p0))
abbrev rm_X3_isSign : Room := { frames := 0, cells := 0, slots := 0, locals := 0 }
abbrev WW_X3_isSign (p : Program) (l : Launch) (e : Env) (s : State) (m : MethodId) (below : List Frame) (meth : Method) (c : Code) (dC : Nat → ClassId) (dI : Nat → Nat → Nat) (cI cJ cB : ClassId) (h h1 : Nat) (sz : Nat) (h_len : Int32) (h_limit : Int32) (h_pos : Int32) (h_sort : Int32) (h_start : Int32) (h_val : Int32) (h_tape : Nat → Int32) (p0 : Int32) (H : Heap) (locs : List Loc) (g : JFrame) : Prop := W p l e rm_X3_isSign s m ([.ref h, .int p0] : List Value).toArray below meth c H locs 0 0 (MQ below (qc_X3_isSign dC dI cI cJ cB h h1 sz h_len h_limit h_pos h_sort h_start h_val h_tape p0) ([.ref h, .int p0] : List Value).toArray s 0 0 (va_A (ww_X3_isSign dC dI cI cJ cB h h1 sz h_len h_limit h_pos h_sort h_start h_val h_tape p0) sz)) g
set_option maxHeartbeats 4000000 in
set_option maxRecDepth 100000 in
theorem c_X3_isSign (l : Launch) (dC : Nat → ClassId) (dI : Nat → Nat → Nat) (cI cJ cB : ClassId) (h h1 : Nat) (sz : Nat) (h_len : Int32) (h_limit : Int32) (h_pos : Int32) (h_sort : Int32) (h_start : Int32) (h_val : Int32) (h_tape : Nat → Int32) (p0 : Int32) : Met l yX3_isSign wo_X3_isSign rm_X3_isSign (pc_X3_isSign dC dI cI cJ cB h h1 sz h_len h_limit h_pos h_sort h_start h_val h_tape p0) (qc_X3_isSign dC dI cI cJ cB h h1 sz h_len h_limit h_pos h_sort h_start h_val h_tape p0) 0 0 (va_A (ww_X3_isSign dC dI cI cJ cB h h1 sz h_len h_limit h_pos h_sort h_start h_val h_tape p0) sz) := by
  refine Met.ofW (cc := cX3_isSign) (maxL := 2) (ret := (some .boolean)) (by decide) rfl ?_
  intro p e s m args below meth c s₁ B hml hv
  obtain ⟨rfl, hsz, hnw, hP, hK, hD0⟩ := hv
  have hx := B.exec
  have hb := B.bytes
  have hr := B.returns
  have hts := atoms_spec (ws := wo_X3_isSign) B.pre
  have hown : s.vm.findClass RX3 = some m.cls := findClass_of_methodNamed B.named
  have hlocks := B.notSynchronized
  clear B
  subst hsz
  have hD := hD0.self (sz := s.heap.size)
  clear hD0
  have kk0_ := hts (.fieldLink RX3 43 "SumRewriter$Scanner" "sort" "I") (by decide +kernel)
  have kk1_ : ∀ w ∈ wsX30, w ∈ wo_X3_isSign := fun _ h => (List.mem_cons_of_mem _ (List.mem_append_right _ h))
  have kk2_ := hts (.fieldLink RX3 46 "SumRewriter$Scanner" "value" "I") (by decide +kernel)
  have hA : ∀ q : Nat, s.heap.size ≤ q → (va_A (ww_X3_isSign dC dI cI cJ cB h h1 s.heap.size h_len h_limit h_pos h_sort h_start h_val h_tape p0) s.heap.size) q := fun q h => Or.inr h
  have hS : va_S (va_A (ww_X3_isSign dC dI cI cJ cB h h1 s.heap.size h_len h_limit h_pos h_sort h_start h_val h_tape p0) s.heap.size) s.heap s.heap [] := va_S.rf
  have hl := lv_entry ([.ref h, .int p0]) (n := 2) (Nat.le_of_ble_eq_true rfl)
  rw [lg_entry_eq]
  generalize (lg_sl ([.ref h, .int p0]) ++ List.replicate (2 - (lg_sl ([.ref h, .int p0])).length) Slot.unset).toArray = ls at hl ⊢
  have hl : lv_has ls 2 [(0, .ref h), (1, .int p0)] := hl
  have hP : va_P (dC, dI) vwCl [(h, .inr (3, [.ref h1, .int h_len, .int h_limit, .int h_pos, .int h_sort, .int h_start, .int h_val])), (h1, .inl (cI, 400, .inl h_tape))] s.heap := hP
  have hD : va_D (va_A (ww_X3_isSign dC dI cI cJ cB h h1 s.heap.size h_len h_limit h_pos h_sort h_start h_val h_tape p0) s.heap.size) [(h, .inr (3, [.ref h1, .int h_len, .int h_limit, .int h_pos, .int h_sort, .int h_start, .int h_val])), (h1, .inl (cI, 400, .inl h_tape))] := hD
  obtain ⟨H, hH⟩ : ∃ H, H = s.heap := ⟨_, rfl⟩
  obtain ⟨locs, hlc⟩ : ∃ L : List Loc, L = [] := ⟨_, rfl⟩
  have hS : va_S (va_A (ww_X3_isSign dC dI cI cJ cB h h1 s.heap.size h_len h_limit h_pos h_sort h_start h_val h_tape p0) s.heap.size) s.heap H locs := by rw [hH, hlc]; exact hS
  have hP : va_P (dC, dI) vwCl [(h, .inr (3, [.ref h1, .int h_len, .int h_limit, .int h_pos, .int h_sort, .int h_start, .int h_val])), (h1, .inl (cI, 400, .inl h_tape))] H := by rw [hH]; exact hP
  suffices hgo : WW_X3_isSign p l e s m below meth c dC dI cI cJ cB h h1 s.heap.size h_len h_limit h_pos h_sort h_start h_val h_tape p0 H locs (F0 m 0 ls []) by rw [hH, hlc] at hgo; exact hgo
  clear hH hlc
  refine lv_aload_n hx hb dX3_isSign_0 rfl (lv_at hl 0 rfl) ?_
  refine va_get (D := (dC, dI)) (ci := 3) (v := .int h_sort) (C := RX3) (T := TX3) (N := 7) hx hb hts kk1_ hown hK hP 0 rfl rfl 4 (by decide) kk0_ (fun _ h9 => h9) rfl dX3_isSign_1 ?_
  refine lv_iconst (v := 3) hx hb dX3_isSign_4 (by decide) ?_
  refine lv_icmp_ne (tgt := 20) hx hb dX3_isSign_5 (by decide) (fun c_1 => ?_) (fun c_1 => ?_)
  · have tc_1 : ¬ (h_sort.toInt = 3) := tb_ne_t c_1
    refine lv_iconst (v := 0) hx hb dX3_isSign_20 (by decide) ?_
    have hP9 := hP.sub (ws' := [(h, .inr (3, [.ref h1, .int h_len, .int h_limit, .int h_pos, .int h_sort, .int h_start, .int h_val])), (h1, .inl (cI, 400, .inl h_tape))]) [0, 1] rfl
    have hD9 := hD.sub (ws' := [(h, .inr (3, [.ref h1, .int h_len, .int h_limit, .int h_pos, .int h_sort, .int h_start, .int h_val])), (h1, .inl (cI, 400, .inl h_tape))]) [0, 1] (by decide) rfl
    have r9_0 : (0 : Int32) = 0 ∨ (0 : Int32) = 1 := Or.inl rfl
    exact W.zret (v := (0 : Int32)) hx hb hr rfl (fun t ht hW => ⟨⟨(0 : Int32), (), rfl, r9_0, by rw [ht]; exact hP9, va_K.moved hW.alike hK, hD9⟩, hS.F ht⟩) hS.2.2 dX3_isSign_21
  · have tc_1 : h_sort.toInt = 3 := tb_ne_f c_1
    refine lv_aload_n hx hb dX3_isSign_8 rfl (lv_at hl 0 rfl) ?_
    refine va_get (D := (dC, dI)) (ci := 3) (v := .int h_val) (C := RX3) (T := TX3) (N := 7) hx hb hts kk1_ hown hK hP 0 rfl rfl 6 (by decide) kk2_ (fun _ h9 => h9) rfl dX3_isSign_9 ?_
    refine lv_iload_n hx hb dX3_isSign_12 rfl (lv_at hl 1 rfl) ?_
    refine lv_icmp_ne (tgt := 20) hx hb dX3_isSign_13 (by decide) (fun c_2 => ?_) (fun c_2 => ?_)
    · have tc_2 : ¬ (h_val.toInt = p0.toInt) := tb_ne_t c_2
      have := ti_rng h_val
      have := ti_rng p0
      refine lv_iconst (v := 0) hx hb dX3_isSign_20 (by decide) ?_
      have hP9 := hP.sub (ws' := [(h, .inr (3, [.ref h1, .int h_len, .int h_limit, .int h_pos, .int h_sort, .int h_start, .int h_val])), (h1, .inl (cI, 400, .inl h_tape))]) [0, 1] rfl
      have hD9 := hD.sub (ws' := [(h, .inr (3, [.ref h1, .int h_len, .int h_limit, .int h_pos, .int h_sort, .int h_start, .int h_val])), (h1, .inl (cI, 400, .inl h_tape))]) [0, 1] (by decide) rfl
      have r9_0 : (0 : Int32) = 0 ∨ (0 : Int32) = 1 := Or.inl rfl
      exact W.zret (v := (0 : Int32)) hx hb hr rfl (fun t ht hW => ⟨⟨(0 : Int32), (), rfl, r9_0, by rw [ht]; exact hP9, va_K.moved hW.alike hK, hD9⟩, hS.F ht⟩) hS.2.2 dX3_isSign_21
    · have tc_2 : h_val.toInt = p0.toInt := tb_ne_f c_2
      have := ti_rng h_val
      have := ti_rng p0
      refine lv_iconst (v := 1) hx hb dX3_isSign_16 (by decide) ?_
      refine lv_goto (tgt := 21) hx hb dX3_isSign_17 (by decide) ?_
      have hP9 := hP.sub (ws' := [(h, .inr (3, [.ref h1, .int h_len, .int h_limit, .int h_pos, .int h_sort, .int h_start, .int h_val])), (h1, .inl (cI, 400, .inl h_tape))]) [0, 1] rfl
      have hD9 := hD.sub (ws' := [(h, .inr (3, [.ref h1, .int h_len, .int h_limit, .int h_pos, .int h_sort, .int h_start, .int h_val])), (h1, .inl (cI, 400, .inl h_tape))]) [0, 1] (by decide) rfl
      have r9_0 : (1 : Int32) = 0 ∨ (1 : Int32) = 1 := Or.inr rfl
      exact W.zret (v := (1 : Int32)) hx hb hr rfl (fun t ht hW => ⟨⟨(1 : Int32), (), rfl, r9_0, by rw [ht]; exact hP9, va_K.moved hW.alike hK, hD9⟩, hS.F ht⟩) hS.2.2 dX3_isSign_21
def wo_X3_cut : List Cond := .code yX3_cut cX3_cut 2 (some .boolean) :: (([.fieldLink RX3 15 "SumRewriter$Scanner" "length" "I"] : List Cond) ++ ((wsX30)))
abbrev ww_X3_cut (dC : Nat → ClassId) (dI : Nat → Nat → Nat) (cI cJ cB : ClassId) (h h1 : Nat) (sz : Nat) (h_len0 : Int32) (h_limit : Int32) (h_pos : Int32) (h_sort : Int32) (h_start : Int32) (h_val : Int32) (h_tape : Nat → Int32) (p0 : Int32) : va_W := [(h, .inr (3, [.ref h1, .int h_len0, .int h_limit, .int h_pos, .int h_sort, .int h_start, .int h_val])), (h1, .inl (cI, 400, .inl h_tape))]
abbrev at_X3_cut (dC : Nat → ClassId) (dI : Nat → Nat → Nat) (cI cJ cB : ClassId) (h h1 : Nat) (sz : Nat) (h_len0 : Int32) (h_limit : Int32) (h_pos : Int32) (h_sort : Int32) (h_start : Int32) (h_val : Int32) (h_tape : Nat → Int32) (p0 : Int32) (u : Int32) (t : State) : Prop := match u with
  | h_len => va_P (dC, dI) vwCl [(h, .inr (3, [.ref h1, .int h_len, .int h_limit, .int h_pos, .int h_sort, .int h_start, .int h_val])), (h1, .inl (cI, 400, .inl h_tape))] t.heap ∧ va_K (dC, dI) vwCl (tyL cI cJ cB) t ∧ va_D (va_A (ww_X3_cut dC dI cI cJ cB h h1 sz h_len0 h_limit h_pos h_sort h_start h_val h_tape p0) sz) [(h, .inr (3, [.ref h1, .int h_len, .int h_limit, .int h_pos, .int h_sort, .int h_start, .int h_val])), (h1, .inl (cI, 400, .inl h_tape))]
abbrev qc_X3_cut (dC : Nat → ClassId) (dI : Nat → Nat → Nat) (cI cJ cB : ClassId) (h h1 : Nat) (sz : Nat) (h_len0 : Int32) (h_limit : Int32) (h_pos : Int32) (h_sort : Int32) (h_start : Int32) (h_val : Int32) (h_tape : Nat → Int32) (p0 : Int32) : Array Value → State → Outcome → State → Prop := va_Qi (fun (r : Int32) (u : Int32) => match u with | h_len => ((0 ≤ p0.toInt ∧ p0.toInt ≤ h_len0.toInt → r = 1 ∧ h_len = p0) ∧ (¬ (0 ≤ p0.toInt ∧ p0.toInt ≤ h_len0.toInt) → r = 0 ∧ h_len = h_len0))) (at_X3_cut dC dI cI cJ cB h h1 sz h_len0 h_limit h_pos h_sort h_start h_val h_tape p0) (va_A (ww_X3_cut dC dI cI cJ cB h h1 sz h_len0 h_limit h_pos h_sort h_start h_val h_tape p0) sz)
abbrev pc_X3_cut (dC : Nat → ClassId) (dI : Nat → Nat → Nat) (cI cJ cB : ClassId) (h h1 : Nat) (sz : Nat) (h_len0 : Int32) (h_limit : Int32) (h_pos : Int32) (h_sort : Int32) (h_start : Int32) (h_val : Int32) (h_tape : Nat → Int32) (p0 : Int32) : Array Value → State → Prop := va_Pc [.ref h, .int p0] (fun U => U.heap.size = sz ∧ NW U ∧ va_P (dC, dI) vwCl (ww_X3_cut dC dI cI cJ cB h h1 sz h_len0 h_limit h_pos h_sort h_start h_val h_tape p0) U.heap ∧ va_K (dC, dI) vwCl (tyL cI cJ cB) U ∧ va_D (fun _ => True) (ww_X3_cut dC dI cI cJ cB h h1 sz h_len0 h_limit h_pos h_sort h_start h_val h_tape p0))
abbrev rm_X3_cut : Room := { frames := 0, cells := 0, slots := 0, locals := 0 }
abbrev WW_X3_cut (p : Program) (l : Launch) (e : Env) (s : State) (m : MethodId) (below : List Frame) (meth : Method) (c : Code) (dC : Nat → ClassId) (dI : Nat → Nat → Nat) (cI cJ cB : ClassId) (h h1 : Nat) (sz : Nat) (h_len0 : Int32) (h_limit : Int32) (h_pos : Int32) (h_sort : Int32) (h_start : Int32) (h_val : Int32) (h_tape : Nat → Int32) (p0 : Int32) (H : Heap) (locs : List Loc) (g : JFrame) : Prop := W p l e rm_X3_cut s m ([.ref h, .int p0] : List Value).toArray below meth c H locs 0 0 (MQ below (qc_X3_cut dC dI cI cJ cB h h1 sz h_len0 h_limit h_pos h_sort h_start h_val h_tape p0) ([.ref h, .int p0] : List Value).toArray s 0 0 (va_A (ww_X3_cut dC dI cI cJ cB h h1 sz h_len0 h_limit h_pos h_sort h_start h_val h_tape p0) sz)) g
set_option maxHeartbeats 4000000 in
set_option maxRecDepth 100000 in
theorem c_X3_cut (l : Launch) (dC : Nat → ClassId) (dI : Nat → Nat → Nat) (cI cJ cB : ClassId) (h h1 : Nat) (sz : Nat) (h_len0 : Int32) (h_limit : Int32) (h_pos : Int32) (h_sort : Int32) (h_start : Int32) (h_val : Int32) (h_tape : Nat → Int32) (p0 : Int32) : Met l yX3_cut wo_X3_cut rm_X3_cut (pc_X3_cut dC dI cI cJ cB h h1 sz h_len0 h_limit h_pos h_sort h_start h_val h_tape p0) (qc_X3_cut dC dI cI cJ cB h h1 sz h_len0 h_limit h_pos h_sort h_start h_val h_tape p0) 0 0 (va_A (ww_X3_cut dC dI cI cJ cB h h1 sz h_len0 h_limit h_pos h_sort h_start h_val h_tape p0) sz) := by
  refine Met.ofW (cc := cX3_cut) (maxL := 2) (ret := (some .boolean)) (by decide) rfl ?_
  intro p e s m args below meth c s₁ B hml hv
  obtain ⟨rfl, hsz, hnw, hP, hK, hD0⟩ := hv
  have hx := B.exec
  have hb := B.bytes
  have hr := B.returns
  have hts := atoms_spec (ws := wo_X3_cut) B.pre
  have hown : s.vm.findClass RX3 = some m.cls := findClass_of_methodNamed B.named
  have hlocks := B.notSynchronized
  clear B
  subst hsz
  have hD := hD0.self (sz := s.heap.size)
  clear hD0
  have kk0_ := hts (.fieldLink RX3 15 "SumRewriter$Scanner" "length" "I") (by decide +kernel)
  have kk1_ : ∀ w ∈ wsX30, w ∈ wo_X3_cut := fun _ h => (List.mem_cons_of_mem _ (List.mem_append_right _ h))
  have hA : ∀ q : Nat, s.heap.size ≤ q → (va_A (ww_X3_cut dC dI cI cJ cB h h1 s.heap.size h_len0 h_limit h_pos h_sort h_start h_val h_tape p0) s.heap.size) q := fun q h => Or.inr h
  have hS : va_S (va_A (ww_X3_cut dC dI cI cJ cB h h1 s.heap.size h_len0 h_limit h_pos h_sort h_start h_val h_tape p0) s.heap.size) s.heap s.heap [] := va_S.rf
  have hl := lv_entry ([.ref h, .int p0]) (n := 2) (Nat.le_of_ble_eq_true rfl)
  rw [lg_entry_eq]
  generalize (lg_sl ([.ref h, .int p0]) ++ List.replicate (2 - (lg_sl ([.ref h, .int p0])).length) Slot.unset).toArray = ls at hl ⊢
  have hl : lv_has ls 2 [(0, .ref h), (1, .int p0)] := hl
  have hP : va_P (dC, dI) vwCl [(h, .inr (3, [.ref h1, .int h_len0, .int h_limit, .int h_pos, .int h_sort, .int h_start, .int h_val])), (h1, .inl (cI, 400, .inl h_tape))] s.heap := hP
  have hD : va_D (va_A (ww_X3_cut dC dI cI cJ cB h h1 s.heap.size h_len0 h_limit h_pos h_sort h_start h_val h_tape p0) s.heap.size) [(h, .inr (3, [.ref h1, .int h_len0, .int h_limit, .int h_pos, .int h_sort, .int h_start, .int h_val])), (h1, .inl (cI, 400, .inl h_tape))] := hD
  obtain ⟨H, hH⟩ : ∃ H, H = s.heap := ⟨_, rfl⟩
  obtain ⟨locs, hlc⟩ : ∃ L : List Loc, L = [] := ⟨_, rfl⟩
  have hS : va_S (va_A (ww_X3_cut dC dI cI cJ cB h h1 s.heap.size h_len0 h_limit h_pos h_sort h_start h_val h_tape p0) s.heap.size) s.heap H locs := by rw [hH, hlc]; exact hS
  have hP : va_P (dC, dI) vwCl [(h, .inr (3, [.ref h1, .int h_len0, .int h_limit, .int h_pos, .int h_sort, .int h_start, .int h_val])), (h1, .inl (cI, 400, .inl h_tape))] H := by rw [hH]; exact hP
  suffices hgo : WW_X3_cut p l e s m below meth c dC dI cI cJ cB h h1 s.heap.size h_len0 h_limit h_pos h_sort h_start h_val h_tape p0 H locs (F0 m 0 ls []) by rw [hH, hlc] at hgo; exact hgo
  clear hH hlc
  refine lv_iload_n hx hb dX3_cut_0 rfl (lv_at hl 1 rfl) ?_
  refine lv_if_lt (tgt := 12) hx hb dX3_cut_1 (by decide) (fun c_1 => ?_) (fun c_1 => ?_)
  · have tc_1 : p0.toInt < 0 := tb_lt_t c_1
    refine lv_iconst (v := 0) hx hb dX3_cut_12 (by decide) ?_
    have hP9 := hP.sub (ws' := [(h, .inr (3, [.ref h1, .int h_len0, .int h_limit, .int h_pos, .int h_sort, .int h_start, .int h_val])), (h1, .inl (cI, 400, .inl h_tape))]) [0, 1] rfl
    have hD9 := hD.sub (ws' := [(h, .inr (3, [.ref h1, .int h_len0, .int h_limit, .int h_pos, .int h_sort, .int h_start, .int h_val])), (h1, .inl (cI, 400, .inl h_tape))]) [0, 1] (by decide) rfl
    have r9_0 : (0 ≤ p0.toInt ∧ p0.toInt ≤ h_len0.toInt → (0 : Int32) = 1 ∧ h_len0 = p0) ∧ (¬ (0 ≤ p0.toInt ∧ p0.toInt ≤ h_len0.toInt) → (0 : Int32) = 0 ∧ h_len0 = h_len0) := ⟨fun h => absurd h (by omega), fun _ => ⟨rfl, rfl⟩⟩
    exact W.zret (v := (0 : Int32)) hx hb hr rfl (fun t ht hW => ⟨⟨(0 : Int32), h_len0, rfl, r9_0, by rw [ht]; exact hP9, va_K.moved hW.alike hK, hD9⟩, hS.F ht⟩) hS.2.2 dX3_cut_13
  · have tc_1 : 0 ≤ p0.toInt := tb_lt_f c_1
    refine lv_iload_n hx hb dX3_cut_4 rfl (lv_at hl 1 rfl) ?_
    refine lv_aload_n hx hb dX3_cut_5 rfl (lv_at hl 0 rfl) ?_
    refine va_get (D := (dC, dI)) (ci := 3) (v := .int h_len0) (C := RX3) (T := TX3) (N := 7) hx hb hts kk1_ hown hK hP 0 rfl rfl 1 (by decide) kk0_ (fun _ h9 => h9) rfl dX3_cut_6 ?_
    refine lv_icmp_le (tgt := 14) hx hb dX3_cut_9 (by decide) (fun c_2 => ?_) (fun c_2 => ?_)
    · have tc_2 : p0.toInt ≤ h_len0.toInt := tb_le_t c_2
      have := ti_rng h_len0
      refine lv_aload_n hx hb dX3_cut_14 rfl (lv_at hl 0 rfl) ?_
      refine lv_iload_n hx hb dX3_cut_15 rfl (lv_at hl 1 rfl) ?_
      refine va_put (D := (dC, dI)) (ci := 3) (v := .int p0) (ty := .int) (C := RX3) (T := TX3) (N := 7) hx hb hts kk1_ tyX3 tyX3_ok nmX3 hown hK hP hD hS 0 rfl rfl 1 (by decide) kk0_ (fun _ h9 => h9) rfl (by decide +kernel) rfl rfl (Nat.le_of_ble_eq_true rfl) dX3_cut_16 (fun H locs hP hD hS => ?_)
      have hP : va_P (dC, dI) vwCl [(h, .inr (3, [.ref h1, .int p0, .int h_limit, .int h_pos, .int h_sort, .int h_start, .int h_val])), (h1, .inl (cI, 400, .inl h_tape))] H := hP
      have hD : va_D (va_A (ww_X3_cut dC dI cI cJ cB h h1 s.heap.size h_len0 h_limit h_pos h_sort h_start h_val h_tape p0) s.heap.size) [(h, .inr (3, [.ref h1, .int p0, .int h_limit, .int h_pos, .int h_sort, .int h_start, .int h_val])), (h1, .inl (cI, 400, .inl h_tape))] := hD
      refine lv_iconst (v := 1) hx hb dX3_cut_19 (by decide) ?_
      have hP9 := hP.sub (ws' := [(h, .inr (3, [.ref h1, .int p0, .int h_limit, .int h_pos, .int h_sort, .int h_start, .int h_val])), (h1, .inl (cI, 400, .inl h_tape))]) [0, 1] rfl
      have hD9 := hD.sub (ws' := [(h, .inr (3, [.ref h1, .int p0, .int h_limit, .int h_pos, .int h_sort, .int h_start, .int h_val])), (h1, .inl (cI, 400, .inl h_tape))]) [0, 1] (by decide) rfl
      have r9_0 : (0 ≤ p0.toInt ∧ p0.toInt ≤ h_len0.toInt → (1 : Int32) = 1 ∧ p0 = p0) ∧ (¬ (0 ≤ p0.toInt ∧ p0.toInt ≤ h_len0.toInt) → (1 : Int32) = 0 ∧ p0 = h_len0) := ⟨fun _ => ⟨rfl, rfl⟩, fun h => absurd (by omega) h⟩
      exact W.zret (v := (1 : Int32)) hx hb hr rfl (fun t ht hW => ⟨⟨(1 : Int32), p0, rfl, r9_0, by rw [ht]; exact hP9, va_K.moved hW.alike hK, hD9⟩, hS.F ht⟩) hS.2.2 dX3_cut_20
    · have tc_2 : h_len0.toInt < p0.toInt := tb_le_f c_2
      have := ti_rng h_len0
      refine lv_iconst (v := 0) hx hb dX3_cut_12 (by decide) ?_
      have hP9 := hP.sub (ws' := [(h, .inr (3, [.ref h1, .int h_len0, .int h_limit, .int h_pos, .int h_sort, .int h_start, .int h_val])), (h1, .inl (cI, 400, .inl h_tape))]) [0, 1] rfl
      have hD9 := hD.sub (ws' := [(h, .inr (3, [.ref h1, .int h_len0, .int h_limit, .int h_pos, .int h_sort, .int h_start, .int h_val])), (h1, .inl (cI, 400, .inl h_tape))]) [0, 1] (by decide) rfl
      have r9_0 : (0 ≤ p0.toInt ∧ p0.toInt ≤ h_len0.toInt → (0 : Int32) = 1 ∧ h_len0 = p0) ∧ (¬ (0 ≤ p0.toInt ∧ p0.toInt ≤ h_len0.toInt) → (0 : Int32) = 0 ∧ h_len0 = h_len0) := ⟨fun h => absurd h (by omega), fun _ => ⟨rfl, rfl⟩⟩
      exact W.zret (v := (0 : Int32)) hx hb hr rfl (fun t ht hW => ⟨⟨(0 : Int32), h_len0, rfl, r9_0, by rw [ht]; exact hP9, va_K.moved hW.alike hK, hD9⟩, hS.F ht⟩) hS.2.2 dX3_cut_13
def wo_X3_write : List Cond := .code yX3_write cX3_write 3 none :: (([.fieldLink RX3 15 "SumRewriter$Scanner" "length" "I", .fieldLink RX3 9 "SumRewriter$Scanner" "tape" "[I"] : List Cond) ++ ((wsX30)))
abbrev ww_X3_write (dC : Nat → ClassId) (dI : Nat → Nat → Nat) (cI cJ cB : ClassId) (h h1 : Nat) (sz : Nat) (h_len0 : Int32) (h_limit : Int32) (h_pos : Int32) (h_sort : Int32) (h_start : Int32) (h_val : Int32) (h_tape0 : Nat → Int32) (p0 : Int32) : va_W := [(h, .inr (3, [.ref h1, .int h_len0, .int h_limit, .int h_pos, .int h_sort, .int h_start, .int h_val])), (h1, .inl (cI, 400, .inl h_tape0))]
abbrev at_X3_write (dC : Nat → ClassId) (dI : Nat → Nat → Nat) (cI cJ cB : ClassId) (h h1 : Nat) (sz : Nat) (h_len0 : Int32) (h_limit : Int32) (h_pos : Int32) (h_sort : Int32) (h_start : Int32) (h_val : Int32) (h_tape0 : Nat → Int32) (p0 : Int32) (u : Int32 × (Nat → Int32)) (t : State) : Prop := match u with
  | (h_len, h_tape) => va_P (dC, dI) vwCl [(h, .inr (3, [.ref h1, .int h_len, .int h_limit, .int h_pos, .int h_sort, .int h_start, .int h_val])), (h1, .inl (cI, 400, .inl h_tape))] t.heap ∧ va_K (dC, dI) vwCl (tyL cI cJ cB) t ∧ va_D (va_A (ww_X3_write dC dI cI cJ cB h h1 sz h_len0 h_limit h_pos h_sort h_start h_val h_tape0 p0) sz) [(h, .inr (3, [.ref h1, .int h_len, .int h_limit, .int h_pos, .int h_sort, .int h_start, .int h_val])), (h1, .inl (cI, 400, .inl h_tape))]
abbrev qc_X3_write (dC : Nat → ClassId) (dI : Nat → Nat → Nat) (cI cJ cB : ClassId) (h h1 : Nat) (sz : Nat) (h_len0 : Int32) (h_limit : Int32) (h_pos : Int32) (h_sort : Int32) (h_start : Int32) (h_val : Int32) (h_tape0 : Nat → Int32) (p0 : Int32) : Array Value → State → Outcome → State → Prop := va_Qv (fun (u : Int32 × (Nat → Int32)) => match u with | (h_len, h_tape) => ((h_len).toInt = (h_len0).toInt + 4)) (at_X3_write dC dI cI cJ cB h h1 sz h_len0 h_limit h_pos h_sort h_start h_val h_tape0 p0) (va_A (ww_X3_write dC dI cI cJ cB h h1 sz h_len0 h_limit h_pos h_sort h_start h_val h_tape0 p0) sz)
abbrev pc_X3_write (dC : Nat → ClassId) (dI : Nat → Nat → Nat) (cI cJ cB : ClassId) (h h1 : Nat) (sz : Nat) (h_len0 : Int32) (h_limit : Int32) (h_pos : Int32) (h_sort : Int32) (h_start : Int32) (h_val : Int32) (h_tape0 : Nat → Int32) (p0 : Int32) : Array Value → State → Prop := va_Pc [.ref h, .int p0] (fun U => U.heap.size = sz ∧ NW U ∧ va_P (dC, dI) vwCl (ww_X3_write dC dI cI cJ cB h h1 sz h_len0 h_limit h_pos h_sort h_start h_val h_tape0 p0) U.heap ∧ va_K (dC, dI) vwCl (tyL cI cJ cB) U ∧ va_D (fun _ => True) (ww_X3_write dC dI cI cJ cB h h1 sz h_len0 h_limit h_pos h_sort h_start h_val h_tape0 p0))
abbrev rm_X3_write : Room := { frames := 0, cells := 0, slots := 0, locals := 0 }
abbrev WW_X3_write (p : Program) (l : Launch) (e : Env) (s : State) (m : MethodId) (below : List Frame) (meth : Method) (c : Code) (dC : Nat → ClassId) (dI : Nat → Nat → Nat) (cI cJ cB : ClassId) (h h1 : Nat) (sz : Nat) (h_len0 : Int32) (h_limit : Int32) (h_pos : Int32) (h_sort : Int32) (h_start : Int32) (h_val : Int32) (h_tape0 : Nat → Int32) (p0 : Int32) (H : Heap) (locs : List Loc) (g : JFrame) : Prop := W p l e rm_X3_write s m ([.ref h, .int p0] : List Value).toArray below meth c H locs 0 0 (MQ below (qc_X3_write dC dI cI cJ cB h h1 sz h_len0 h_limit h_pos h_sort h_start h_val h_tape0 p0) ([.ref h, .int p0] : List Value).toArray s 0 0 (va_A (ww_X3_write dC dI cI cJ cB h h1 sz h_len0 h_limit h_pos h_sort h_start h_val h_tape0 p0) sz)) g
set_option maxHeartbeats 4000000 in
set_option maxRecDepth 100000 in
theorem c_X3_write (l : Launch) (dC : Nat → ClassId) (dI : Nat → Nat → Nat) (cI cJ cB : ClassId) (h h1 : Nat) (sz : Nat) (h_len0 : Int32) (h_limit : Int32) (h_pos : Int32) (h_sort : Int32) (h_start : Int32) (h_val : Int32) (h_tape0 : Nat → Int32) (p0 : Int32) (hpre : 0 ≤ (h_len0).toInt ∧ (h_len0).toInt ≤ 396) : Met l yX3_write wo_X3_write rm_X3_write (pc_X3_write dC dI cI cJ cB h h1 sz h_len0 h_limit h_pos h_sort h_start h_val h_tape0 p0) (qc_X3_write dC dI cI cJ cB h h1 sz h_len0 h_limit h_pos h_sort h_start h_val h_tape0 p0) 0 0 (va_A (ww_X3_write dC dI cI cJ cB h h1 sz h_len0 h_limit h_pos h_sort h_start h_val h_tape0 p0) sz) := by
  refine Met.ofW (cc := cX3_write) (maxL := 3) (ret := none) (by decide) rfl ?_
  intro p e s m args below meth c s₁ B hml hv
  obtain ⟨rfl, hsz, hnw, hP, hK, hD0⟩ := hv
  have hx := B.exec
  have hb := B.bytes
  have hr := B.returns
  have hts := atoms_spec (ws := wo_X3_write) B.pre
  have hown : s.vm.findClass RX3 = some m.cls := findClass_of_methodNamed B.named
  have hlocks := B.notSynchronized
  clear B
  subst hsz
  have hD := hD0.self (sz := s.heap.size)
  clear hD0
  have kk0_ := hts (.fieldLink RX3 15 "SumRewriter$Scanner" "length" "I") (by decide +kernel)
  have kk1_ : ∀ w ∈ wsX30, w ∈ wo_X3_write := fun _ h => (List.mem_cons_of_mem _ (List.mem_append_right _ h))
  have kk2_ := hts (.fieldLink RX3 9 "SumRewriter$Scanner" "tape" "[I") (by decide +kernel)
  have hA : ∀ q : Nat, s.heap.size ≤ q → (va_A (ww_X3_write dC dI cI cJ cB h h1 s.heap.size h_len0 h_limit h_pos h_sort h_start h_val h_tape0 p0) s.heap.size) q := fun q h => Or.inr h
  have hS : va_S (va_A (ww_X3_write dC dI cI cJ cB h h1 s.heap.size h_len0 h_limit h_pos h_sort h_start h_val h_tape0 p0) s.heap.size) s.heap s.heap [] := va_S.rf
  have hl := lv_entry ([.ref h, .int p0]) (n := 3) (Nat.le_of_ble_eq_true rfl)
  rw [lg_entry_eq]
  generalize (lg_sl ([.ref h, .int p0]) ++ List.replicate (3 - (lg_sl ([.ref h, .int p0])).length) Slot.unset).toArray = ls at hl ⊢
  have hl : lv_has ls 3 [(0, .ref h), (1, .int p0)] := hl
  have hP : va_P (dC, dI) vwCl [(h, .inr (3, [.ref h1, .int h_len0, .int h_limit, .int h_pos, .int h_sort, .int h_start, .int h_val])), (h1, .inl (cI, 400, .inl h_tape0))] s.heap := hP
  have hD : va_D (va_A (ww_X3_write dC dI cI cJ cB h h1 s.heap.size h_len0 h_limit h_pos h_sort h_start h_val h_tape0 p0) s.heap.size) [(h, .inr (3, [.ref h1, .int h_len0, .int h_limit, .int h_pos, .int h_sort, .int h_start, .int h_val])), (h1, .inl (cI, 400, .inl h_tape0))] := hD
  obtain ⟨H, hH⟩ : ∃ H, H = s.heap := ⟨_, rfl⟩
  obtain ⟨locs, hlc⟩ : ∃ L : List Loc, L = [] := ⟨_, rfl⟩
  have hS : va_S (va_A (ww_X3_write dC dI cI cJ cB h h1 s.heap.size h_len0 h_limit h_pos h_sort h_start h_val h_tape0 p0) s.heap.size) s.heap H locs := by rw [hH, hlc]; exact hS
  have hP : va_P (dC, dI) vwCl [(h, .inr (3, [.ref h1, .int h_len0, .int h_limit, .int h_pos, .int h_sort, .int h_start, .int h_val])), (h1, .inl (cI, 400, .inl h_tape0))] H := by rw [hH]; exact hP
  suffices hgo : WW_X3_write p l e s m below meth c dC dI cI cJ cB h h1 s.heap.size h_len0 h_limit h_pos h_sort h_start h_val h_tape0 p0 H locs (F0 m 0 ls []) by rw [hH, hlc] at hgo; exact hgo
  clear hH hlc
  have L_3 : ∀ (N_3 : Nat), ∀ (x2 : Int32) (h_len : Int32) (h_tape : Nat → Int32), (8 * ((h_len).toInt - h_len0.toInt) = 24 - (x2 : Int32).toInt ∧ -8 ≤ (x2 : Int32).toInt ∧ (x2 : Int32).toInt ≤ 24) → (((x2 : Int32).toInt + 8).toNat) < N_3 → ∀ (H : Heap) (locs : List Loc), va_P (dC, dI) vwCl [(h, .inr (3, [.ref h1, .int h_len, .int h_limit, .int h_pos, .int h_sort, .int h_start, .int h_val])), (h1, .inl (cI, 400, .inl h_tape))] H → va_D (va_A (ww_X3_write dC dI cI cJ cB h h1 s.heap.size h_len0 h_limit h_pos h_sort h_start h_val h_tape0 p0) s.heap.size) [(h, .inr (3, [.ref h1, .int h_len, .int h_limit, .int h_pos, .int h_sort, .int h_start, .int h_val])), (h1, .inl (cI, 400, .inl h_tape))] → va_S (va_A (ww_X3_write dC dI cI cJ cB h h1 s.heap.size h_len0 h_limit h_pos h_sort h_start h_val h_tape0 p0) s.heap.size) s.heap H locs → ∀ ls : Array Slot, lv_has ls 3 [(0, .ref h), (1, .int p0), (2, .int x2)] → WW_X3_write p l e s m below meth c dC dI cI cJ cB h h1 s.heap.size h_len0 h_limit h_pos h_sort h_start h_val h_tape0 p0 H locs (F0 m 3 ls []) := by
    intro N_3
    induction N_3 with
    | zero => intro x2 h_len h_tape i3_0 hm; exact absurd hm (Nat.not_lt_zero _)
    | succ N_3 ih_3 =>
      intro x2 h_len h_tape i3_0 hm_3 H locs hP hD hS ls hl
      have J_52 : ∀ (x2 : Int32) (h_len : Int32) (h_tape : Nat → Int32), (8 * ((h_len).toInt - h_len0.toInt) = 32 - x2.toInt ∧ 0 ≤ x2.toInt ∧ x2.toInt ≤ 24) → ((((x2 : Int32).toInt + 8).toNat) < N_3 + 1) → ∀ (H : Heap) (locs : List Loc), va_P (dC, dI) vwCl [(h, .inr (3, [.ref h1, .int h_len, .int h_limit, .int h_pos, .int h_sort, .int h_start, .int h_val])), (h1, .inl (cI, 400, .inl h_tape))] H → va_D (va_A (ww_X3_write dC dI cI cJ cB h h1 s.heap.size h_len0 h_limit h_pos h_sort h_start h_val h_tape0 p0) s.heap.size) [(h, .inr (3, [.ref h1, .int h_len, .int h_limit, .int h_pos, .int h_sort, .int h_start, .int h_val])), (h1, .inl (cI, 400, .inl h_tape))] → va_S (va_A (ww_X3_write dC dI cI cJ cB h h1 s.heap.size h_len0 h_limit h_pos h_sort h_start h_val h_tape0 p0) s.heap.size) s.heap H locs → ∀ ls : Array Slot, lv_has ls 3 [(0, .ref h), (1, .int p0), (2, .int x2)] → WW_X3_write p l e s m below meth c dC dI cI cJ cB h h1 s.heap.size h_len0 h_limit h_pos h_sort h_start h_val h_tape0 p0 H locs (F0 m 52 ls []) := by
        intro x2 h_len h_tape i52_0 i52_1 H locs hP hD hS ls hl
        obtain ⟨x2_1, ex2_1⟩ : ∃ y : Int32, y = x2 + (-8) := ⟨_, rfl⟩
        refine lv_iinc (v := x2_1) (lv' := [(2, .int x2_1), (0, .ref h), (1, .int p0)]) hx hb dX3_write_52 hl (k := 2) rfl (by rw [ex2_1]; rfl) (by decide) rfl (fun ls hl => ?_)
        have := ti_rng x2
        have tex2_1 : x2_1.toInt = x2.toInt + (-8) := ti_inc ex2_1 (by decide) (by omega) (by omega)
        refine lv_goto (tgt := 3) hx hb dX3_write_55 (by decide) ?_
        exact ih_3 x2_1 h_len h_tape (by first | omega | (have : (24 : Int32).toInt = 24 := rfl; (try simp only [this]); omega)) (by omega) _ _ (hP.sub [0, 1] rfl) (hD.sub [0, 1] (by decide) rfl) hS ls (lv_sub hl [1, 2, 0] rfl)
      refine lv_iload_n hx hb dX3_write_3 rfl (lv_at hl 2 rfl) ?_
      refine lv_if_lt (tgt := 58) hx hb dX3_write_4 (by decide) (fun c_2 => ?_) (fun c_2 => ?_)
      · have tc_2 : x2.toInt < 0 := tb_lt_t c_2
        have hP9 := hP.sub (ws' := [(h, .inr (3, [.ref h1, .int h_len, .int h_limit, .int h_pos, .int h_sort, .int h_start, .int h_val])), (h1, .inl (cI, 400, .inl h_tape))]) [0, 1] rfl
        have hD9 := hD.sub (ws' := [(h, .inr (3, [.ref h1, .int h_len, .int h_limit, .int h_pos, .int h_sort, .int h_start, .int h_val])), (h1, .inl (cI, 400, .inl h_tape))]) [0, 1] (by decide) rfl
        have r9_0 : (h_len).toInt = (h_len0).toInt + 4 := by first | assumption | omega | decide | (simp only [lt0, lt1, ltm1, lt400] at *; omega)
        exact W.vret hx hb hr (fun t ht hW => ⟨⟨(h_len, h_tape), rfl, r9_0, by rw [ht]; exact hP9, va_K.moved hW.alike hK, hD9⟩, hS.F ht⟩) hS.2.2 dX3_write_58
      · have tc_2 : 0 ≤ x2.toInt := tb_lt_f c_2
        refine lv_aload_n hx hb dX3_write_7 rfl (lv_at hl 0 rfl) ?_
        refine va_get (D := (dC, dI)) (ci := 3) (v := .int h_len) (C := RX3) (T := TX3) (N := 7) hx hb hts kk1_ hown hK hP 0 rfl rfl 1 (by decide) kk0_ (fun _ h9 => h9) rfl dX3_write_8 ?_
        refine lv_if_lt (tgt := 52) hx hb dX3_write_11 (by decide) (fun c_3 => ?_) (fun c_3 => ?_)
        · have tc_3 : h_len.toInt < 0 := tb_lt_t c_3
          exact J_52 x2 h_len h_tape (by first | assumption | omega | decide | (simp only [lt0, lt1, ltm1, lt400] at *; omega)) (by first | assumption | omega | decide | (simp only [lt0, lt1, ltm1, lt400] at *; omega)) _ _ (hP.sub [0, 1] rfl) (hD.sub [0, 1] (by decide) rfl) hS ls (lv_sub hl [0, 1, 2] rfl)
        · have tc_3 : 0 ≤ h_len.toInt := tb_lt_f c_3
          refine lv_aload_n hx hb dX3_write_14 rfl (lv_at hl 0 rfl) ?_
          refine va_get (D := (dC, dI)) (ci := 3) (v := .int h_len) (C := RX3) (T := TX3) (N := 7) hx hb hts kk1_ hown hK hP 0 rfl rfl 1 (by decide) kk0_ (fun _ h9 => h9) rfl dX3_write_15 ?_
          refine lv_aload_n hx hb dX3_write_18 rfl (lv_at hl 0 rfl) ?_
          refine va_get (D := (dC, dI)) (ci := 3) (v := .ref h1) (C := RX3) (T := TX3) (N := 7) hx hb hts kk1_ hown hK hP 0 rfl rfl 0 (by decide) kk2_ (fun _ h9 => h9) rfl dX3_write_19 ?_
          refine va_alen (v := 400) hx hb hK hP 1 0 rfl rfl rfl dX3_write_22 ?_
          refine lv_icmp_ge (tgt := 52) hx hb dX3_write_23 (by decide) (fun c_4 => ?_) (fun c_4 => ?_)
          · have tc_4 : 400 ≤ h_len.toInt := tb_ge_t c_4
            exact J_52 x2 h_len h_tape (by first | assumption | omega | decide | (simp only [lt0, lt1, ltm1, lt400] at *; omega)) (by first | assumption | omega | decide | (simp only [lt0, lt1, ltm1, lt400] at *; omega)) _ _ (hP.sub [0, 1] rfl) (hD.sub [0, 1] (by decide) rfl) hS ls (lv_sub hl [0, 1, 2] rfl)
          · have tc_4 : h_len.toInt < 400 := tb_ge_f c_4
            refine lv_aload_n hx hb dX3_write_26 rfl (lv_at hl 0 rfl) ?_
            refine va_get (D := (dC, dI)) (ci := 3) (v := .ref h1) (C := RX3) (T := TX3) (N := 7) hx hb hts kk1_ hown hK hP 0 rfl rfl 0 (by decide) kk2_ (fun _ h9 => h9) rfl dX3_write_27 ?_
            refine lv_aload_n hx hb dX3_write_30 rfl (lv_at hl 0 rfl) ?_
            refine va_get (D := (dC, dI)) (ci := 3) (v := .int h_len) (C := RX3) (T := TX3) (N := 7) hx hb hts kk1_ hown hK hP 0 rfl rfl 1 (by decide) kk0_ (fun _ h9 => h9) rfl dX3_write_31 ?_
            refine lv_iload_n hx hb dX3_write_34 rfl (lv_at hl 1 rfl) ?_
            refine lv_iload_n hx hb dX3_write_35 rfl (lv_at hl 2 rfl) ?_
            refine lv_iushr hx hb dX3_write_36 rfl ?_
            refine lv_topi (fun y_5 ey_5 => ?_)
            refine lv_sipush (v := 255) hx hb dX3_write_37 (by decide) ?_
            refine lv_iand hx hb dX3_write_40 ?_
            refine lv_topi (fun y_6 ey_6 => ?_)
            have tey_6 := ti_mask (n := 255) ey_6 (by decide)
            refine va_iast hx hb hK hP hD hS 1 0 rfl rfl (vp_in_iff.mpr ⟨by omega, by omega⟩) dX3_write_41 (fun H locs hP hD hS => ?_)
            have hP : va_P (dC, dI) vwCl [(h, .inr (3, [.ref h1, .int h_len, .int h_limit, .int h_pos, .int h_sort, .int h_start, .int h_val])), (h1, .inl (cI, 400, .inl (upd h_tape (h_len).toNatClampNeg y_6)))] H := hP
            have hD : va_D (va_A (ww_X3_write dC dI cI cJ cB h h1 s.heap.size h_len0 h_limit h_pos h_sort h_start h_val h_tape0 p0) s.heap.size) [(h, .inr (3, [.ref h1, .int h_len, .int h_limit, .int h_pos, .int h_sort, .int h_start, .int h_val])), (h1, .inl (cI, 400, .inl (upd h_tape (h_len).toNatClampNeg y_6)))] := hD
            obtain ⟨f_7, ef_7⟩ : ∃ z, z = upd h_tape (h_len).toNatClampNeg y_6 := ⟨_, rfl⟩
            rw [← ef_7] at hP hD
            refine lv_aload_n hx hb dX3_write_42 rfl (lv_at hl 0 rfl) ?_
            refine lv_dup hx hb dX3_write_43 rfl ?_
            refine va_get (D := (dC, dI)) (ci := 3) (v := .int h_len) (C := RX3) (T := TX3) (N := 7) hx hb hts kk1_ hown hK hP 0 rfl rfl 1 (by decide) kk0_ (fun _ h9 => h9) rfl dX3_write_44 ?_
            refine lv_iconst (v := 1) hx hb dX3_write_47 (by decide) ?_
            refine lv_iadd hx hb dX3_write_48 ?_
            refine lv_topi (fun y_8 ey_8 => ?_)
            have tey_8 : y_8.toInt = h_len.toInt + 1 := ti_add2 ey_8 rfl (by decide) (by omega) (by omega)
            refine va_put (D := (dC, dI)) (ci := 3) (v := .int y_8) (ty := .int) (C := RX3) (T := TX3) (N := 7) hx hb hts kk1_ tyX3 tyX3_ok nmX3 hown hK hP hD hS 0 rfl rfl 1 (by decide) kk0_ (fun _ h9 => h9) rfl (by decide +kernel) rfl rfl (Nat.le_of_ble_eq_true rfl) dX3_write_49 (fun H locs hP hD hS => ?_)
            have hP : va_P (dC, dI) vwCl [(h, .inr (3, [.ref h1, .int y_8, .int h_limit, .int h_pos, .int h_sort, .int h_start, .int h_val])), (h1, .inl (cI, 400, .inl f_7))] H := hP
            have hD : va_D (va_A (ww_X3_write dC dI cI cJ cB h h1 s.heap.size h_len0 h_limit h_pos h_sort h_start h_val h_tape0 p0) s.heap.size) [(h, .inr (3, [.ref h1, .int y_8, .int h_limit, .int h_pos, .int h_sort, .int h_start, .int h_val])), (h1, .inl (cI, 400, .inl f_7))] := hD
            exact J_52 x2 y_8 f_7 (by first | assumption | omega | decide | (simp only [lt0, lt1, ltm1, lt400] at *; omega)) (by first | assumption | omega | decide | (simp only [lt0, lt1, ltm1, lt400] at *; omega)) _ _ (hP.sub [0, 1] rfl) (hD.sub [0, 1] (by decide) rfl) hS ls (lv_sub hl [0, 1, 2] rfl)
  refine lv_bipush (v := 24) hx hb dX3_write_0 (by decide) ?_
  refine lv_istore_n (lv' := [(2, .int ((24 : Int32))), (0, .ref h), (1, .int p0)]) hx hb dX3_write_2 rfl hl (by decide) rfl (fun ls hl => ?_)
  exact L_3 (((((24 : Int32) : Int32).toInt + 8).toNat) + 1) ((24 : Int32)) h_len0 h_tape0 (by first | omega | (have : (24 : Int32).toInt = 24 := rfl; (try simp only [this]); omega)) (Nat.lt_succ_self _) _ _ (hP.sub [0, 1] rfl) (hD.sub [0, 1] (by decide) rfl) hS ls (lv_sub hl [1, 2, 0] rfl)
def wo_X3_append : List Cond := .code yX3_append cX3_append 6 (some .int) :: (([.fieldLink RX3 15 "SumRewriter$Scanner" "length" "I"] : List Cond) ++ ((wsX30) ++ ((wsV RX3 19 RX3 yX3_write wo_X3_write))))
set_option maxRecDepth 20000 in
theorem go_wo_X3_append_1 : GoodIn wo_X3_append (wsV RX3 19 RX3 yX3_write wo_X3_write) := goodIn_sub (fun _ h => (List.mem_cons_of_mem _ (List.mem_append_right _ (List.mem_append_right _ h)))) (by decide +kernel)
abbrev ww_X3_append (dC : Nat → ClassId) (dI : Nat → Nat → Nat) (cI cJ cB : ClassId) (h h1 : Nat) (sz : Nat) (h_len0 : Int32) (h_limit : Int32) (h_pos : Int32) (h_sort : Int32) (h_start : Int32) (h_val : Int32) (h_tape0 : Nat → Int32) (p0 : Int32) (p1 : Int32) (p2 : Int32) (p3 : Int32) (p4 : Int32) : va_W := [(h, .inr (3, [.ref h1, .int h_len0, .int h_limit, .int h_pos, .int h_sort, .int h_start, .int h_val])), (h1, .inl (cI, 400, .inl h_tape0))]
abbrev at_X3_append (dC : Nat → ClassId) (dI : Nat → Nat → Nat) (cI cJ cB : ClassId) (h h1 : Nat) (sz : Nat) (h_len0 : Int32) (h_limit : Int32) (h_pos : Int32) (h_sort : Int32) (h_start : Int32) (h_val : Int32) (h_tape0 : Nat → Int32) (p0 : Int32) (p1 : Int32) (p2 : Int32) (p3 : Int32) (p4 : Int32) (u : Int32 × (Nat → Int32)) (t : State) : Prop := match u with
  | (h_len, h_tape) => va_P (dC, dI) vwCl [(h, .inr (3, [.ref h1, .int h_len, .int h_limit, .int h_pos, .int h_sort, .int h_start, .int h_val])), (h1, .inl (cI, 400, .inl h_tape))] t.heap ∧ va_K (dC, dI) vwCl (tyL cI cJ cB) t ∧ va_D (va_A (ww_X3_append dC dI cI cJ cB h h1 sz h_len0 h_limit h_pos h_sort h_start h_val h_tape0 p0 p1 p2 p3 p4) sz) [(h, .inr (3, [.ref h1, .int h_len, .int h_limit, .int h_pos, .int h_sort, .int h_start, .int h_val])), (h1, .inl (cI, 400, .inl h_tape))]
abbrev qc_X3_append (dC : Nat → ClassId) (dI : Nat → Nat → Nat) (cI cJ cB : ClassId) (h h1 : Nat) (sz : Nat) (h_len0 : Int32) (h_limit : Int32) (h_pos : Int32) (h_sort : Int32) (h_start : Int32) (h_val : Int32) (h_tape0 : Nat → Int32) (p0 : Int32) (p1 : Int32) (p2 : Int32) (p3 : Int32) (p4 : Int32) : Array Value → State → Outcome → State → Prop := va_Qi (fun (r : Int32) (u : Int32 × (Nat → Int32)) => match u with | (h_len, h_tape) => ((380 < (h_len0).toInt → r = -1 ∧ h_len = h_len0) ∧ ((h_len0).toInt ≤ 380 → r = h_len ∧ (h_len).toInt = (h_len0).toInt + 20))) (at_X3_append dC dI cI cJ cB h h1 sz h_len0 h_limit h_pos h_sort h_start h_val h_tape0 p0 p1 p2 p3 p4) (va_A (ww_X3_append dC dI cI cJ cB h h1 sz h_len0 h_limit h_pos h_sort h_start h_val h_tape0 p0 p1 p2 p3 p4) sz)
abbrev pc_X3_append (dC : Nat → ClassId) (dI : Nat → Nat → Nat) (cI cJ cB : ClassId) (h h1 : Nat) (sz : Nat) (h_len0 : Int32) (h_limit : Int32) (h_pos : Int32) (h_sort : Int32) (h_start : Int32) (h_val : Int32) (h_tape0 : Nat → Int32) (p0 : Int32) (p1 : Int32) (p2 : Int32) (p3 : Int32) (p4 : Int32) : Array Value → State → Prop := va_Pc [.ref h, .int p0, .int p1, .int p2, .int p3, .int p4] (fun U => U.heap.size = sz ∧ NW U ∧ va_P (dC, dI) vwCl (ww_X3_append dC dI cI cJ cB h h1 sz h_len0 h_limit h_pos h_sort h_start h_val h_tape0 p0 p1 p2 p3 p4) U.heap ∧ va_K (dC, dI) vwCl (tyL cI cJ cB) U ∧ va_D (fun _ => True) (ww_X3_append dC dI cI cJ cB h h1 sz h_len0 h_limit h_pos h_sort h_start h_val h_tape0 p0 p1 p2 p3 p4))
abbrev rm_X3_append : Room := { frames := 1, cells := 0, slots := 0, locals := 22 }
abbrev WW_X3_append (p : Program) (l : Launch) (e : Env) (s : State) (m : MethodId) (below : List Frame) (meth : Method) (c : Code) (dC : Nat → ClassId) (dI : Nat → Nat → Nat) (cI cJ cB : ClassId) (h h1 : Nat) (sz : Nat) (h_len0 : Int32) (h_limit : Int32) (h_pos : Int32) (h_sort : Int32) (h_start : Int32) (h_val : Int32) (h_tape0 : Nat → Int32) (p0 : Int32) (p1 : Int32) (p2 : Int32) (p3 : Int32) (p4 : Int32) (H : Heap) (locs : List Loc) (g : JFrame) : Prop := W p l e rm_X3_append s m ([.ref h, .int p0, .int p1, .int p2, .int p3, .int p4] : List Value).toArray below meth c H locs 0 0 (MQ below (qc_X3_append dC dI cI cJ cB h h1 sz h_len0 h_limit h_pos h_sort h_start h_val h_tape0 p0 p1 p2 p3 p4) ([.ref h, .int p0, .int p1, .int p2, .int p3, .int p4] : List Value).toArray s 0 0 (va_A (ww_X3_append dC dI cI cJ cB h h1 sz h_len0 h_limit h_pos h_sort h_start h_val h_tape0 p0 p1 p2 p3 p4) sz)) g
set_option maxHeartbeats 4000000 in
set_option maxRecDepth 100000 in
theorem c_X3_append (l : Launch) (dC : Nat → ClassId) (dI : Nat → Nat → Nat) (cI cJ cB : ClassId) (h h1 : Nat) (sz : Nat) (h_len0 : Int32) (h_limit : Int32) (h_pos : Int32) (h_sort : Int32) (h_start : Int32) (h_val : Int32) (h_tape0 : Nat → Int32) (p0 : Int32) (p1 : Int32) (p2 : Int32) (p3 : Int32) (p4 : Int32) (hpre : 0 ≤ (h_len0).toInt ∧ (h_len0).toInt ≤ 400) : Met l yX3_append wo_X3_append rm_X3_append (pc_X3_append dC dI cI cJ cB h h1 sz h_len0 h_limit h_pos h_sort h_start h_val h_tape0 p0 p1 p2 p3 p4) (qc_X3_append dC dI cI cJ cB h h1 sz h_len0 h_limit h_pos h_sort h_start h_val h_tape0 p0 p1 p2 p3 p4) 0 0 (va_A (ww_X3_append dC dI cI cJ cB h h1 sz h_len0 h_limit h_pos h_sort h_start h_val h_tape0 p0 p1 p2 p3 p4) sz) := by
  refine Met.ofW (cc := cX3_append) (maxL := 6) (ret := (some .int)) (by decide) rfl ?_
  intro p e s m args below meth c s₁ B hml hv
  obtain ⟨rfl, hsz, hnw, hP, hK, hD0⟩ := hv
  have hx := B.exec
  have hb := B.bytes
  have hr := B.returns
  have hts := atoms_spec (ws := wo_X3_append) B.pre
  have hown : s.vm.findClass RX3 = some m.cls := findClass_of_methodNamed B.named
  have hlocks := B.notSynchronized
  clear B
  subst hsz
  have hD := hD0.self (sz := s.heap.size)
  clear hD0
  have kk0_ := hts (.fieldLink RX3 15 "SumRewriter$Scanner" "length" "I") (by decide +kernel)
  have kk1_ : ∀ w ∈ wsX30, w ∈ wo_X3_append := fun _ h => (List.mem_cons_of_mem _ (List.mem_append_right _ (List.mem_append_left _ h)))
  have hA : ∀ q : Nat, s.heap.size ≤ q → (va_A (ww_X3_append dC dI cI cJ cB h h1 s.heap.size h_len0 h_limit h_pos h_sort h_start h_val h_tape0 p0 p1 p2 p3 p4) s.heap.size) q := fun q h => Or.inr h
  have hS : va_S (va_A (ww_X3_append dC dI cI cJ cB h h1 s.heap.size h_len0 h_limit h_pos h_sort h_start h_val h_tape0 p0 p1 p2 p3 p4) s.heap.size) s.heap s.heap [] := va_S.rf
  have hl := lv_entry ([.ref h, .int p0, .int p1, .int p2, .int p3, .int p4]) (n := 6) (Nat.le_of_ble_eq_true rfl)
  rw [lg_entry_eq]
  generalize (lg_sl ([.ref h, .int p0, .int p1, .int p2, .int p3, .int p4]) ++ List.replicate (6 - (lg_sl ([.ref h, .int p0, .int p1, .int p2, .int p3, .int p4])).length) Slot.unset).toArray = ls at hl ⊢
  have hl : lv_has ls 6 [(0, .ref h), (1, .int p0), (2, .int p1), (3, .int p2), (4, .int p3), (5, .int p4)] := hl
  have hP : va_P (dC, dI) vwCl [(h, .inr (3, [.ref h1, .int h_len0, .int h_limit, .int h_pos, .int h_sort, .int h_start, .int h_val])), (h1, .inl (cI, 400, .inl h_tape0))] s.heap := hP
  have hD : va_D (va_A (ww_X3_append dC dI cI cJ cB h h1 s.heap.size h_len0 h_limit h_pos h_sort h_start h_val h_tape0 p0 p1 p2 p3 p4) s.heap.size) [(h, .inr (3, [.ref h1, .int h_len0, .int h_limit, .int h_pos, .int h_sort, .int h_start, .int h_val])), (h1, .inl (cI, 400, .inl h_tape0))] := hD
  obtain ⟨H, hH⟩ : ∃ H, H = s.heap := ⟨_, rfl⟩
  obtain ⟨locs, hlc⟩ : ∃ L : List Loc, L = [] := ⟨_, rfl⟩
  have hS : va_S (va_A (ww_X3_append dC dI cI cJ cB h h1 s.heap.size h_len0 h_limit h_pos h_sort h_start h_val h_tape0 p0 p1 p2 p3 p4) s.heap.size) s.heap H locs := by rw [hH, hlc]; exact hS
  have hP : va_P (dC, dI) vwCl [(h, .inr (3, [.ref h1, .int h_len0, .int h_limit, .int h_pos, .int h_sort, .int h_start, .int h_val])), (h1, .inl (cI, 400, .inl h_tape0))] H := by rw [hH]; exact hP
  suffices hgo : WW_X3_append p l e s m below meth c dC dI cI cJ cB h h1 s.heap.size h_len0 h_limit h_pos h_sort h_start h_val h_tape0 p0 p1 p2 p3 p4 H locs (F0 m 0 ls []) by rw [hH, hlc] at hgo; exact hgo
  clear hH hlc
  refine lv_aload_n hx hb dX3_append_0 rfl (lv_at hl 0 rfl) ?_
  refine va_get (D := (dC, dI)) (ci := 3) (v := .int h_len0) (C := RX3) (T := TX3) (N := 7) hx hb hts kk1_ hown hK hP 0 rfl rfl 1 (by decide) kk0_ (fun _ h9 => h9) rfl dX3_append_1 ?_
  refine lv_sipush (v := 380) hx hb dX3_append_4 (by decide) ?_
  refine lv_icmp_le (tgt := 12) hx hb dX3_append_7 (by decide) (fun c_1 => ?_) (fun c_1 => ?_)
  · have tc_1 : h_len0.toInt ≤ 380 := tb_le_t c_1
    refine lv_aload_n hx hb dX3_append_12 rfl (lv_at hl 0 rfl) ?_
    refine lv_iload_n hx hb dX3_append_13 rfl (lv_at hl 1 rfl) ?_
    have hPc := hP.sub (ws' := [(h, .inr (3, [.ref h1, .int h_len0, .int h_limit, .int h_pos, .int h_sort, .int h_start, .int h_val])), (h1, .inl (cI, 400, .inl h_tape0))]) [0, 1] rfl
    have hDc := hD.sub (ws' := [(h, .inr (3, [.ref h1, .int h_len0, .int h_limit, .int h_pos, .int h_sort, .int h_start, .int h_val])), (h1, .inl (cI, 400, .inl h_tape0))]) [0, 1] (by decide) rfl
    have hFc := va_free (wc := [(h, .inr (3, [.ref h1, .int h_len0, .int h_limit, .int h_pos, .int h_sort, .int h_start, .int h_val])), (h1, .inl (cI, 400, .inl h_tape0))]) hD hS hA [0, 1] rfl
    refine va_callv (va_runV (As := [.int p0]) (rest := []) ⟨hx, hb, hml, hown, hts⟩ (c_X3_write l dC dI cI cJ cB h h1 H.size h_len0 h_limit h_pos h_sort h_start h_val h_tape0 p0 (by first | assumption | omega | decide | (simp only [lt0, lt1, ltm1, lt400] at *; omega))) (cwV 1 hts go_wo_X3_append_1 rfl rfl rfl (by decide +kernel) ⟨Nat.le_of_ble_eq_true rfl, Nat.le_of_ble_eq_true rfl⟩) ⟨fun a U g mk q => by obtain ⟨q0, q1, qN, qP, qK, qD⟩ := q; exact ⟨q0, q1, NW.calling qN, qP, va_K.moved (u := U) (U := U.calling g mk a) (Vm.Alike.refl U.vm) qK, qD⟩, va_recv hK hPc (ci := 3) (q0 := 0) rfl rfl, fun U hU hW => ⟨rfl, by rw [hU], NW.warm hW hnw, by rw [hU]; exact hPc, va_K.moved hW.alike hK, hDc.weaken (fun _ _ _ _ => trivial)⟩⟩ rfl rfl hl.1 rfl (lv_room (Nat.le_of_ble_eq_true rfl)) dX3_append_14 ⟨Nat.zero_le _, Nat.zero_le _⟩) hS (fun q _ h => hFc q h) hFc (fun u t H1 locs ht hvm hw hB hz1 hk1 hS => ?_)
    obtain ⟨h_len_3, h_tape_4⟩ := u
    obtain ⟨hP1, hK1, hD1⟩ := hB
    rw [ht] at hP1
    have hw : ((h_len_3).toInt = (h_len0).toInt + 4) := hw
    have h_5 := hw
    obtain ⟨hP, hD⟩ := va_join (wr := []) (w1 := [(h, .inr (3, [.ref h1, .int h_len_3, .int h_limit, .int h_pos, .int h_sort, .int h_start, .int h_val])), (h1, .inl (cI, 400, .inl h_tape_4))]) hP hD [0, 1] [] rfl rfl (by decide) (by decide) hk1 hFc hP1 hD1
    generalize H1 = H at hP hS ⊢
    have hP : va_P (dC, dI) vwCl [(h, .inr (3, [.ref h1, .int h_len_3, .int h_limit, .int h_pos, .int h_sort, .int h_start, .int h_val])), (h1, .inl (cI, 400, .inl h_tape_4))] H := hP
    have hD : va_D (va_A (ww_X3_append dC dI cI cJ cB h h1 s.heap.size h_len0 h_limit h_pos h_sort h_start h_val h_tape0 p0 p1 p2 p3 p4) s.heap.size) [(h, .inr (3, [.ref h1, .int h_len_3, .int h_limit, .int h_pos, .int h_sort, .int h_start, .int h_val])), (h1, .inl (cI, 400, .inl h_tape_4))] := hD
    clear hPc hDc hFc hP1 hK1 hD1 hk1 hz1 ht hvm
    refine lv_aload_n hx hb dX3_append_17 rfl (lv_at hl 0 rfl) ?_
    refine lv_iload_n hx hb dX3_append_18 rfl (lv_at hl 2 rfl) ?_
    have hPc := hP.sub (ws' := [(h, .inr (3, [.ref h1, .int h_len_3, .int h_limit, .int h_pos, .int h_sort, .int h_start, .int h_val])), (h1, .inl (cI, 400, .inl h_tape_4))]) [0, 1] rfl
    have hDc := hD.sub (ws' := [(h, .inr (3, [.ref h1, .int h_len_3, .int h_limit, .int h_pos, .int h_sort, .int h_start, .int h_val])), (h1, .inl (cI, 400, .inl h_tape_4))]) [0, 1] (by decide) rfl
    have hFc := va_free (wc := [(h, .inr (3, [.ref h1, .int h_len_3, .int h_limit, .int h_pos, .int h_sort, .int h_start, .int h_val])), (h1, .inl (cI, 400, .inl h_tape_4))]) hD hS hA [0, 1] rfl
    refine va_callv (va_runV (As := [.int p1]) (rest := []) ⟨hx, hb, hml, hown, hts⟩ (c_X3_write l dC dI cI cJ cB h h1 H.size h_len_3 h_limit h_pos h_sort h_start h_val h_tape_4 p1 (by first | assumption | omega | decide | (simp only [lt0, lt1, ltm1, lt400] at *; omega))) (cwV 1 hts go_wo_X3_append_1 rfl rfl rfl (by decide +kernel) ⟨Nat.le_of_ble_eq_true rfl, Nat.le_of_ble_eq_true rfl⟩) ⟨fun a U g mk q => by obtain ⟨q0, q1, qN, qP, qK, qD⟩ := q; exact ⟨q0, q1, NW.calling qN, qP, va_K.moved (u := U) (U := U.calling g mk a) (Vm.Alike.refl U.vm) qK, qD⟩, va_recv hK hPc (ci := 3) (q0 := 0) rfl rfl, fun U hU hW => ⟨rfl, by rw [hU], NW.warm hW hnw, by rw [hU]; exact hPc, va_K.moved hW.alike hK, hDc.weaken (fun _ _ _ _ => trivial)⟩⟩ rfl rfl hl.1 rfl (lv_room (Nat.le_of_ble_eq_true rfl)) dX3_append_19 ⟨Nat.zero_le _, Nat.zero_le _⟩) hS (fun q _ h => hFc q h) hFc (fun u t H1 locs ht hvm hw hB hz1 hk1 hS => ?_)
    obtain ⟨h_len_7, h_tape_8⟩ := u
    obtain ⟨hP1, hK1, hD1⟩ := hB
    rw [ht] at hP1
    have hw : ((h_len_7).toInt = (h_len_3).toInt + 4) := hw
    have h_9 := hw
    obtain ⟨hP, hD⟩ := va_join (wr := []) (w1 := [(h, .inr (3, [.ref h1, .int h_len_7, .int h_limit, .int h_pos, .int h_sort, .int h_start, .int h_val])), (h1, .inl (cI, 400, .inl h_tape_8))]) hP hD [0, 1] [] rfl rfl (by decide) (by decide) hk1 hFc hP1 hD1
    generalize H1 = H at hP hS ⊢
    have hP : va_P (dC, dI) vwCl [(h, .inr (3, [.ref h1, .int h_len_7, .int h_limit, .int h_pos, .int h_sort, .int h_start, .int h_val])), (h1, .inl (cI, 400, .inl h_tape_8))] H := hP
    have hD : va_D (va_A (ww_X3_append dC dI cI cJ cB h h1 s.heap.size h_len0 h_limit h_pos h_sort h_start h_val h_tape0 p0 p1 p2 p3 p4) s.heap.size) [(h, .inr (3, [.ref h1, .int h_len_7, .int h_limit, .int h_pos, .int h_sort, .int h_start, .int h_val])), (h1, .inl (cI, 400, .inl h_tape_8))] := hD
    clear hPc hDc hFc hP1 hK1 hD1 hk1 hz1 ht hvm
    refine lv_aload_n hx hb dX3_append_22 rfl (lv_at hl 0 rfl) ?_
    refine lv_iload_n hx hb dX3_append_23 rfl (lv_at hl 3 rfl) ?_
    have hPc := hP.sub (ws' := [(h, .inr (3, [.ref h1, .int h_len_7, .int h_limit, .int h_pos, .int h_sort, .int h_start, .int h_val])), (h1, .inl (cI, 400, .inl h_tape_8))]) [0, 1] rfl
    have hDc := hD.sub (ws' := [(h, .inr (3, [.ref h1, .int h_len_7, .int h_limit, .int h_pos, .int h_sort, .int h_start, .int h_val])), (h1, .inl (cI, 400, .inl h_tape_8))]) [0, 1] (by decide) rfl
    have hFc := va_free (wc := [(h, .inr (3, [.ref h1, .int h_len_7, .int h_limit, .int h_pos, .int h_sort, .int h_start, .int h_val])), (h1, .inl (cI, 400, .inl h_tape_8))]) hD hS hA [0, 1] rfl
    refine va_callv (va_runV (As := [.int p2]) (rest := []) ⟨hx, hb, hml, hown, hts⟩ (c_X3_write l dC dI cI cJ cB h h1 H.size h_len_7 h_limit h_pos h_sort h_start h_val h_tape_8 p2 (by first | assumption | omega | decide | (simp only [lt0, lt1, ltm1, lt400] at *; omega))) (cwV 1 hts go_wo_X3_append_1 rfl rfl rfl (by decide +kernel) ⟨Nat.le_of_ble_eq_true rfl, Nat.le_of_ble_eq_true rfl⟩) ⟨fun a U g mk q => by obtain ⟨q0, q1, qN, qP, qK, qD⟩ := q; exact ⟨q0, q1, NW.calling qN, qP, va_K.moved (u := U) (U := U.calling g mk a) (Vm.Alike.refl U.vm) qK, qD⟩, va_recv hK hPc (ci := 3) (q0 := 0) rfl rfl, fun U hU hW => ⟨rfl, by rw [hU], NW.warm hW hnw, by rw [hU]; exact hPc, va_K.moved hW.alike hK, hDc.weaken (fun _ _ _ _ => trivial)⟩⟩ rfl rfl hl.1 rfl (lv_room (Nat.le_of_ble_eq_true rfl)) dX3_append_24 ⟨Nat.zero_le _, Nat.zero_le _⟩) hS (fun q _ h => hFc q h) hFc (fun u t H1 locs ht hvm hw hB hz1 hk1 hS => ?_)
    obtain ⟨h_len_11, h_tape_12⟩ := u
    obtain ⟨hP1, hK1, hD1⟩ := hB
    rw [ht] at hP1
    have hw : ((h_len_11).toInt = (h_len_7).toInt + 4) := hw
    have h_13 := hw
    obtain ⟨hP, hD⟩ := va_join (wr := []) (w1 := [(h, .inr (3, [.ref h1, .int h_len_11, .int h_limit, .int h_pos, .int h_sort, .int h_start, .int h_val])), (h1, .inl (cI, 400, .inl h_tape_12))]) hP hD [0, 1] [] rfl rfl (by decide) (by decide) hk1 hFc hP1 hD1
    generalize H1 = H at hP hS ⊢
    have hP : va_P (dC, dI) vwCl [(h, .inr (3, [.ref h1, .int h_len_11, .int h_limit, .int h_pos, .int h_sort, .int h_start, .int h_val])), (h1, .inl (cI, 400, .inl h_tape_12))] H := hP
    have hD : va_D (va_A (ww_X3_append dC dI cI cJ cB h h1 s.heap.size h_len0 h_limit h_pos h_sort h_start h_val h_tape0 p0 p1 p2 p3 p4) s.heap.size) [(h, .inr (3, [.ref h1, .int h_len_11, .int h_limit, .int h_pos, .int h_sort, .int h_start, .int h_val])), (h1, .inl (cI, 400, .inl h_tape_12))] := hD
    clear hPc hDc hFc hP1 hK1 hD1 hk1 hz1 ht hvm
    refine lv_aload_n hx hb dX3_append_27 rfl (lv_at hl 0 rfl) ?_
    refine lv_iload hx hb dX3_append_28 (lv_at hl 4 rfl) ?_
    have hPc := hP.sub (ws' := [(h, .inr (3, [.ref h1, .int h_len_11, .int h_limit, .int h_pos, .int h_sort, .int h_start, .int h_val])), (h1, .inl (cI, 400, .inl h_tape_12))]) [0, 1] rfl
    have hDc := hD.sub (ws' := [(h, .inr (3, [.ref h1, .int h_len_11, .int h_limit, .int h_pos, .int h_sort, .int h_start, .int h_val])), (h1, .inl (cI, 400, .inl h_tape_12))]) [0, 1] (by decide) rfl
    have hFc := va_free (wc := [(h, .inr (3, [.ref h1, .int h_len_11, .int h_limit, .int h_pos, .int h_sort, .int h_start, .int h_val])), (h1, .inl (cI, 400, .inl h_tape_12))]) hD hS hA [0, 1] rfl
    refine va_callv (va_runV (As := [.int p3]) (rest := []) ⟨hx, hb, hml, hown, hts⟩ (c_X3_write l dC dI cI cJ cB h h1 H.size h_len_11 h_limit h_pos h_sort h_start h_val h_tape_12 p3 (by first | assumption | omega | decide | (simp only [lt0, lt1, ltm1, lt400] at *; omega))) (cwV 1 hts go_wo_X3_append_1 rfl rfl rfl (by decide +kernel) ⟨Nat.le_of_ble_eq_true rfl, Nat.le_of_ble_eq_true rfl⟩) ⟨fun a U g mk q => by obtain ⟨q0, q1, qN, qP, qK, qD⟩ := q; exact ⟨q0, q1, NW.calling qN, qP, va_K.moved (u := U) (U := U.calling g mk a) (Vm.Alike.refl U.vm) qK, qD⟩, va_recv hK hPc (ci := 3) (q0 := 0) rfl rfl, fun U hU hW => ⟨rfl, by rw [hU], NW.warm hW hnw, by rw [hU]; exact hPc, va_K.moved hW.alike hK, hDc.weaken (fun _ _ _ _ => trivial)⟩⟩ rfl rfl hl.1 rfl (lv_room (Nat.le_of_ble_eq_true rfl)) dX3_append_30 ⟨Nat.zero_le _, Nat.zero_le _⟩) hS (fun q _ h => hFc q h) hFc (fun u t H1 locs ht hvm hw hB hz1 hk1 hS => ?_)
    obtain ⟨h_len_15, h_tape_16⟩ := u
    obtain ⟨hP1, hK1, hD1⟩ := hB
    rw [ht] at hP1
    have hw : ((h_len_15).toInt = (h_len_11).toInt + 4) := hw
    have h_17 := hw
    obtain ⟨hP, hD⟩ := va_join (wr := []) (w1 := [(h, .inr (3, [.ref h1, .int h_len_15, .int h_limit, .int h_pos, .int h_sort, .int h_start, .int h_val])), (h1, .inl (cI, 400, .inl h_tape_16))]) hP hD [0, 1] [] rfl rfl (by decide) (by decide) hk1 hFc hP1 hD1
    generalize H1 = H at hP hS ⊢
    have hP : va_P (dC, dI) vwCl [(h, .inr (3, [.ref h1, .int h_len_15, .int h_limit, .int h_pos, .int h_sort, .int h_start, .int h_val])), (h1, .inl (cI, 400, .inl h_tape_16))] H := hP
    have hD : va_D (va_A (ww_X3_append dC dI cI cJ cB h h1 s.heap.size h_len0 h_limit h_pos h_sort h_start h_val h_tape0 p0 p1 p2 p3 p4) s.heap.size) [(h, .inr (3, [.ref h1, .int h_len_15, .int h_limit, .int h_pos, .int h_sort, .int h_start, .int h_val])), (h1, .inl (cI, 400, .inl h_tape_16))] := hD
    clear hPc hDc hFc hP1 hK1 hD1 hk1 hz1 ht hvm
    refine lv_aload_n hx hb dX3_append_33 rfl (lv_at hl 0 rfl) ?_
    refine lv_iload hx hb dX3_append_34 (lv_at hl 5 rfl) ?_
    have hPc := hP.sub (ws' := [(h, .inr (3, [.ref h1, .int h_len_15, .int h_limit, .int h_pos, .int h_sort, .int h_start, .int h_val])), (h1, .inl (cI, 400, .inl h_tape_16))]) [0, 1] rfl
    have hDc := hD.sub (ws' := [(h, .inr (3, [.ref h1, .int h_len_15, .int h_limit, .int h_pos, .int h_sort, .int h_start, .int h_val])), (h1, .inl (cI, 400, .inl h_tape_16))]) [0, 1] (by decide) rfl
    have hFc := va_free (wc := [(h, .inr (3, [.ref h1, .int h_len_15, .int h_limit, .int h_pos, .int h_sort, .int h_start, .int h_val])), (h1, .inl (cI, 400, .inl h_tape_16))]) hD hS hA [0, 1] rfl
    refine va_callv (va_runV (As := [.int p4]) (rest := []) ⟨hx, hb, hml, hown, hts⟩ (c_X3_write l dC dI cI cJ cB h h1 H.size h_len_15 h_limit h_pos h_sort h_start h_val h_tape_16 p4 (by first | assumption | omega | decide | (simp only [lt0, lt1, ltm1, lt400] at *; omega))) (cwV 1 hts go_wo_X3_append_1 rfl rfl rfl (by decide +kernel) ⟨Nat.le_of_ble_eq_true rfl, Nat.le_of_ble_eq_true rfl⟩) ⟨fun a U g mk q => by obtain ⟨q0, q1, qN, qP, qK, qD⟩ := q; exact ⟨q0, q1, NW.calling qN, qP, va_K.moved (u := U) (U := U.calling g mk a) (Vm.Alike.refl U.vm) qK, qD⟩, va_recv hK hPc (ci := 3) (q0 := 0) rfl rfl, fun U hU hW => ⟨rfl, by rw [hU], NW.warm hW hnw, by rw [hU]; exact hPc, va_K.moved hW.alike hK, hDc.weaken (fun _ _ _ _ => trivial)⟩⟩ rfl rfl hl.1 rfl (lv_room (Nat.le_of_ble_eq_true rfl)) dX3_append_36 ⟨Nat.zero_le _, Nat.zero_le _⟩) hS (fun q _ h => hFc q h) hFc (fun u t H1 locs ht hvm hw hB hz1 hk1 hS => ?_)
    obtain ⟨h_len_19, h_tape_20⟩ := u
    obtain ⟨hP1, hK1, hD1⟩ := hB
    rw [ht] at hP1
    have hw : ((h_len_19).toInt = (h_len_15).toInt + 4) := hw
    have h_21 := hw
    obtain ⟨hP, hD⟩ := va_join (wr := []) (w1 := [(h, .inr (3, [.ref h1, .int h_len_19, .int h_limit, .int h_pos, .int h_sort, .int h_start, .int h_val])), (h1, .inl (cI, 400, .inl h_tape_20))]) hP hD [0, 1] [] rfl rfl (by decide) (by decide) hk1 hFc hP1 hD1
    generalize H1 = H at hP hS ⊢
    have hP : va_P (dC, dI) vwCl [(h, .inr (3, [.ref h1, .int h_len_19, .int h_limit, .int h_pos, .int h_sort, .int h_start, .int h_val])), (h1, .inl (cI, 400, .inl h_tape_20))] H := hP
    have hD : va_D (va_A (ww_X3_append dC dI cI cJ cB h h1 s.heap.size h_len0 h_limit h_pos h_sort h_start h_val h_tape0 p0 p1 p2 p3 p4) s.heap.size) [(h, .inr (3, [.ref h1, .int h_len_19, .int h_limit, .int h_pos, .int h_sort, .int h_start, .int h_val])), (h1, .inl (cI, 400, .inl h_tape_20))] := hD
    clear hPc hDc hFc hP1 hK1 hD1 hk1 hz1 ht hvm
    refine lv_aload_n hx hb dX3_append_39 rfl (lv_at hl 0 rfl) ?_
    refine va_get (D := (dC, dI)) (ci := 3) (v := .int h_len_19) (C := RX3) (T := TX3) (N := 7) hx hb hts kk1_ hown hK hP 0 rfl rfl 1 (by decide) kk0_ (fun _ h9 => h9) rfl dX3_append_40 ?_
    have hP9 := hP.sub (ws' := [(h, .inr (3, [.ref h1, .int h_len_19, .int h_limit, .int h_pos, .int h_sort, .int h_start, .int h_val])), (h1, .inl (cI, 400, .inl h_tape_20))]) [0, 1] rfl
    have hD9 := hD.sub (ws' := [(h, .inr (3, [.ref h1, .int h_len_19, .int h_limit, .int h_pos, .int h_sort, .int h_start, .int h_val])), (h1, .inl (cI, 400, .inl h_tape_20))]) [0, 1] (by decide) rfl
    have r9_0 : (380 < (h_len0).toInt → h_len_19 = -1 ∧ h_len_19 = h_len0) ∧ ((h_len0).toInt ≤ 380 → h_len_19 = h_len_19 ∧ (h_len_19).toInt = (h_len0).toInt + 20) := ⟨fun h => absurd h (by omega), fun _ => ⟨rfl, by omega⟩⟩
    exact W.iret (v := h_len_19) hx hb hr (fun t ht hW => ⟨⟨h_len_19, (h_len_19, h_tape_20), rfl, r9_0, by rw [ht]; exact hP9, va_K.moved hW.alike hK, hD9⟩, hS.F ht⟩) hS.2.2 dX3_append_43
  · have tc_1 : 380 < h_len0.toInt := tb_le_f c_1
    refine lv_iconst (v := -1) hx hb dX3_append_10 (by decide) ?_
    have hP9 := hP.sub (ws' := [(h, .inr (3, [.ref h1, .int h_len0, .int h_limit, .int h_pos, .int h_sort, .int h_start, .int h_val])), (h1, .inl (cI, 400, .inl h_tape0))]) [0, 1] rfl
    have hD9 := hD.sub (ws' := [(h, .inr (3, [.ref h1, .int h_len0, .int h_limit, .int h_pos, .int h_sort, .int h_start, .int h_val])), (h1, .inl (cI, 400, .inl h_tape0))]) [0, 1] (by decide) rfl
    have r9_0 : (380 < (h_len0).toInt → (-1 : Int32) = -1 ∧ h_len0 = h_len0) ∧ ((h_len0).toInt ≤ 380 → (-1 : Int32) = h_len0 ∧ (h_len0).toInt = (h_len0).toInt + 20) := ⟨fun _ => ⟨rfl, rfl⟩, fun h => absurd h (by omega)⟩
    exact W.iret (v := (-1 : Int32)) hx hb hr (fun t ht hW => ⟨⟨(-1 : Int32), (h_len0, h_tape0), rfl, r9_0, by rw [ht]; exact hP9, va_K.moved hW.alike hK, hD9⟩, hS.F ht⟩) hS.2.2 dX3_append_11
def wo_X3_readWord : List Cond := .code yX3_readWord cX3_readWord 3 none :: (([.fieldLink RX3 46 "SumRewriter$Scanner" "value" "I", .fieldLink RX3 26 "SumRewriter$Scanner" "at" "I", .fieldLink RX3 43 "SumRewriter$Scanner" "sort" "I"] : List Cond) ++ ((wsX30) ++ ((wsV RX3 32 RX3 yX3_look wo_X3_look) ++ ((va_wsS RX3 49 yX3_isLetter wo_X3_isLetter)))))
set_option maxRecDepth 20000 in
theorem go_wo_X3_readWord_1 : GoodIn wo_X3_readWord (wsV RX3 32 RX3 yX3_look wo_X3_look) := goodIn_sub (fun _ h => (List.mem_cons_of_mem _ (List.mem_append_right _ (List.mem_append_right _ (List.mem_append_left _ h))))) (by decide +kernel)
set_option maxRecDepth 20000 in
theorem go_wo_X3_readWord_2 : GoodIn wo_X3_readWord (va_wsS RX3 49 yX3_isLetter wo_X3_isLetter) := goodIn_sub (fun _ h => (List.mem_cons_of_mem _ (List.mem_append_right _ (List.mem_append_right _ (List.mem_append_right _ h))))) (by decide +kernel)
abbrev ww_X3_readWord (dC : Nat → ClassId) (dI : Nat → Nat → Nat) (cI cJ cB : ClassId) (h h1 : Nat) (sz : Nat) (h_len : Int32) (h_limit : Int32) (h_pos0 : Int32) (h_sort0 : Int32) (h_start : Int32) (h_val0 : Int32) (h_tape : Nat → Int32) : va_W := [(h, .inr (3, [.ref h1, .int h_len, .int h_limit, .int h_pos0, .int h_sort0, .int h_start, .int h_val0])), (h1, .inl (cI, 400, .inl h_tape))]
abbrev at_X3_readWord (dC : Nat → ClassId) (dI : Nat → Nat → Nat) (cI cJ cB : ClassId) (h h1 : Nat) (sz : Nat) (h_len : Int32) (h_limit : Int32) (h_pos0 : Int32) (h_sort0 : Int32) (h_start : Int32) (h_val0 : Int32) (h_tape : Nat → Int32) (u : Int32 × Int32 × Int32) (t : State) : Prop := match u with
  | (h_pos, h_sort, h_val) => va_P (dC, dI) vwCl [(h, .inr (3, [.ref h1, .int h_len, .int h_limit, .int h_pos, .int h_sort, .int h_start, .int h_val])), (h1, .inl (cI, 400, .inl h_tape))] t.heap ∧ va_K (dC, dI) vwCl (tyL cI cJ cB) t ∧ va_D (va_A (ww_X3_readWord dC dI cI cJ cB h h1 sz h_len h_limit h_pos0 h_sort0 h_start h_val0 h_tape) sz) [(h, .inr (3, [.ref h1, .int h_len, .int h_limit, .int h_pos, .int h_sort, .int h_start, .int h_val])), (h1, .inl (cI, 400, .inl h_tape))]
abbrev qc_X3_readWord (dC : Nat → ClassId) (dI : Nat → Nat → Nat) (cI cJ cB : ClassId) (h h1 : Nat) (sz : Nat) (h_len : Int32) (h_limit : Int32) (h_pos0 : Int32) (h_sort0 : Int32) (h_start : Int32) (h_val0 : Int32) (h_tape : Nat → Int32) : Array Value → State → Outcome → State → Prop := va_Qv (fun (u : Int32 × Int32 × Int32) => match u with | (h_pos, h_sort, h_val) => True) (at_X3_readWord dC dI cI cJ cB h h1 sz h_len h_limit h_pos0 h_sort0 h_start h_val0 h_tape) (va_A (ww_X3_readWord dC dI cI cJ cB h h1 sz h_len h_limit h_pos0 h_sort0 h_start h_val0 h_tape) sz)
abbrev pc_X3_readWord (dC : Nat → ClassId) (dI : Nat → Nat → Nat) (cI cJ cB : ClassId) (h h1 : Nat) (sz : Nat) (h_len : Int32) (h_limit : Int32) (h_pos0 : Int32) (h_sort0 : Int32) (h_start : Int32) (h_val0 : Int32) (h_tape : Nat → Int32) : Array Value → State → Prop := va_Pc [.ref h] (fun U => U.heap.size = sz ∧ NW U ∧ va_P (dC, dI) vwCl (ww_X3_readWord dC dI cI cJ cB h h1 sz h_len h_limit h_pos0 h_sort0 h_start h_val0 h_tape) U.heap ∧ va_K (dC, dI) vwCl (tyL cI cJ cB) U ∧ va_D (fun _ => True) (ww_X3_readWord dC dI cI cJ cB h h1 sz h_len h_limit h_pos0 h_sort0 h_start h_val0 h_tape))
abbrev rm_X3_readWord : Room := { frames := 1, cells := 0, slots := 0, locals := 20 }
abbrev WW_X3_readWord (p : Program) (l : Launch) (e : Env) (s : State) (m : MethodId) (below : List Frame) (meth : Method) (c : Code) (dC : Nat → ClassId) (dI : Nat → Nat → Nat) (cI cJ cB : ClassId) (h h1 : Nat) (sz : Nat) (h_len : Int32) (h_limit : Int32) (h_pos0 : Int32) (h_sort0 : Int32) (h_start : Int32) (h_val0 : Int32) (h_tape : Nat → Int32) (H : Heap) (locs : List Loc) (g : JFrame) : Prop := W p l e rm_X3_readWord s m ([.ref h] : List Value).toArray below meth c H locs 0 0 (MQ below (qc_X3_readWord dC dI cI cJ cB h h1 sz h_len h_limit h_pos0 h_sort0 h_start h_val0 h_tape) ([.ref h] : List Value).toArray s 0 0 (va_A (ww_X3_readWord dC dI cI cJ cB h h1 sz h_len h_limit h_pos0 h_sort0 h_start h_val0 h_tape) sz)) g
set_option maxHeartbeats 4000000 in
set_option maxRecDepth 100000 in
theorem c_X3_readWord (l : Launch) (dC : Nat → ClassId) (dI : Nat → Nat → Nat) (cI cJ cB : ClassId) (h h1 : Nat) (sz : Nat) (h_len : Int32) (h_limit : Int32) (h_pos0 : Int32) (h_sort0 : Int32) (h_start : Int32) (h_val0 : Int32) (h_tape : Nat → Int32) : Met l yX3_readWord wo_X3_readWord rm_X3_readWord (pc_X3_readWord dC dI cI cJ cB h h1 sz h_len h_limit h_pos0 h_sort0 h_start h_val0 h_tape) (qc_X3_readWord dC dI cI cJ cB h h1 sz h_len h_limit h_pos0 h_sort0 h_start h_val0 h_tape) 0 0 (va_A (ww_X3_readWord dC dI cI cJ cB h h1 sz h_len h_limit h_pos0 h_sort0 h_start h_val0 h_tape) sz) := by
  refine Met.ofW (cc := cX3_readWord) (maxL := 3) (ret := none) (by decide) rfl ?_
  intro p e s m args below meth c s₁ B hml hv
  obtain ⟨rfl, hsz, hnw, hP, hK, hD0⟩ := hv
  have hx := B.exec
  have hb := B.bytes
  have hr := B.returns
  have hts := atoms_spec (ws := wo_X3_readWord) B.pre
  have hown : s.vm.findClass RX3 = some m.cls := findClass_of_methodNamed B.named
  have hlocks := B.notSynchronized
  clear B
  subst hsz
  have hD := hD0.self (sz := s.heap.size)
  clear hD0
  have kk0_ := hts (.fieldLink RX3 46 "SumRewriter$Scanner" "value" "I") (by decide +kernel)
  have kk1_ : ∀ w ∈ wsX30, w ∈ wo_X3_readWord := fun _ h => (List.mem_cons_of_mem _ (List.mem_append_right _ (List.mem_append_left _ h)))
  have kk2_ := hts (.fieldLink RX3 26 "SumRewriter$Scanner" "at" "I") (by decide +kernel)
  have kk3_ := hts (.fieldLink RX3 43 "SumRewriter$Scanner" "sort" "I") (by decide +kernel)
  have hA : ∀ q : Nat, s.heap.size ≤ q → (va_A (ww_X3_readWord dC dI cI cJ cB h h1 s.heap.size h_len h_limit h_pos0 h_sort0 h_start h_val0 h_tape) s.heap.size) q := fun q h => Or.inr h
  have hS : va_S (va_A (ww_X3_readWord dC dI cI cJ cB h h1 s.heap.size h_len h_limit h_pos0 h_sort0 h_start h_val0 h_tape) s.heap.size) s.heap s.heap [] := va_S.rf
  have hl := lv_entry ([.ref h]) (n := 3) (Nat.le_of_ble_eq_true rfl)
  rw [lg_entry_eq]
  generalize (lg_sl ([.ref h]) ++ List.replicate (3 - (lg_sl ([.ref h])).length) Slot.unset).toArray = ls at hl ⊢
  have hl : lv_has ls 3 [(0, .ref h)] := hl
  have hP : va_P (dC, dI) vwCl [(h, .inr (3, [.ref h1, .int h_len, .int h_limit, .int h_pos0, .int h_sort0, .int h_start, .int h_val0])), (h1, .inl (cI, 400, .inl h_tape))] s.heap := hP
  have hD : va_D (va_A (ww_X3_readWord dC dI cI cJ cB h h1 s.heap.size h_len h_limit h_pos0 h_sort0 h_start h_val0 h_tape) s.heap.size) [(h, .inr (3, [.ref h1, .int h_len, .int h_limit, .int h_pos0, .int h_sort0, .int h_start, .int h_val0])), (h1, .inl (cI, 400, .inl h_tape))] := hD
  obtain ⟨H, hH⟩ : ∃ H, H = s.heap := ⟨_, rfl⟩
  obtain ⟨locs, hlc⟩ : ∃ L : List Loc, L = [] := ⟨_, rfl⟩
  have hS : va_S (va_A (ww_X3_readWord dC dI cI cJ cB h h1 s.heap.size h_len h_limit h_pos0 h_sort0 h_start h_val0 h_tape) s.heap.size) s.heap H locs := by rw [hH, hlc]; exact hS
  have hP : va_P (dC, dI) vwCl [(h, .inr (3, [.ref h1, .int h_len, .int h_limit, .int h_pos0, .int h_sort0, .int h_start, .int h_val0])), (h1, .inl (cI, 400, .inl h_tape))] H := by rw [hH]; exact hP
  suffices hgo : WW_X3_readWord p l e s m below meth c dC dI cI cJ cB h h1 s.heap.size h_len h_limit h_pos0 h_sort0 h_start h_val0 h_tape H locs (F0 m 0 ls []) by rw [hH, hlc] at hgo; exact hgo
  clear hH hlc
  have L_17 : ∀ (N_17 : Nat), ∀ (x1 : Int32) (x2 : Int32) (h_pos : Int32) (h_sort : Int32) (h_val : Int32), (0 ≤ x1.toInt ∧ x1.toInt ≤ 400) → ((400 - (x1 : Int32).toInt).toNat) < N_17 → ∀ (H : Heap) (locs : List Loc), va_P (dC, dI) vwCl [(h, .inr (3, [.ref h1, .int h_len, .int h_limit, .int h_pos, .int h_sort, .int h_start, .int h_val])), (h1, .inl (cI, 400, .inl h_tape))] H → va_D (va_A (ww_X3_readWord dC dI cI cJ cB h h1 s.heap.size h_len h_limit h_pos0 h_sort0 h_start h_val0 h_tape) s.heap.size) [(h, .inr (3, [.ref h1, .int h_len, .int h_limit, .int h_pos, .int h_sort, .int h_start, .int h_val])), (h1, .inl (cI, 400, .inl h_tape))] → va_S (va_A (ww_X3_readWord dC dI cI cJ cB h h1 s.heap.size h_len h_limit h_pos0 h_sort0 h_start h_val0 h_tape) s.heap.size) s.heap H locs → ∀ ls : Array Slot, lv_has ls 3 [(0, .ref h), (1, .int x1), (2, .int x2)] → WW_X3_readWord p l e s m below meth c dC dI cI cJ cB h h1 s.heap.size h_len h_limit h_pos0 h_sort0 h_start h_val0 h_tape H locs (F0 m 17 ls []) := by
    intro N_17
    induction N_17 with
    | zero => intro x1 x2 h_pos h_sort h_val i17_0 hm; exact absurd hm (Nat.not_lt_zero _)
    | succ N_17 ih_17 =>
      intro x1 x2 h_pos h_sort h_val i17_0 hm_17 H locs hP hD hS ls hl
      have J_56 : ∀ (x1 : Int32) (x2 : Int32) (z1 : Int32) (h_pos : Int32) (h_sort : Int32) (h_val : Int32), (0 ≤ x1.toInt ∧ x1.toInt ≤ 399) → (((400 - (x1 : Int32).toInt).toNat) < N_17 + 1) → ∀ (H : Heap) (locs : List Loc), va_P (dC, dI) vwCl [(h, .inr (3, [.ref h1, .int h_len, .int h_limit, .int h_pos, .int h_sort, .int h_start, .int h_val])), (h1, .inl (cI, 400, .inl h_tape))] H → va_D (va_A (ww_X3_readWord dC dI cI cJ cB h h1 s.heap.size h_len h_limit h_pos0 h_sort0 h_start h_val0 h_tape) s.heap.size) [(h, .inr (3, [.ref h1, .int h_len, .int h_limit, .int h_pos, .int h_sort, .int h_start, .int h_val])), (h1, .inl (cI, 400, .inl h_tape))] → va_S (va_A (ww_X3_readWord dC dI cI cJ cB h h1 s.heap.size h_len h_limit h_pos0 h_sort0 h_start h_val0 h_tape) s.heap.size) s.heap H locs → ∀ ls : Array Slot, lv_has ls 3 [(0, .ref h), (1, .int x1), (2, .int x2)] → WW_X3_readWord p l e s m below meth c dC dI cI cJ cB h h1 s.heap.size h_len h_limit h_pos0 h_sort0 h_start h_val0 h_tape H locs (F0 m 56 ls [.int z1, .ref h]) := by
        intro x1 x2 z1 h_pos h_sort h_val i56_0 i56_1 H locs hP hD hS ls hl
        refine va_put (D := (dC, dI)) (ci := 3) (v := .int z1) (ty := .int) (C := RX3) (T := TX3) (N := 7) hx hb hts kk1_ tyX3 tyX3_ok nmX3 hown hK hP hD hS 0 rfl rfl 6 (by decide) kk0_ (fun _ h9 => h9) rfl (by decide +kernel) rfl rfl (Nat.le_of_ble_eq_true rfl) dX3_readWord_56 (fun H locs hP hD hS => ?_)
        have hP : va_P (dC, dI) vwCl [(h, .inr (3, [.ref h1, .int h_len, .int h_limit, .int h_pos, .int h_sort, .int h_start, .int z1])), (h1, .inl (cI, 400, .inl h_tape))] H := hP
        have hD : va_D (va_A (ww_X3_readWord dC dI cI cJ cB h h1 s.heap.size h_len h_limit h_pos0 h_sort0 h_start h_val0 h_tape) s.heap.size) [(h, .inr (3, [.ref h1, .int h_len, .int h_limit, .int h_pos, .int h_sort, .int h_start, .int z1])), (h1, .inl (cI, 400, .inl h_tape))] := hD
        obtain ⟨x1_1, ex1_1⟩ : ∃ y : Int32, y = x1 + (1) := ⟨_, rfl⟩
        refine lv_iinc (v := x1_1) (lv' := [(1, .int x1_1), (0, .ref h), (2, .int x2)]) hx hb dX3_readWord_59 hl (k := 1) rfl (by rw [ex1_1]; rfl) (by decide) rfl (fun ls hl => ?_)
        have tex1_1 : x1_1.toInt = x1.toInt + (1) := ti_inc ex1_1 (by decide) (by omega) (by omega)
        refine lv_aload_n hx hb dX3_readWord_62 rfl (lv_at hl 1 rfl) ?_
        refine lv_dup hx hb dX3_readWord_63 rfl ?_
        refine va_get (D := (dC, dI)) (ci := 3) (v := .int h_pos) (C := RX3) (T := TX3) (N := 7) hx hb hts kk1_ hown hK hP 0 rfl rfl 3 (by decide) kk2_ (fun _ h9 => h9) rfl dX3_readWord_64 ?_
        refine lv_iconst (v := 1) hx hb dX3_readWord_67 (by decide) ?_
        refine lv_iadd hx hb dX3_readWord_68 ?_
        refine lv_topi (fun y_2 ey_2 => ?_)
        refine va_put (D := (dC, dI)) (ci := 3) (v := .int y_2) (ty := .int) (C := RX3) (T := TX3) (N := 7) hx hb hts kk1_ tyX3 tyX3_ok nmX3 hown hK hP hD hS 0 rfl rfl 3 (by decide) kk2_ (fun _ h9 => h9) rfl (by decide +kernel) rfl rfl (Nat.le_of_ble_eq_true rfl) dX3_readWord_69 (fun H locs hP hD hS => ?_)
        have hP : va_P (dC, dI) vwCl [(h, .inr (3, [.ref h1, .int h_len, .int h_limit, .int y_2, .int h_sort, .int h_start, .int z1])), (h1, .inl (cI, 400, .inl h_tape))] H := hP
        have hD : va_D (va_A (ww_X3_readWord dC dI cI cJ cB h h1 s.heap.size h_len h_limit h_pos0 h_sort0 h_start h_val0 h_tape) s.heap.size) [(h, .inr (3, [.ref h1, .int h_len, .int h_limit, .int y_2, .int h_sort, .int h_start, .int z1])), (h1, .inl (cI, 400, .inl h_tape))] := hD
        refine lv_aload_n hx hb dX3_readWord_72 rfl (lv_at hl 1 rfl) ?_
        have hPc := hP.sub (ws' := [(h, .inr (3, [.ref h1, .int h_len, .int h_limit, .int y_2, .int h_sort, .int h_start, .int z1])), (h1, .inl (cI, 400, .inl h_tape))]) [0, 1] rfl
        have hDc := hD.sub (ws' := [(h, .inr (3, [.ref h1, .int h_len, .int h_limit, .int y_2, .int h_sort, .int h_start, .int z1])), (h1, .inl (cI, 400, .inl h_tape))]) [0, 1] (by decide) rfl
        have hFc := va_free (wc := [(h, .inr (3, [.ref h1, .int h_len, .int h_limit, .int y_2, .int h_sort, .int h_start, .int z1])), (h1, .inl (cI, 400, .inl h_tape))]) hD hS hA [0, 1] rfl
        refine va_calli (va_runV (As := []) (rest := []) ⟨hx, hb, hml, hown, hts⟩ (c_X3_look l dC dI cI cJ cB h h1 H.size h_len h_limit y_2 h_sort h_start z1 h_tape) (cwV 0 hts go_wo_X3_readWord_1 rfl rfl rfl (by decide +kernel) ⟨Nat.le_of_ble_eq_true rfl, Nat.le_of_ble_eq_true rfl⟩) ⟨fun a U g mk q => by obtain ⟨q0, q1, qN, qP, qK, qD⟩ := q; exact ⟨q0, q1, NW.calling qN, qP, va_K.moved (u := U) (U := U.calling g mk a) (Vm.Alike.refl U.vm) qK, qD⟩, va_recv hK hPc (ci := 3) (q0 := 0) rfl rfl, fun U hU hW => ⟨rfl, by rw [hU], NW.warm hW hnw, by rw [hU]; exact hPc, va_K.moved hW.alike hK, hDc.weaken (fun _ _ _ _ => trivial)⟩⟩ rfl rfl hl.1 rfl (lv_room (Nat.le_of_ble_eq_true rfl)) dX3_readWord_73 ⟨Nat.zero_le _, Nat.zero_le _⟩) hS (fun q _ h => hFc q h) hFc (fun r_3 u t H1 locs ht hvm hw hB hz1 hk1 hS => ?_)
        cases u
        obtain ⟨hP1, hK1, hD1⟩ := hB
        rw [ht] at hP1
        have hw : ((h_limit).toInt ≤ (y_2).toInt → r_3 = -1) := hw
        have h_4 := hw
        obtain ⟨hP, hD⟩ := va_join (wr := []) (w1 := [(h, .inr (3, [.ref h1, .int h_len, .int h_limit, .int y_2, .int h_sort, .int h_start, .int z1])), (h1, .inl (cI, 400, .inl h_tape))]) hP hD [0, 1] [] rfl rfl (by decide) (by decide) hk1 hFc hP1 hD1
        generalize H1 = H at hP hS ⊢
        have hP : va_P (dC, dI) vwCl [(h, .inr (3, [.ref h1, .int h_len, .int h_limit, .int y_2, .int h_sort, .int h_start, .int z1])), (h1, .inl (cI, 400, .inl h_tape))] H := hP
        have hD : va_D (va_A (ww_X3_readWord dC dI cI cJ cB h h1 s.heap.size h_len h_limit h_pos0 h_sort0 h_start h_val0 h_tape) s.heap.size) [(h, .inr (3, [.ref h1, .int h_len, .int h_limit, .int y_2, .int h_sort, .int h_start, .int z1])), (h1, .inl (cI, 400, .inl h_tape))] := hD
        clear hPc hDc hFc hP1 hK1 hD1 hk1 hz1 ht hvm
        refine lv_istore_n (lv' := [(2, .int r_3), (1, .int x1_1), (0, .ref h)]) hx hb dX3_readWord_76 rfl hl (by decide) rfl (fun ls hl => ?_)
        refine lv_goto (tgt := 17) hx hb dX3_readWord_77 (by decide) ?_
        exact ih_17 x1_1 r_3 y_2 h_sort z1 (by first | assumption | omega | decide | (simp only [lt0, lt1, ltm1, lt400] at *; omega)) (by omega) _ _ (hP.sub [0, 1] rfl) (hD.sub [0, 1] (by decide) rfl) hS ls (lv_sub hl [2, 1, 0] rfl)
      refine lv_iload_n hx hb dX3_readWord_17 rfl (lv_at hl 1 rfl) ?_
      refine lv_sipush (v := 400) hx hb dX3_readWord_18 (by decide) ?_
      refine lv_icmp_ge (tgt := 80) hx hb dX3_readWord_21 (by decide) (fun c_5 => ?_) (fun c_5 => ?_)
      · have tc_5 : 400 ≤ x1.toInt := tb_ge_t c_5
        have hP9 := hP.sub (ws' := [(h, .inr (3, [.ref h1, .int h_len, .int h_limit, .int h_pos, .int h_sort, .int h_start, .int h_val])), (h1, .inl (cI, 400, .inl h_tape))]) [0, 1] rfl
        have hD9 := hD.sub (ws' := [(h, .inr (3, [.ref h1, .int h_len, .int h_limit, .int h_pos, .int h_sort, .int h_start, .int h_val])), (h1, .inl (cI, 400, .inl h_tape))]) [0, 1] (by decide) rfl
        exact W.vret hx hb hr (fun t ht hW => ⟨⟨(h_pos, h_sort, h_val), rfl, trivial, by rw [ht]; exact hP9, va_K.moved hW.alike hK, hD9⟩, hS.F ht⟩) hS.2.2 dX3_readWord_80
      · have tc_5 : x1.toInt < 400 := tb_ge_f c_5
        refine lv_iload_n hx hb dX3_readWord_24 rfl (lv_at hl 2 rfl) ?_
        have hPc := hP.sub (ws' := []) [] rfl
        have hDc := hD.sub (ws' := []) [] (by decide) rfl
        have hFc := va_free (wc := []) hD hS hA [] rfl
        refine va_calli (va_runS (As := [.int x2]) (rest := []) ⟨hx, hb, hml, hown, hts⟩ (c_X3_isLetter l dC dI cI cJ cB  H.size x2) (va_cwS 1 hts go_wo_X3_readWord_2 rfl rfl rfl (by decide +kernel) ⟨Nat.le_of_ble_eq_true rfl, Nat.le_of_ble_eq_true rfl⟩) ⟨fun a U g mk q => by obtain ⟨q0, q1, qN, qP, qK, qD⟩ := q; exact ⟨q0, q1, NW.calling qN, qP, va_K.moved (u := U) (U := U.calling g mk a) (Vm.Alike.refl U.vm) qK, qD⟩, fun U hU hW => ⟨rfl, by rw [hU], NW.warm hW hnw, by rw [hU]; exact hPc, va_K.moved hW.alike hK, hDc.weaken (fun _ _ _ _ => trivial)⟩⟩ rfl rfl hl.1 rfl (lv_room (Nat.le_of_ble_eq_true rfl)) dX3_readWord_25 ⟨Nat.zero_le _, Nat.zero_le _⟩) hS (fun q _ h => hFc q h) hFc (fun r_6 u t H1 locs ht hvm hw hB hz1 hk1 hS => ?_)
        cases u
        obtain ⟨hP1, hK1, hD1⟩ := hB
        rw [ht] at hP1
        have hw : (r_6 = 0 ∨ r_6 = 1) := hw
        have h_7 := hw
        obtain ⟨hP, hD⟩ := va_join (wr := [(h, .inr (3, [.ref h1, .int h_len, .int h_limit, .int h_pos, .int h_sort, .int h_start, .int h_val])), (h1, .inl (cI, 400, .inl h_tape))]) (w1 := []) hP hD [] [0, 1] rfl rfl (by decide) (by decide) hk1 hFc hP1 hD1
        generalize H1 = H at hP hS ⊢
        have hP : va_P (dC, dI) vwCl [(h, .inr (3, [.ref h1, .int h_len, .int h_limit, .int h_pos, .int h_sort, .int h_start, .int h_val])), (h1, .inl (cI, 400, .inl h_tape))] H := hP
        have hD : va_D (va_A (ww_X3_readWord dC dI cI cJ cB h h1 s.heap.size h_len h_limit h_pos0 h_sort0 h_start h_val0 h_tape) s.heap.size) [(h, .inr (3, [.ref h1, .int h_len, .int h_limit, .int h_pos, .int h_sort, .int h_start, .int h_val])), (h1, .inl (cI, 400, .inl h_tape))] := hD
        clear hPc hDc hFc hP1 hK1 hD1 hk1 hz1 ht hvm
        refine lv_if_eq (tgt := 80) hx hb dX3_readWord_28 (by decide) (fun c_8 => ?_) (fun c_8 => ?_)
        · have tc_8 : r_6.toInt = 0 := tb_eq_t c_8
          have hP9 := hP.sub (ws' := [(h, .inr (3, [.ref h1, .int h_len, .int h_limit, .int h_pos, .int h_sort, .int h_start, .int h_val])), (h1, .inl (cI, 400, .inl h_tape))]) [0, 1] rfl
          have hD9 := hD.sub (ws' := [(h, .inr (3, [.ref h1, .int h_len, .int h_limit, .int h_pos, .int h_sort, .int h_start, .int h_val])), (h1, .inl (cI, 400, .inl h_tape))]) [0, 1] (by decide) rfl
          exact W.vret hx hb hr (fun t ht hW => ⟨⟨(h_pos, h_sort, h_val), rfl, trivial, by rw [ht]; exact hP9, va_K.moved hW.alike hK, hD9⟩, hS.F ht⟩) hS.2.2 dX3_readWord_80
        · have tc_8 : ¬ (r_6.toInt = 0) := tb_eq_f c_8
          refine lv_aload_n hx hb dX3_readWord_31 rfl (lv_at hl 0 rfl) ?_
          refine lv_iload_n hx hb dX3_readWord_32 rfl (lv_at hl 1 rfl) ?_
          refine lv_bipush (v := 6) hx hb dX3_readWord_33 (by decide) ?_
          refine lv_icmp_ge (tgt := 55) hx hb dX3_readWord_35 (by decide) (fun c_9 => ?_) (fun c_9 => ?_)
          · have tc_9 : 6 ≤ x1.toInt := tb_ge_t c_9
            refine lv_iconst (v := 0) hx hb dX3_readWord_55 (by decide) ?_
            exact J_56 x1 x2 ((0 : Int32)) h_pos h_sort h_val (by first | assumption | omega | decide | (simp only [lt0, lt1, ltm1, lt400] at *; omega)) (by first | assumption | omega | decide | (simp only [lt0, lt1, ltm1, lt400] at *; omega)) _ _ (hP.sub [0, 1] rfl) (hD.sub [0, 1] (by decide) rfl) hS ls (lv_sub hl [0, 1, 2] rfl)
          · have tc_9 : x1.toInt < 6 := tb_ge_f c_9
            refine lv_aload_n hx hb dX3_readWord_38 rfl (lv_at hl 0 rfl) ?_
            refine va_get (D := (dC, dI)) (ci := 3) (v := .int h_val) (C := RX3) (T := TX3) (N := 7) hx hb hts kk1_ hown hK hP 0 rfl rfl 6 (by decide) kk0_ (fun _ h9 => h9) rfl dX3_readWord_39 ?_
            refine lv_bipush (v := 32) hx hb dX3_readWord_42 (by decide) ?_
            refine lv_imul hx hb dX3_readWord_44 ?_
            refine lv_topi (fun y_10 ey_10 => ?_)
            refine lv_iload_n hx hb dX3_readWord_45 rfl (lv_at hl 2 rfl) ?_
            refine lv_bipush (v := 97) hx hb dX3_readWord_46 (by decide) ?_
            refine lv_isub hx hb dX3_readWord_48 ?_
            refine lv_topi (fun y_11 ey_11 => ?_)
            refine lv_iconst (v := 1) hx hb dX3_readWord_49 (by decide) ?_
            refine lv_iadd hx hb dX3_readWord_50 ?_
            refine lv_topi (fun y_12 ey_12 => ?_)
            refine lv_iadd hx hb dX3_readWord_51 ?_
            refine lv_topi (fun y_13 ey_13 => ?_)
            refine lv_goto (tgt := 56) hx hb dX3_readWord_52 (by decide) ?_
            exact J_56 x1 x2 y_13 h_pos h_sort h_val (by first | assumption | omega | decide | (simp only [lt0, lt1, ltm1, lt400] at *; omega)) (by first | assumption | omega | decide | (simp only [lt0, lt1, ltm1, lt400] at *; omega)) _ _ (hP.sub [0, 1] rfl) (hD.sub [0, 1] (by decide) rfl) hS ls (lv_sub hl [0, 1, 2] rfl)
  refine lv_aload_n hx hb dX3_readWord_0 rfl (lv_at hl 0 rfl) ?_
  refine lv_iconst (v := 1) hx hb dX3_readWord_1 (by decide) ?_
  refine va_put (D := (dC, dI)) (ci := 3) (v := .int ((1 : Int32))) (ty := .int) (C := RX3) (T := TX3) (N := 7) hx hb hts kk1_ tyX3 tyX3_ok nmX3 hown hK hP hD hS 0 rfl rfl 4 (by decide) kk3_ (fun _ h9 => h9) rfl (by decide +kernel) rfl rfl (Nat.le_of_ble_eq_true rfl) dX3_readWord_2 (fun H locs hP hD hS => ?_)
  have hP : va_P (dC, dI) vwCl [(h, .inr (3, [.ref h1, .int h_len, .int h_limit, .int h_pos0, .int ((1 : Int32)), .int h_start, .int h_val0])), (h1, .inl (cI, 400, .inl h_tape))] H := hP
  have hD : va_D (va_A (ww_X3_readWord dC dI cI cJ cB h h1 s.heap.size h_len h_limit h_pos0 h_sort0 h_start h_val0 h_tape) s.heap.size) [(h, .inr (3, [.ref h1, .int h_len, .int h_limit, .int h_pos0, .int ((1 : Int32)), .int h_start, .int h_val0])), (h1, .inl (cI, 400, .inl h_tape))] := hD
  refine lv_aload_n hx hb dX3_readWord_5 rfl (lv_at hl 0 rfl) ?_
  refine lv_iconst (v := 0) hx hb dX3_readWord_6 (by decide) ?_
  refine va_put (D := (dC, dI)) (ci := 3) (v := .int ((0 : Int32))) (ty := .int) (C := RX3) (T := TX3) (N := 7) hx hb hts kk1_ tyX3 tyX3_ok nmX3 hown hK hP hD hS 0 rfl rfl 6 (by decide) kk0_ (fun _ h9 => h9) rfl (by decide +kernel) rfl rfl (Nat.le_of_ble_eq_true rfl) dX3_readWord_7 (fun H locs hP hD hS => ?_)
  have hP : va_P (dC, dI) vwCl [(h, .inr (3, [.ref h1, .int h_len, .int h_limit, .int h_pos0, .int ((1 : Int32)), .int h_start, .int ((0 : Int32))])), (h1, .inl (cI, 400, .inl h_tape))] H := hP
  have hD : va_D (va_A (ww_X3_readWord dC dI cI cJ cB h h1 s.heap.size h_len h_limit h_pos0 h_sort0 h_start h_val0 h_tape) s.heap.size) [(h, .inr (3, [.ref h1, .int h_len, .int h_limit, .int h_pos0, .int ((1 : Int32)), .int h_start, .int ((0 : Int32))])), (h1, .inl (cI, 400, .inl h_tape))] := hD
  refine lv_iconst (v := 0) hx hb dX3_readWord_10 (by decide) ?_
  refine lv_istore_n (lv' := [(1, .int ((0 : Int32))), (0, .ref h)]) hx hb dX3_readWord_11 rfl hl (by decide) rfl (fun ls hl => ?_)
  refine lv_aload_n hx hb dX3_readWord_12 rfl (lv_at hl 1 rfl) ?_
  have hPc := hP.sub (ws' := [(h, .inr (3, [.ref h1, .int h_len, .int h_limit, .int h_pos0, .int ((1 : Int32)), .int h_start, .int ((0 : Int32))])), (h1, .inl (cI, 400, .inl h_tape))]) [0, 1] rfl
  have hDc := hD.sub (ws' := [(h, .inr (3, [.ref h1, .int h_len, .int h_limit, .int h_pos0, .int ((1 : Int32)), .int h_start, .int ((0 : Int32))])), (h1, .inl (cI, 400, .inl h_tape))]) [0, 1] (by decide) rfl
  have hFc := va_free (wc := [(h, .inr (3, [.ref h1, .int h_len, .int h_limit, .int h_pos0, .int ((1 : Int32)), .int h_start, .int ((0 : Int32))])), (h1, .inl (cI, 400, .inl h_tape))]) hD hS hA [0, 1] rfl
  refine va_calli (va_runV (As := []) (rest := []) ⟨hx, hb, hml, hown, hts⟩ (c_X3_look l dC dI cI cJ cB h h1 H.size h_len h_limit h_pos0 ((1 : Int32)) h_start ((0 : Int32)) h_tape) (cwV 0 hts go_wo_X3_readWord_1 rfl rfl rfl (by decide +kernel) ⟨Nat.le_of_ble_eq_true rfl, Nat.le_of_ble_eq_true rfl⟩) ⟨fun a U g mk q => by obtain ⟨q0, q1, qN, qP, qK, qD⟩ := q; exact ⟨q0, q1, NW.calling qN, qP, va_K.moved (u := U) (U := U.calling g mk a) (Vm.Alike.refl U.vm) qK, qD⟩, va_recv hK hPc (ci := 3) (q0 := 0) rfl rfl, fun U hU hW => ⟨rfl, by rw [hU], NW.warm hW hnw, by rw [hU]; exact hPc, va_K.moved hW.alike hK, hDc.weaken (fun _ _ _ _ => trivial)⟩⟩ rfl rfl hl.1 rfl (lv_room (Nat.le_of_ble_eq_true rfl)) dX3_readWord_13 ⟨Nat.zero_le _, Nat.zero_le _⟩) hS (fun q _ h => hFc q h) hFc (fun r_14 u t H1 locs ht hvm hw hB hz1 hk1 hS => ?_)
  cases u
  obtain ⟨hP1, hK1, hD1⟩ := hB
  rw [ht] at hP1
  have hw : ((h_limit).toInt ≤ (h_pos0).toInt → r_14 = -1) := hw
  have h_15 := hw
  obtain ⟨hP, hD⟩ := va_join (wr := []) (w1 := [(h, .inr (3, [.ref h1, .int h_len, .int h_limit, .int h_pos0, .int ((1 : Int32)), .int h_start, .int ((0 : Int32))])), (h1, .inl (cI, 400, .inl h_tape))]) hP hD [0, 1] [] rfl rfl (by decide) (by decide) hk1 hFc hP1 hD1
  generalize H1 = H at hP hS ⊢
  have hP : va_P (dC, dI) vwCl [(h, .inr (3, [.ref h1, .int h_len, .int h_limit, .int h_pos0, .int ((1 : Int32)), .int h_start, .int ((0 : Int32))])), (h1, .inl (cI, 400, .inl h_tape))] H := hP
  have hD : va_D (va_A (ww_X3_readWord dC dI cI cJ cB h h1 s.heap.size h_len h_limit h_pos0 h_sort0 h_start h_val0 h_tape) s.heap.size) [(h, .inr (3, [.ref h1, .int h_len, .int h_limit, .int h_pos0, .int ((1 : Int32)), .int h_start, .int ((0 : Int32))])), (h1, .inl (cI, 400, .inl h_tape))] := hD
  clear hPc hDc hFc hP1 hK1 hD1 hk1 hz1 ht hvm
  refine lv_istore_n (lv' := [(2, .int r_14), (1, .int ((0 : Int32))), (0, .ref h)]) hx hb dX3_readWord_16 rfl hl (by decide) rfl (fun ls hl => ?_)
  exact L_17 (((400 - ((0 : Int32) : Int32).toInt).toNat) + 1) ((0 : Int32)) r_14 h_pos0 ((1 : Int32)) ((0 : Int32)) (by first | assumption | omega | decide | (simp only [lt0, lt1, ltm1, lt400] at *; omega)) (Nat.lt_succ_self _) _ _ (hP.sub [0, 1] rfl) (hD.sub [0, 1] (by decide) rfl) hS ls (lv_sub hl [2, 1, 0] rfl)
def wo_X3_readNumber : List Cond := .code yX3_readNumber cX3_readNumber 3 none :: (([.fieldLink RX3 46 "SumRewriter$Scanner" "value" "I", .fieldLink RX3 26 "SumRewriter$Scanner" "at" "I", .fieldLink RX3 43 "SumRewriter$Scanner" "sort" "I"] : List Cond) ++ ((wsX30) ++ ((wsV RX3 32 RX3 yX3_look wo_X3_look) ++ ((va_wsS RX3 55 yX3_isDigit wo_X3_isDigit)))))
set_option maxRecDepth 20000 in
theorem go_wo_X3_readNumber_1 : GoodIn wo_X3_readNumber (wsV RX3 32 RX3 yX3_look wo_X3_look) := goodIn_sub (fun _ h => (List.mem_cons_of_mem _ (List.mem_append_right _ (List.mem_append_right _ (List.mem_append_left _ h))))) (by decide +kernel)
set_option maxRecDepth 20000 in
theorem go_wo_X3_readNumber_2 : GoodIn wo_X3_readNumber (va_wsS RX3 55 yX3_isDigit wo_X3_isDigit) := goodIn_sub (fun _ h => (List.mem_cons_of_mem _ (List.mem_append_right _ (List.mem_append_right _ (List.mem_append_right _ h))))) (by decide +kernel)
abbrev ww_X3_readNumber (dC : Nat → ClassId) (dI : Nat → Nat → Nat) (cI cJ cB : ClassId) (h h1 : Nat) (sz : Nat) (h_len : Int32) (h_limit : Int32) (h_pos0 : Int32) (h_sort0 : Int32) (h_start : Int32) (h_val0 : Int32) (h_tape : Nat → Int32) : va_W := [(h, .inr (3, [.ref h1, .int h_len, .int h_limit, .int h_pos0, .int h_sort0, .int h_start, .int h_val0])), (h1, .inl (cI, 400, .inl h_tape))]
abbrev at_X3_readNumber (dC : Nat → ClassId) (dI : Nat → Nat → Nat) (cI cJ cB : ClassId) (h h1 : Nat) (sz : Nat) (h_len : Int32) (h_limit : Int32) (h_pos0 : Int32) (h_sort0 : Int32) (h_start : Int32) (h_val0 : Int32) (h_tape : Nat → Int32) (u : Int32 × Int32 × Int32) (t : State) : Prop := match u with
  | (h_pos, h_sort, h_val) => va_P (dC, dI) vwCl [(h, .inr (3, [.ref h1, .int h_len, .int h_limit, .int h_pos, .int h_sort, .int h_start, .int h_val])), (h1, .inl (cI, 400, .inl h_tape))] t.heap ∧ va_K (dC, dI) vwCl (tyL cI cJ cB) t ∧ va_D (va_A (ww_X3_readNumber dC dI cI cJ cB h h1 sz h_len h_limit h_pos0 h_sort0 h_start h_val0 h_tape) sz) [(h, .inr (3, [.ref h1, .int h_len, .int h_limit, .int h_pos, .int h_sort, .int h_start, .int h_val])), (h1, .inl (cI, 400, .inl h_tape))]
abbrev qc_X3_readNumber (dC : Nat → ClassId) (dI : Nat → Nat → Nat) (cI cJ cB : ClassId) (h h1 : Nat) (sz : Nat) (h_len : Int32) (h_limit : Int32) (h_pos0 : Int32) (h_sort0 : Int32) (h_start : Int32) (h_val0 : Int32) (h_tape : Nat → Int32) : Array Value → State → Outcome → State → Prop := va_Qv (fun (u : Int32 × Int32 × Int32) => match u with | (h_pos, h_sort, h_val) => True) (at_X3_readNumber dC dI cI cJ cB h h1 sz h_len h_limit h_pos0 h_sort0 h_start h_val0 h_tape) (va_A (ww_X3_readNumber dC dI cI cJ cB h h1 sz h_len h_limit h_pos0 h_sort0 h_start h_val0 h_tape) sz)
abbrev pc_X3_readNumber (dC : Nat → ClassId) (dI : Nat → Nat → Nat) (cI cJ cB : ClassId) (h h1 : Nat) (sz : Nat) (h_len : Int32) (h_limit : Int32) (h_pos0 : Int32) (h_sort0 : Int32) (h_start : Int32) (h_val0 : Int32) (h_tape : Nat → Int32) : Array Value → State → Prop := va_Pc [.ref h] (fun U => U.heap.size = sz ∧ NW U ∧ va_P (dC, dI) vwCl (ww_X3_readNumber dC dI cI cJ cB h h1 sz h_len h_limit h_pos0 h_sort0 h_start h_val0 h_tape) U.heap ∧ va_K (dC, dI) vwCl (tyL cI cJ cB) U ∧ va_D (fun _ => True) (ww_X3_readNumber dC dI cI cJ cB h h1 sz h_len h_limit h_pos0 h_sort0 h_start h_val0 h_tape))
abbrev rm_X3_readNumber : Room := { frames := 1, cells := 0, slots := 0, locals := 20 }
abbrev WW_X3_readNumber (p : Program) (l : Launch) (e : Env) (s : State) (m : MethodId) (below : List Frame) (meth : Method) (c : Code) (dC : Nat → ClassId) (dI : Nat → Nat → Nat) (cI cJ cB : ClassId) (h h1 : Nat) (sz : Nat) (h_len : Int32) (h_limit : Int32) (h_pos0 : Int32) (h_sort0 : Int32) (h_start : Int32) (h_val0 : Int32) (h_tape : Nat → Int32) (H : Heap) (locs : List Loc) (g : JFrame) : Prop := W p l e rm_X3_readNumber s m ([.ref h] : List Value).toArray below meth c H locs 0 0 (MQ below (qc_X3_readNumber dC dI cI cJ cB h h1 sz h_len h_limit h_pos0 h_sort0 h_start h_val0 h_tape) ([.ref h] : List Value).toArray s 0 0 (va_A (ww_X3_readNumber dC dI cI cJ cB h h1 sz h_len h_limit h_pos0 h_sort0 h_start h_val0 h_tape) sz)) g
set_option maxHeartbeats 4000000 in
set_option maxRecDepth 100000 in
theorem c_X3_readNumber (l : Launch) (dC : Nat → ClassId) (dI : Nat → Nat → Nat) (cI cJ cB : ClassId) (h h1 : Nat) (sz : Nat) (h_len : Int32) (h_limit : Int32) (h_pos0 : Int32) (h_sort0 : Int32) (h_start : Int32) (h_val0 : Int32) (h_tape : Nat → Int32) : Met l yX3_readNumber wo_X3_readNumber rm_X3_readNumber (pc_X3_readNumber dC dI cI cJ cB h h1 sz h_len h_limit h_pos0 h_sort0 h_start h_val0 h_tape) (qc_X3_readNumber dC dI cI cJ cB h h1 sz h_len h_limit h_pos0 h_sort0 h_start h_val0 h_tape) 0 0 (va_A (ww_X3_readNumber dC dI cI cJ cB h h1 sz h_len h_limit h_pos0 h_sort0 h_start h_val0 h_tape) sz) := by
  refine Met.ofW (cc := cX3_readNumber) (maxL := 3) (ret := none) (by decide) rfl ?_
  intro p e s m args below meth c s₁ B hml hv
  obtain ⟨rfl, hsz, hnw, hP, hK, hD0⟩ := hv
  have hx := B.exec
  have hb := B.bytes
  have hr := B.returns
  have hts := atoms_spec (ws := wo_X3_readNumber) B.pre
  have hown : s.vm.findClass RX3 = some m.cls := findClass_of_methodNamed B.named
  have hlocks := B.notSynchronized
  clear B
  subst hsz
  have hD := hD0.self (sz := s.heap.size)
  clear hD0
  have kk0_ := hts (.fieldLink RX3 46 "SumRewriter$Scanner" "value" "I") (by decide +kernel)
  have kk1_ : ∀ w ∈ wsX30, w ∈ wo_X3_readNumber := fun _ h => (List.mem_cons_of_mem _ (List.mem_append_right _ (List.mem_append_left _ h)))
  have kk2_ := hts (.fieldLink RX3 26 "SumRewriter$Scanner" "at" "I") (by decide +kernel)
  have kk3_ := hts (.fieldLink RX3 43 "SumRewriter$Scanner" "sort" "I") (by decide +kernel)
  have hA : ∀ q : Nat, s.heap.size ≤ q → (va_A (ww_X3_readNumber dC dI cI cJ cB h h1 s.heap.size h_len h_limit h_pos0 h_sort0 h_start h_val0 h_tape) s.heap.size) q := fun q h => Or.inr h
  have hS : va_S (va_A (ww_X3_readNumber dC dI cI cJ cB h h1 s.heap.size h_len h_limit h_pos0 h_sort0 h_start h_val0 h_tape) s.heap.size) s.heap s.heap [] := va_S.rf
  have hl := lv_entry ([.ref h]) (n := 3) (Nat.le_of_ble_eq_true rfl)
  rw [lg_entry_eq]
  generalize (lg_sl ([.ref h]) ++ List.replicate (3 - (lg_sl ([.ref h])).length) Slot.unset).toArray = ls at hl ⊢
  have hl : lv_has ls 3 [(0, .ref h)] := hl
  have hP : va_P (dC, dI) vwCl [(h, .inr (3, [.ref h1, .int h_len, .int h_limit, .int h_pos0, .int h_sort0, .int h_start, .int h_val0])), (h1, .inl (cI, 400, .inl h_tape))] s.heap := hP
  have hD : va_D (va_A (ww_X3_readNumber dC dI cI cJ cB h h1 s.heap.size h_len h_limit h_pos0 h_sort0 h_start h_val0 h_tape) s.heap.size) [(h, .inr (3, [.ref h1, .int h_len, .int h_limit, .int h_pos0, .int h_sort0, .int h_start, .int h_val0])), (h1, .inl (cI, 400, .inl h_tape))] := hD
  obtain ⟨H, hH⟩ : ∃ H, H = s.heap := ⟨_, rfl⟩
  obtain ⟨locs, hlc⟩ : ∃ L : List Loc, L = [] := ⟨_, rfl⟩
  have hS : va_S (va_A (ww_X3_readNumber dC dI cI cJ cB h h1 s.heap.size h_len h_limit h_pos0 h_sort0 h_start h_val0 h_tape) s.heap.size) s.heap H locs := by rw [hH, hlc]; exact hS
  have hP : va_P (dC, dI) vwCl [(h, .inr (3, [.ref h1, .int h_len, .int h_limit, .int h_pos0, .int h_sort0, .int h_start, .int h_val0])), (h1, .inl (cI, 400, .inl h_tape))] H := by rw [hH]; exact hP
  suffices hgo : WW_X3_readNumber p l e s m below meth c dC dI cI cJ cB h h1 s.heap.size h_len h_limit h_pos0 h_sort0 h_start h_val0 h_tape H locs (F0 m 0 ls []) by rw [hH, hlc] at hgo; exact hgo
  clear hH hlc
  have L_17 : ∀ (N_17 : Nat), ∀ (x1 : Int32) (x2 : Int32) (h_pos : Int32) (h_sort : Int32) (h_val : Int32), (0 ≤ x1.toInt ∧ x1.toInt ≤ 400) → ((400 - (x1 : Int32).toInt).toNat) < N_17 → ∀ (H : Heap) (locs : List Loc), va_P (dC, dI) vwCl [(h, .inr (3, [.ref h1, .int h_len, .int h_limit, .int h_pos, .int h_sort, .int h_start, .int h_val])), (h1, .inl (cI, 400, .inl h_tape))] H → va_D (va_A (ww_X3_readNumber dC dI cI cJ cB h h1 s.heap.size h_len h_limit h_pos0 h_sort0 h_start h_val0 h_tape) s.heap.size) [(h, .inr (3, [.ref h1, .int h_len, .int h_limit, .int h_pos, .int h_sort, .int h_start, .int h_val])), (h1, .inl (cI, 400, .inl h_tape))] → va_S (va_A (ww_X3_readNumber dC dI cI cJ cB h h1 s.heap.size h_len h_limit h_pos0 h_sort0 h_start h_val0 h_tape) s.heap.size) s.heap H locs → ∀ ls : Array Slot, lv_has ls 3 [(0, .ref h), (1, .int x1), (2, .int x2)] → WW_X3_readNumber p l e s m below meth c dC dI cI cJ cB h h1 s.heap.size h_len h_limit h_pos0 h_sort0 h_start h_val0 h_tape H locs (F0 m 17 ls []) := by
    intro N_17
    induction N_17 with
    | zero => intro x1 x2 h_pos h_sort h_val i17_0 hm; exact absurd hm (Nat.not_lt_zero _)
    | succ N_17 ih_17 =>
      intro x1 x2 h_pos h_sort h_val i17_0 hm_17 H locs hP hD hS ls hl
      have J_44 : ∀ (x1 : Int32) (x2 : Int32) (z1 : Int32) (h_pos : Int32) (h_sort : Int32) (h_val : Int32), (0 ≤ x1.toInt ∧ x1.toInt ≤ 399) → (((400 - (x1 : Int32).toInt).toNat) < N_17 + 1) → ∀ (H : Heap) (locs : List Loc), va_P (dC, dI) vwCl [(h, .inr (3, [.ref h1, .int h_len, .int h_limit, .int h_pos, .int h_sort, .int h_start, .int h_val])), (h1, .inl (cI, 400, .inl h_tape))] H → va_D (va_A (ww_X3_readNumber dC dI cI cJ cB h h1 s.heap.size h_len h_limit h_pos0 h_sort0 h_start h_val0 h_tape) s.heap.size) [(h, .inr (3, [.ref h1, .int h_len, .int h_limit, .int h_pos, .int h_sort, .int h_start, .int h_val])), (h1, .inl (cI, 400, .inl h_tape))] → va_S (va_A (ww_X3_readNumber dC dI cI cJ cB h h1 s.heap.size h_len h_limit h_pos0 h_sort0 h_start h_val0 h_tape) s.heap.size) s.heap H locs → ∀ ls : Array Slot, lv_has ls 3 [(0, .ref h), (1, .int x1), (2, .int x2)] → WW_X3_readNumber p l e s m below meth c dC dI cI cJ cB h h1 s.heap.size h_len h_limit h_pos0 h_sort0 h_start h_val0 h_tape H locs (F0 m 44 ls [.int z1, .ref h]) := by
        intro x1 x2 z1 h_pos h_sort h_val i44_0 i44_1 H locs hP hD hS ls hl
        refine va_put (D := (dC, dI)) (ci := 3) (v := .int z1) (ty := .int) (C := RX3) (T := TX3) (N := 7) hx hb hts kk1_ tyX3 tyX3_ok nmX3 hown hK hP hD hS 0 rfl rfl 6 (by decide) kk0_ (fun _ h9 => h9) rfl (by decide +kernel) rfl rfl (Nat.le_of_ble_eq_true rfl) dX3_readNumber_44 (fun H locs hP hD hS => ?_)
        have hP : va_P (dC, dI) vwCl [(h, .inr (3, [.ref h1, .int h_len, .int h_limit, .int h_pos, .int h_sort, .int h_start, .int z1])), (h1, .inl (cI, 400, .inl h_tape))] H := hP
        have hD : va_D (va_A (ww_X3_readNumber dC dI cI cJ cB h h1 s.heap.size h_len h_limit h_pos0 h_sort0 h_start h_val0 h_tape) s.heap.size) [(h, .inr (3, [.ref h1, .int h_len, .int h_limit, .int h_pos, .int h_sort, .int h_start, .int z1])), (h1, .inl (cI, 400, .inl h_tape))] := hD
        obtain ⟨x1_1, ex1_1⟩ : ∃ y : Int32, y = x1 + (1) := ⟨_, rfl⟩
        refine lv_iinc (v := x1_1) (lv' := [(1, .int x1_1), (0, .ref h), (2, .int x2)]) hx hb dX3_readNumber_47 hl (k := 1) rfl (by rw [ex1_1]; rfl) (by decide) rfl (fun ls hl => ?_)
        have tex1_1 : x1_1.toInt = x1.toInt + (1) := ti_inc ex1_1 (by decide) (by omega) (by omega)
        refine lv_aload_n hx hb dX3_readNumber_50 rfl (lv_at hl 1 rfl) ?_
        refine lv_dup hx hb dX3_readNumber_51 rfl ?_
        refine va_get (D := (dC, dI)) (ci := 3) (v := .int h_pos) (C := RX3) (T := TX3) (N := 7) hx hb hts kk1_ hown hK hP 0 rfl rfl 3 (by decide) kk2_ (fun _ h9 => h9) rfl dX3_readNumber_52 ?_
        refine lv_iconst (v := 1) hx hb dX3_readNumber_55 (by decide) ?_
        refine lv_iadd hx hb dX3_readNumber_56 ?_
        refine lv_topi (fun y_2 ey_2 => ?_)
        refine va_put (D := (dC, dI)) (ci := 3) (v := .int y_2) (ty := .int) (C := RX3) (T := TX3) (N := 7) hx hb hts kk1_ tyX3 tyX3_ok nmX3 hown hK hP hD hS 0 rfl rfl 3 (by decide) kk2_ (fun _ h9 => h9) rfl (by decide +kernel) rfl rfl (Nat.le_of_ble_eq_true rfl) dX3_readNumber_57 (fun H locs hP hD hS => ?_)
        have hP : va_P (dC, dI) vwCl [(h, .inr (3, [.ref h1, .int h_len, .int h_limit, .int y_2, .int h_sort, .int h_start, .int z1])), (h1, .inl (cI, 400, .inl h_tape))] H := hP
        have hD : va_D (va_A (ww_X3_readNumber dC dI cI cJ cB h h1 s.heap.size h_len h_limit h_pos0 h_sort0 h_start h_val0 h_tape) s.heap.size) [(h, .inr (3, [.ref h1, .int h_len, .int h_limit, .int y_2, .int h_sort, .int h_start, .int z1])), (h1, .inl (cI, 400, .inl h_tape))] := hD
        refine lv_aload_n hx hb dX3_readNumber_60 rfl (lv_at hl 1 rfl) ?_
        have hPc := hP.sub (ws' := [(h, .inr (3, [.ref h1, .int h_len, .int h_limit, .int y_2, .int h_sort, .int h_start, .int z1])), (h1, .inl (cI, 400, .inl h_tape))]) [0, 1] rfl
        have hDc := hD.sub (ws' := [(h, .inr (3, [.ref h1, .int h_len, .int h_limit, .int y_2, .int h_sort, .int h_start, .int z1])), (h1, .inl (cI, 400, .inl h_tape))]) [0, 1] (by decide) rfl
        have hFc := va_free (wc := [(h, .inr (3, [.ref h1, .int h_len, .int h_limit, .int y_2, .int h_sort, .int h_start, .int z1])), (h1, .inl (cI, 400, .inl h_tape))]) hD hS hA [0, 1] rfl
        refine va_calli (va_runV (As := []) (rest := []) ⟨hx, hb, hml, hown, hts⟩ (c_X3_look l dC dI cI cJ cB h h1 H.size h_len h_limit y_2 h_sort h_start z1 h_tape) (cwV 0 hts go_wo_X3_readNumber_1 rfl rfl rfl (by decide +kernel) ⟨Nat.le_of_ble_eq_true rfl, Nat.le_of_ble_eq_true rfl⟩) ⟨fun a U g mk q => by obtain ⟨q0, q1, qN, qP, qK, qD⟩ := q; exact ⟨q0, q1, NW.calling qN, qP, va_K.moved (u := U) (U := U.calling g mk a) (Vm.Alike.refl U.vm) qK, qD⟩, va_recv hK hPc (ci := 3) (q0 := 0) rfl rfl, fun U hU hW => ⟨rfl, by rw [hU], NW.warm hW hnw, by rw [hU]; exact hPc, va_K.moved hW.alike hK, hDc.weaken (fun _ _ _ _ => trivial)⟩⟩ rfl rfl hl.1 rfl (lv_room (Nat.le_of_ble_eq_true rfl)) dX3_readNumber_61 ⟨Nat.zero_le _, Nat.zero_le _⟩) hS (fun q _ h => hFc q h) hFc (fun r_3 u t H1 locs ht hvm hw hB hz1 hk1 hS => ?_)
        cases u
        obtain ⟨hP1, hK1, hD1⟩ := hB
        rw [ht] at hP1
        have hw : ((h_limit).toInt ≤ (y_2).toInt → r_3 = -1) := hw
        have h_4 := hw
        obtain ⟨hP, hD⟩ := va_join (wr := []) (w1 := [(h, .inr (3, [.ref h1, .int h_len, .int h_limit, .int y_2, .int h_sort, .int h_start, .int z1])), (h1, .inl (cI, 400, .inl h_tape))]) hP hD [0, 1] [] rfl rfl (by decide) (by decide) hk1 hFc hP1 hD1
        generalize H1 = H at hP hS ⊢
        have hP : va_P (dC, dI) vwCl [(h, .inr (3, [.ref h1, .int h_len, .int h_limit, .int y_2, .int h_sort, .int h_start, .int z1])), (h1, .inl (cI, 400, .inl h_tape))] H := hP
        have hD : va_D (va_A (ww_X3_readNumber dC dI cI cJ cB h h1 s.heap.size h_len h_limit h_pos0 h_sort0 h_start h_val0 h_tape) s.heap.size) [(h, .inr (3, [.ref h1, .int h_len, .int h_limit, .int y_2, .int h_sort, .int h_start, .int z1])), (h1, .inl (cI, 400, .inl h_tape))] := hD
        clear hPc hDc hFc hP1 hK1 hD1 hk1 hz1 ht hvm
        refine lv_istore_n (lv' := [(2, .int r_3), (1, .int x1_1), (0, .ref h)]) hx hb dX3_readNumber_64 rfl hl (by decide) rfl (fun ls hl => ?_)
        refine lv_goto (tgt := 17) hx hb dX3_readNumber_65 (by decide) ?_
        exact ih_17 x1_1 r_3 y_2 h_sort z1 (by first | assumption | omega | decide | (simp only [lt0, lt1, ltm1, lt400] at *; omega)) (by omega) _ _ (hP.sub [0, 1] rfl) (hD.sub [0, 1] (by decide) rfl) hS ls (lv_sub hl [2, 1, 0] rfl)
      refine lv_iload_n hx hb dX3_readNumber_17 rfl (lv_at hl 1 rfl) ?_
      refine lv_sipush (v := 400) hx hb dX3_readNumber_18 (by decide) ?_
      refine lv_icmp_ge (tgt := 68) hx hb dX3_readNumber_21 (by decide) (fun c_5 => ?_) (fun c_5 => ?_)
      · have tc_5 : 400 ≤ x1.toInt := tb_ge_t c_5
        have hP9 := hP.sub (ws' := [(h, .inr (3, [.ref h1, .int h_len, .int h_limit, .int h_pos, .int h_sort, .int h_start, .int h_val])), (h1, .inl (cI, 400, .inl h_tape))]) [0, 1] rfl
        have hD9 := hD.sub (ws' := [(h, .inr (3, [.ref h1, .int h_len, .int h_limit, .int h_pos, .int h_sort, .int h_start, .int h_val])), (h1, .inl (cI, 400, .inl h_tape))]) [0, 1] (by decide) rfl
        exact W.vret hx hb hr (fun t ht hW => ⟨⟨(h_pos, h_sort, h_val), rfl, trivial, by rw [ht]; exact hP9, va_K.moved hW.alike hK, hD9⟩, hS.F ht⟩) hS.2.2 dX3_readNumber_68
      · have tc_5 : x1.toInt < 400 := tb_ge_f c_5
        refine lv_iload_n hx hb dX3_readNumber_24 rfl (lv_at hl 2 rfl) ?_
        have hPc := hP.sub (ws' := []) [] rfl
        have hDc := hD.sub (ws' := []) [] (by decide) rfl
        have hFc := va_free (wc := []) hD hS hA [] rfl
        refine va_calli (va_runS (As := [.int x2]) (rest := []) ⟨hx, hb, hml, hown, hts⟩ (c_X3_isDigit l dC dI cI cJ cB  H.size x2) (va_cwS 1 hts go_wo_X3_readNumber_2 rfl rfl rfl (by decide +kernel) ⟨Nat.le_of_ble_eq_true rfl, Nat.le_of_ble_eq_true rfl⟩) ⟨fun a U g mk q => by obtain ⟨q0, q1, qN, qP, qK, qD⟩ := q; exact ⟨q0, q1, NW.calling qN, qP, va_K.moved (u := U) (U := U.calling g mk a) (Vm.Alike.refl U.vm) qK, qD⟩, fun U hU hW => ⟨rfl, by rw [hU], NW.warm hW hnw, by rw [hU]; exact hPc, va_K.moved hW.alike hK, hDc.weaken (fun _ _ _ _ => trivial)⟩⟩ rfl rfl hl.1 rfl (lv_room (Nat.le_of_ble_eq_true rfl)) dX3_readNumber_25 ⟨Nat.zero_le _, Nat.zero_le _⟩) hS (fun q _ h => hFc q h) hFc (fun r_6 u t H1 locs ht hvm hw hB hz1 hk1 hS => ?_)
        cases u
        obtain ⟨hP1, hK1, hD1⟩ := hB
        rw [ht] at hP1
        have hw : (r_6 = 0 ∨ r_6 = 1) := hw
        have h_7 := hw
        obtain ⟨hP, hD⟩ := va_join (wr := [(h, .inr (3, [.ref h1, .int h_len, .int h_limit, .int h_pos, .int h_sort, .int h_start, .int h_val])), (h1, .inl (cI, 400, .inl h_tape))]) (w1 := []) hP hD [] [0, 1] rfl rfl (by decide) (by decide) hk1 hFc hP1 hD1
        generalize H1 = H at hP hS ⊢
        have hP : va_P (dC, dI) vwCl [(h, .inr (3, [.ref h1, .int h_len, .int h_limit, .int h_pos, .int h_sort, .int h_start, .int h_val])), (h1, .inl (cI, 400, .inl h_tape))] H := hP
        have hD : va_D (va_A (ww_X3_readNumber dC dI cI cJ cB h h1 s.heap.size h_len h_limit h_pos0 h_sort0 h_start h_val0 h_tape) s.heap.size) [(h, .inr (3, [.ref h1, .int h_len, .int h_limit, .int h_pos, .int h_sort, .int h_start, .int h_val])), (h1, .inl (cI, 400, .inl h_tape))] := hD
        clear hPc hDc hFc hP1 hK1 hD1 hk1 hz1 ht hvm
        refine lv_if_eq (tgt := 68) hx hb dX3_readNumber_28 (by decide) (fun c_8 => ?_) (fun c_8 => ?_)
        · have tc_8 : r_6.toInt = 0 := tb_eq_t c_8
          have hP9 := hP.sub (ws' := [(h, .inr (3, [.ref h1, .int h_len, .int h_limit, .int h_pos, .int h_sort, .int h_start, .int h_val])), (h1, .inl (cI, 400, .inl h_tape))]) [0, 1] rfl
          have hD9 := hD.sub (ws' := [(h, .inr (3, [.ref h1, .int h_len, .int h_limit, .int h_pos, .int h_sort, .int h_start, .int h_val])), (h1, .inl (cI, 400, .inl h_tape))]) [0, 1] (by decide) rfl
          exact W.vret hx hb hr (fun t ht hW => ⟨⟨(h_pos, h_sort, h_val), rfl, trivial, by rw [ht]; exact hP9, va_K.moved hW.alike hK, hD9⟩, hS.F ht⟩) hS.2.2 dX3_readNumber_68
        · have tc_8 : ¬ (r_6.toInt = 0) := tb_eq_f c_8
          refine lv_aload_n hx hb dX3_readNumber_31 rfl (lv_at hl 0 rfl) ?_
          refine lv_iload_n hx hb dX3_readNumber_32 rfl (lv_at hl 1 rfl) ?_
          refine lv_if_ne (tgt := 43) hx hb dX3_readNumber_33 (by decide) (fun c_9 => ?_) (fun c_9 => ?_)
          · have tc_9 : ¬ (x1.toInt = 0) := tb_ne_t c_9
            refine lv_iconst (v := -1) hx hb dX3_readNumber_43 (by decide) ?_
            exact J_44 x1 x2 ((-1 : Int32)) h_pos h_sort h_val (by first | assumption | omega | decide | (simp only [lt0, lt1, ltm1, lt400] at *; omega)) (by first | assumption | omega | decide | (simp only [lt0, lt1, ltm1, lt400] at *; omega)) _ _ (hP.sub [0, 1] rfl) (hD.sub [0, 1] (by decide) rfl) hS ls (lv_sub hl [0, 1, 2] rfl)
          · have tc_9 : x1.toInt = 0 := tb_ne_f c_9
            refine lv_iload_n hx hb dX3_readNumber_36 rfl (lv_at hl 2 rfl) ?_
            refine lv_bipush (v := 48) hx hb dX3_readNumber_37 (by decide) ?_
            refine lv_isub hx hb dX3_readNumber_39 ?_
            refine lv_topi (fun y_10 ey_10 => ?_)
            refine lv_goto (tgt := 44) hx hb dX3_readNumber_40 (by decide) ?_
            exact J_44 x1 x2 y_10 h_pos h_sort h_val (by first | assumption | omega | decide | (simp only [lt0, lt1, ltm1, lt400] at *; omega)) (by first | assumption | omega | decide | (simp only [lt0, lt1, ltm1, lt400] at *; omega)) _ _ (hP.sub [0, 1] rfl) (hD.sub [0, 1] (by decide) rfl) hS ls (lv_sub hl [0, 1, 2] rfl)
  refine lv_aload_n hx hb dX3_readNumber_0 rfl (lv_at hl 0 rfl) ?_
  refine lv_iconst (v := 2) hx hb dX3_readNumber_1 (by decide) ?_
  refine va_put (D := (dC, dI)) (ci := 3) (v := .int ((2 : Int32))) (ty := .int) (C := RX3) (T := TX3) (N := 7) hx hb hts kk1_ tyX3 tyX3_ok nmX3 hown hK hP hD hS 0 rfl rfl 4 (by decide) kk3_ (fun _ h9 => h9) rfl (by decide +kernel) rfl rfl (Nat.le_of_ble_eq_true rfl) dX3_readNumber_2 (fun H locs hP hD hS => ?_)
  have hP : va_P (dC, dI) vwCl [(h, .inr (3, [.ref h1, .int h_len, .int h_limit, .int h_pos0, .int ((2 : Int32)), .int h_start, .int h_val0])), (h1, .inl (cI, 400, .inl h_tape))] H := hP
  have hD : va_D (va_A (ww_X3_readNumber dC dI cI cJ cB h h1 s.heap.size h_len h_limit h_pos0 h_sort0 h_start h_val0 h_tape) s.heap.size) [(h, .inr (3, [.ref h1, .int h_len, .int h_limit, .int h_pos0, .int ((2 : Int32)), .int h_start, .int h_val0])), (h1, .inl (cI, 400, .inl h_tape))] := hD
  refine lv_aload_n hx hb dX3_readNumber_5 rfl (lv_at hl 0 rfl) ?_
  refine lv_iconst (v := -1) hx hb dX3_readNumber_6 (by decide) ?_
  refine va_put (D := (dC, dI)) (ci := 3) (v := .int ((-1 : Int32))) (ty := .int) (C := RX3) (T := TX3) (N := 7) hx hb hts kk1_ tyX3 tyX3_ok nmX3 hown hK hP hD hS 0 rfl rfl 6 (by decide) kk0_ (fun _ h9 => h9) rfl (by decide +kernel) rfl rfl (Nat.le_of_ble_eq_true rfl) dX3_readNumber_7 (fun H locs hP hD hS => ?_)
  have hP : va_P (dC, dI) vwCl [(h, .inr (3, [.ref h1, .int h_len, .int h_limit, .int h_pos0, .int ((2 : Int32)), .int h_start, .int ((-1 : Int32))])), (h1, .inl (cI, 400, .inl h_tape))] H := hP
  have hD : va_D (va_A (ww_X3_readNumber dC dI cI cJ cB h h1 s.heap.size h_len h_limit h_pos0 h_sort0 h_start h_val0 h_tape) s.heap.size) [(h, .inr (3, [.ref h1, .int h_len, .int h_limit, .int h_pos0, .int ((2 : Int32)), .int h_start, .int ((-1 : Int32))])), (h1, .inl (cI, 400, .inl h_tape))] := hD
  refine lv_iconst (v := 0) hx hb dX3_readNumber_10 (by decide) ?_
  refine lv_istore_n (lv' := [(1, .int ((0 : Int32))), (0, .ref h)]) hx hb dX3_readNumber_11 rfl hl (by decide) rfl (fun ls hl => ?_)
  refine lv_aload_n hx hb dX3_readNumber_12 rfl (lv_at hl 1 rfl) ?_
  have hPc := hP.sub (ws' := [(h, .inr (3, [.ref h1, .int h_len, .int h_limit, .int h_pos0, .int ((2 : Int32)), .int h_start, .int ((-1 : Int32))])), (h1, .inl (cI, 400, .inl h_tape))]) [0, 1] rfl
  have hDc := hD.sub (ws' := [(h, .inr (3, [.ref h1, .int h_len, .int h_limit, .int h_pos0, .int ((2 : Int32)), .int h_start, .int ((-1 : Int32))])), (h1, .inl (cI, 400, .inl h_tape))]) [0, 1] (by decide) rfl
  have hFc := va_free (wc := [(h, .inr (3, [.ref h1, .int h_len, .int h_limit, .int h_pos0, .int ((2 : Int32)), .int h_start, .int ((-1 : Int32))])), (h1, .inl (cI, 400, .inl h_tape))]) hD hS hA [0, 1] rfl
  refine va_calli (va_runV (As := []) (rest := []) ⟨hx, hb, hml, hown, hts⟩ (c_X3_look l dC dI cI cJ cB h h1 H.size h_len h_limit h_pos0 ((2 : Int32)) h_start ((-1 : Int32)) h_tape) (cwV 0 hts go_wo_X3_readNumber_1 rfl rfl rfl (by decide +kernel) ⟨Nat.le_of_ble_eq_true rfl, Nat.le_of_ble_eq_true rfl⟩) ⟨fun a U g mk q => by obtain ⟨q0, q1, qN, qP, qK, qD⟩ := q; exact ⟨q0, q1, NW.calling qN, qP, va_K.moved (u := U) (U := U.calling g mk a) (Vm.Alike.refl U.vm) qK, qD⟩, va_recv hK hPc (ci := 3) (q0 := 0) rfl rfl, fun U hU hW => ⟨rfl, by rw [hU], NW.warm hW hnw, by rw [hU]; exact hPc, va_K.moved hW.alike hK, hDc.weaken (fun _ _ _ _ => trivial)⟩⟩ rfl rfl hl.1 rfl (lv_room (Nat.le_of_ble_eq_true rfl)) dX3_readNumber_13 ⟨Nat.zero_le _, Nat.zero_le _⟩) hS (fun q _ h => hFc q h) hFc (fun r_11 u t H1 locs ht hvm hw hB hz1 hk1 hS => ?_)
  cases u
  obtain ⟨hP1, hK1, hD1⟩ := hB
  rw [ht] at hP1
  have hw : ((h_limit).toInt ≤ (h_pos0).toInt → r_11 = -1) := hw
  have h_12 := hw
  obtain ⟨hP, hD⟩ := va_join (wr := []) (w1 := [(h, .inr (3, [.ref h1, .int h_len, .int h_limit, .int h_pos0, .int ((2 : Int32)), .int h_start, .int ((-1 : Int32))])), (h1, .inl (cI, 400, .inl h_tape))]) hP hD [0, 1] [] rfl rfl (by decide) (by decide) hk1 hFc hP1 hD1
  generalize H1 = H at hP hS ⊢
  have hP : va_P (dC, dI) vwCl [(h, .inr (3, [.ref h1, .int h_len, .int h_limit, .int h_pos0, .int ((2 : Int32)), .int h_start, .int ((-1 : Int32))])), (h1, .inl (cI, 400, .inl h_tape))] H := hP
  have hD : va_D (va_A (ww_X3_readNumber dC dI cI cJ cB h h1 s.heap.size h_len h_limit h_pos0 h_sort0 h_start h_val0 h_tape) s.heap.size) [(h, .inr (3, [.ref h1, .int h_len, .int h_limit, .int h_pos0, .int ((2 : Int32)), .int h_start, .int ((-1 : Int32))])), (h1, .inl (cI, 400, .inl h_tape))] := hD
  clear hPc hDc hFc hP1 hK1 hD1 hk1 hz1 ht hvm
  refine lv_istore_n (lv' := [(2, .int r_11), (1, .int ((0 : Int32))), (0, .ref h)]) hx hb dX3_readNumber_16 rfl hl (by decide) rfl (fun ls hl => ?_)
  exact L_17 (((400 - ((0 : Int32) : Int32).toInt).toNat) + 1) ((0 : Int32)) r_11 h_pos0 ((2 : Int32)) ((-1 : Int32)) (by first | assumption | omega | decide | (simp only [lt0, lt1, ltm1, lt400] at *; omega)) (Nat.lt_succ_self _) _ _ (hP.sub [0, 1] rfl) (hD.sub [0, 1] (by decide) rfl) hS ls (lv_sub hl [2, 1, 0] rfl)
def wo_X3_advance : List Cond := .code yX3_advance cX3_advance 3 none :: (([.fieldLink RX3 26 "SumRewriter$Scanner" "at" "I", .fieldLink RX3 40 "SumRewriter$Scanner" "start" "I", .fieldLink RX3 43 "SumRewriter$Scanner" "sort" "I", .fieldLink RX3 46 "SumRewriter$Scanner" "value" "I"] : List Cond) ++ ((wsX30) ++ ((va_wsS RX3 49 yX3_isLetter wo_X3_isLetter) ++ ((va_wsS RX3 55 yX3_isDigit wo_X3_isDigit) ++ ((wsV RX3 58 RX3 yX3_readNumber wo_X3_readNumber) ++ ((wsV RX3 52 RX3 yX3_readWord wo_X3_readWord) ++ ((va_wsS RX3 36 yX3_isBlank wo_X3_isBlank) ++ ((wsV RX3 32 RX3 yX3_look wo_X3_look)))))))))
set_option maxRecDepth 20000 in
theorem go_wo_X3_advance_1 : GoodIn wo_X3_advance (va_wsS RX3 49 yX3_isLetter wo_X3_isLetter) := goodIn_sub (fun _ h => (List.mem_cons_of_mem _ (List.mem_append_right _ (List.mem_append_right _ (List.mem_append_left _ h))))) (by decide +kernel)
set_option maxRecDepth 20000 in
theorem go_wo_X3_advance_2 : GoodIn wo_X3_advance (va_wsS RX3 55 yX3_isDigit wo_X3_isDigit) := goodIn_sub (fun _ h => (List.mem_cons_of_mem _ (List.mem_append_right _ (List.mem_append_right _ (List.mem_append_right _ (List.mem_append_left _ h)))))) (by decide +kernel)
set_option maxRecDepth 20000 in
theorem go_wo_X3_advance_3 : GoodIn wo_X3_advance (wsV RX3 58 RX3 yX3_readNumber wo_X3_readNumber) := goodIn_sub (fun _ h => (List.mem_cons_of_mem _ (List.mem_append_right _ (List.mem_append_right _ (List.mem_append_right _ (List.mem_append_right _ (List.mem_append_left _ h))))))) (by decide +kernel)
set_option maxRecDepth 20000 in
theorem go_wo_X3_advance_4 : GoodIn wo_X3_advance (wsV RX3 52 RX3 yX3_readWord wo_X3_readWord) := goodIn_sub (fun _ h => (List.mem_cons_of_mem _ (List.mem_append_right _ (List.mem_append_right _ (List.mem_append_right _ (List.mem_append_right _ (List.mem_append_right _ (List.mem_append_left _ h)))))))) (by decide +kernel)
set_option maxRecDepth 20000 in
theorem go_wo_X3_advance_5 : GoodIn wo_X3_advance (va_wsS RX3 36 yX3_isBlank wo_X3_isBlank) := goodIn_sub (fun _ h => (List.mem_cons_of_mem _ (List.mem_append_right _ (List.mem_append_right _ (List.mem_append_right _ (List.mem_append_right _ (List.mem_append_right _ (List.mem_append_right _ (List.mem_append_left _ h))))))))) (by decide +kernel)
set_option maxRecDepth 20000 in
theorem go_wo_X3_advance_6 : GoodIn wo_X3_advance (wsV RX3 32 RX3 yX3_look wo_X3_look) := goodIn_sub (fun _ h => (List.mem_cons_of_mem _ (List.mem_append_right _ (List.mem_append_right _ (List.mem_append_right _ (List.mem_append_right _ (List.mem_append_right _ (List.mem_append_right _ (List.mem_append_right _ h))))))))) (by decide +kernel)
abbrev ww_X3_advance (dC : Nat → ClassId) (dI : Nat → Nat → Nat) (cI cJ cB : ClassId) (h h1 : Nat) (sz : Nat) (h_len : Int32) (h_limit : Int32) (h_pos0 : Int32) (h_sort0 : Int32) (h_start0 : Int32) (h_val0 : Int32) (h_tape : Nat → Int32) : va_W := [(h, .inr (3, [.ref h1, .int h_len, .int h_limit, .int h_pos0, .int h_sort0, .int h_start0, .int h_val0])), (h1, .inl (cI, 400, .inl h_tape))]
abbrev at_X3_advance (dC : Nat → ClassId) (dI : Nat → Nat → Nat) (cI cJ cB : ClassId) (h h1 : Nat) (sz : Nat) (h_len : Int32) (h_limit : Int32) (h_pos0 : Int32) (h_sort0 : Int32) (h_start0 : Int32) (h_val0 : Int32) (h_tape : Nat → Int32) (u : Int32 × Int32 × Int32 × Int32) (t : State) : Prop := match u with
  | (h_pos, h_sort, h_start, h_val) => va_P (dC, dI) vwCl [(h, .inr (3, [.ref h1, .int h_len, .int h_limit, .int h_pos, .int h_sort, .int h_start, .int h_val])), (h1, .inl (cI, 400, .inl h_tape))] t.heap ∧ va_K (dC, dI) vwCl (tyL cI cJ cB) t ∧ va_D (va_A (ww_X3_advance dC dI cI cJ cB h h1 sz h_len h_limit h_pos0 h_sort0 h_start0 h_val0 h_tape) sz) [(h, .inr (3, [.ref h1, .int h_len, .int h_limit, .int h_pos, .int h_sort, .int h_start, .int h_val])), (h1, .inl (cI, 400, .inl h_tape))]
abbrev qc_X3_advance (dC : Nat → ClassId) (dI : Nat → Nat → Nat) (cI cJ cB : ClassId) (h h1 : Nat) (sz : Nat) (h_len : Int32) (h_limit : Int32) (h_pos0 : Int32) (h_sort0 : Int32) (h_start0 : Int32) (h_val0 : Int32) (h_tape : Nat → Int32) : Array Value → State → Outcome → State → Prop := va_Qv (fun (u : Int32 × Int32 × Int32 × Int32) => match u with | (h_pos, h_sort, h_start, h_val) => True) (at_X3_advance dC dI cI cJ cB h h1 sz h_len h_limit h_pos0 h_sort0 h_start0 h_val0 h_tape) (va_A (ww_X3_advance dC dI cI cJ cB h h1 sz h_len h_limit h_pos0 h_sort0 h_start0 h_val0 h_tape) sz)
abbrev pc_X3_advance (dC : Nat → ClassId) (dI : Nat → Nat → Nat) (cI cJ cB : ClassId) (h h1 : Nat) (sz : Nat) (h_len : Int32) (h_limit : Int32) (h_pos0 : Int32) (h_sort0 : Int32) (h_start0 : Int32) (h_val0 : Int32) (h_tape : Nat → Int32) : Array Value → State → Prop := va_Pc [.ref h] (fun U => U.heap.size = sz ∧ NW U ∧ va_P (dC, dI) vwCl (ww_X3_advance dC dI cI cJ cB h h1 sz h_len h_limit h_pos0 h_sort0 h_start0 h_val0 h_tape) U.heap ∧ va_K (dC, dI) vwCl (tyL cI cJ cB) U ∧ va_D (fun _ => True) (ww_X3_advance dC dI cI cJ cB h h1 sz h_len h_limit h_pos0 h_sort0 h_start0 h_val0 h_tape))
abbrev rm_X3_advance : Room := { frames := 2, cells := 0, slots := 0, locals := 42 }
abbrev WW_X3_advance (p : Program) (l : Launch) (e : Env) (s : State) (m : MethodId) (below : List Frame) (meth : Method) (c : Code) (dC : Nat → ClassId) (dI : Nat → Nat → Nat) (cI cJ cB : ClassId) (h h1 : Nat) (sz : Nat) (h_len : Int32) (h_limit : Int32) (h_pos0 : Int32) (h_sort0 : Int32) (h_start0 : Int32) (h_val0 : Int32) (h_tape : Nat → Int32) (H : Heap) (locs : List Loc) (g : JFrame) : Prop := W p l e rm_X3_advance s m ([.ref h] : List Value).toArray below meth c H locs 0 0 (MQ below (qc_X3_advance dC dI cI cJ cB h h1 sz h_len h_limit h_pos0 h_sort0 h_start0 h_val0 h_tape) ([.ref h] : List Value).toArray s 0 0 (va_A (ww_X3_advance dC dI cI cJ cB h h1 sz h_len h_limit h_pos0 h_sort0 h_start0 h_val0 h_tape) sz)) g
set_option maxHeartbeats 4000000 in
set_option maxRecDepth 100000 in
theorem c_X3_advance (l : Launch) (dC : Nat → ClassId) (dI : Nat → Nat → Nat) (cI cJ cB : ClassId) (h h1 : Nat) (sz : Nat) (h_len : Int32) (h_limit : Int32) (h_pos0 : Int32) (h_sort0 : Int32) (h_start0 : Int32) (h_val0 : Int32) (h_tape : Nat → Int32) : Met l yX3_advance wo_X3_advance rm_X3_advance (pc_X3_advance dC dI cI cJ cB h h1 sz h_len h_limit h_pos0 h_sort0 h_start0 h_val0 h_tape) (qc_X3_advance dC dI cI cJ cB h h1 sz h_len h_limit h_pos0 h_sort0 h_start0 h_val0 h_tape) 0 0 (va_A (ww_X3_advance dC dI cI cJ cB h h1 sz h_len h_limit h_pos0 h_sort0 h_start0 h_val0 h_tape) sz) := by
  refine Met.ofW (cc := cX3_advance) (maxL := 3) (ret := none) (by decide) rfl ?_
  intro p e s m args below meth c s₁ B hml hv
  obtain ⟨rfl, hsz, hnw, hP, hK, hD0⟩ := hv
  have hx := B.exec
  have hb := B.bytes
  have hr := B.returns
  have hts := atoms_spec (ws := wo_X3_advance) B.pre
  have hown : s.vm.findClass RX3 = some m.cls := findClass_of_methodNamed B.named
  have hlocks := B.notSynchronized
  clear B
  subst hsz
  have hD := hD0.self (sz := s.heap.size)
  clear hD0
  have kk0_ := hts (.fieldLink RX3 26 "SumRewriter$Scanner" "at" "I") (by decide +kernel)
  have kk1_ : ∀ w ∈ wsX30, w ∈ wo_X3_advance := fun _ h => (List.mem_cons_of_mem _ (List.mem_append_right _ (List.mem_append_left _ h)))
  have kk2_ := hts (.fieldLink RX3 40 "SumRewriter$Scanner" "start" "I") (by decide +kernel)
  have kk3_ := hts (.fieldLink RX3 43 "SumRewriter$Scanner" "sort" "I") (by decide +kernel)
  have kk4_ := hts (.fieldLink RX3 46 "SumRewriter$Scanner" "value" "I") (by decide +kernel)
  have hA : ∀ q : Nat, s.heap.size ≤ q → (va_A (ww_X3_advance dC dI cI cJ cB h h1 s.heap.size h_len h_limit h_pos0 h_sort0 h_start0 h_val0 h_tape) s.heap.size) q := fun q h => Or.inr h
  have hS : va_S (va_A (ww_X3_advance dC dI cI cJ cB h h1 s.heap.size h_len h_limit h_pos0 h_sort0 h_start0 h_val0 h_tape) s.heap.size) s.heap s.heap [] := va_S.rf
  have hl := lv_entry ([.ref h]) (n := 3) (Nat.le_of_ble_eq_true rfl)
  rw [lg_entry_eq]
  generalize (lg_sl ([.ref h]) ++ List.replicate (3 - (lg_sl ([.ref h])).length) Slot.unset).toArray = ls at hl ⊢
  have hl : lv_has ls 3 [(0, .ref h)] := hl
  have hP : va_P (dC, dI) vwCl [(h, .inr (3, [.ref h1, .int h_len, .int h_limit, .int h_pos0, .int h_sort0, .int h_start0, .int h_val0])), (h1, .inl (cI, 400, .inl h_tape))] s.heap := hP
  have hD : va_D (va_A (ww_X3_advance dC dI cI cJ cB h h1 s.heap.size h_len h_limit h_pos0 h_sort0 h_start0 h_val0 h_tape) s.heap.size) [(h, .inr (3, [.ref h1, .int h_len, .int h_limit, .int h_pos0, .int h_sort0, .int h_start0, .int h_val0])), (h1, .inl (cI, 400, .inl h_tape))] := hD
  obtain ⟨H, hH⟩ : ∃ H, H = s.heap := ⟨_, rfl⟩
  obtain ⟨locs, hlc⟩ : ∃ L : List Loc, L = [] := ⟨_, rfl⟩
  have hS : va_S (va_A (ww_X3_advance dC dI cI cJ cB h h1 s.heap.size h_len h_limit h_pos0 h_sort0 h_start0 h_val0 h_tape) s.heap.size) s.heap H locs := by rw [hH, hlc]; exact hS
  have hP : va_P (dC, dI) vwCl [(h, .inr (3, [.ref h1, .int h_len, .int h_limit, .int h_pos0, .int h_sort0, .int h_start0, .int h_val0])), (h1, .inl (cI, 400, .inl h_tape))] H := by rw [hH]; exact hP
  suffices hgo : WW_X3_advance p l e s m below meth c dC dI cI cJ cB h h1 s.heap.size h_len h_limit h_pos0 h_sort0 h_start0 h_val0 h_tape H locs (F0 m 0 ls []) by rw [hH, hlc] at hgo; exact hgo
  clear hH hlc
  have J_42 : ∀ (x1 : Int32) (x2 : Int32) (h_pos : Int32) (h_sort : Int32) (h_start : Int32) (h_val : Int32), ∀ (H : Heap) (locs : List Loc), va_P (dC, dI) vwCl [(h, .inr (3, [.ref h1, .int h_len, .int h_limit, .int h_pos, .int h_sort, .int h_start, .int h_val])), (h1, .inl (cI, 400, .inl h_tape))] H → va_D (va_A (ww_X3_advance dC dI cI cJ cB h h1 s.heap.size h_len h_limit h_pos0 h_sort0 h_start0 h_val0 h_tape) s.heap.size) [(h, .inr (3, [.ref h1, .int h_len, .int h_limit, .int h_pos, .int h_sort, .int h_start, .int h_val])), (h1, .inl (cI, 400, .inl h_tape))] → va_S (va_A (ww_X3_advance dC dI cI cJ cB h h1 s.heap.size h_len h_limit h_pos0 h_sort0 h_start0 h_val0 h_tape) s.heap.size) s.heap H locs → ∀ ls : Array Slot, lv_has ls 3 [(0, .ref h), (1, .int x1), (2, .int x2)] → WW_X3_advance p l e s m below meth c dC dI cI cJ cB h h1 s.heap.size h_len h_limit h_pos0 h_sort0 h_start0 h_val0 h_tape H locs (F0 m 42 ls []) := by
    intro x1 x2 h_pos h_sort h_start h_val  H locs hP hD hS ls hl
    refine lv_aload_n hx hb dX3_advance_42 rfl (lv_at hl 0 rfl) ?_
    refine lv_aload_n hx hb dX3_advance_43 rfl (lv_at hl 0 rfl) ?_
    refine va_get (D := (dC, dI)) (ci := 3) (v := .int h_pos) (C := RX3) (T := TX3) (N := 7) hx hb hts kk1_ hown hK hP 0 rfl rfl 3 (by decide) kk0_ (fun _ h9 => h9) rfl dX3_advance_44 ?_
    refine va_put (D := (dC, dI)) (ci := 3) (v := .int h_pos) (ty := .int) (C := RX3) (T := TX3) (N := 7) hx hb hts kk1_ tyX3 tyX3_ok nmX3 hown hK hP hD hS 0 rfl rfl 5 (by decide) kk2_ (fun _ h9 => h9) rfl (by decide +kernel) rfl rfl (Nat.le_of_ble_eq_true rfl) dX3_advance_47 (fun H locs hP hD hS => ?_)
    have hP : va_P (dC, dI) vwCl [(h, .inr (3, [.ref h1, .int h_len, .int h_limit, .int h_pos, .int h_sort, .int h_pos, .int h_val])), (h1, .inl (cI, 400, .inl h_tape))] H := hP
    have hD : va_D (va_A (ww_X3_advance dC dI cI cJ cB h h1 s.heap.size h_len h_limit h_pos0 h_sort0 h_start0 h_val0 h_tape) s.heap.size) [(h, .inr (3, [.ref h1, .int h_len, .int h_limit, .int h_pos, .int h_sort, .int h_pos, .int h_val])), (h1, .inl (cI, 400, .inl h_tape))] := hD
    refine lv_iload_n hx hb dX3_advance_50 rfl (lv_at hl 1 rfl) ?_
    refine lv_if_ge (tgt := 67) hx hb dX3_advance_51 (by decide) (fun c_1 => ?_) (fun c_1 => ?_)
    · have tc_1 : 0 ≤ x1.toInt := tb_ge_t c_1
      refine lv_iload_n hx hb dX3_advance_67 rfl (lv_at hl 1 rfl) ?_
      have hPc := hP.sub (ws' := []) [] rfl
      have hDc := hD.sub (ws' := []) [] (by decide) rfl
      have hFc := va_free (wc := []) hD hS hA [] rfl
      refine va_calli (va_runS (As := [.int x1]) (rest := []) ⟨hx, hb, hml, hown, hts⟩ (c_X3_isLetter l dC dI cI cJ cB  H.size x1) (va_cwS 1 hts go_wo_X3_advance_1 rfl rfl rfl (by decide +kernel) ⟨Nat.le_of_ble_eq_true rfl, Nat.le_of_ble_eq_true rfl⟩) ⟨fun a U g mk q => by obtain ⟨q0, q1, qN, qP, qK, qD⟩ := q; exact ⟨q0, q1, NW.calling qN, qP, va_K.moved (u := U) (U := U.calling g mk a) (Vm.Alike.refl U.vm) qK, qD⟩, fun U hU hW => ⟨rfl, by rw [hU], NW.warm hW hnw, by rw [hU]; exact hPc, va_K.moved hW.alike hK, hDc.weaken (fun _ _ _ _ => trivial)⟩⟩ rfl rfl hl.1 rfl (lv_room (Nat.le_of_ble_eq_true rfl)) dX3_advance_68 ⟨Nat.zero_le _, Nat.zero_le _⟩) hS (fun q _ h => hFc q h) hFc (fun r_2 u t H1 locs ht hvm hw hB hz1 hk1 hS => ?_)
      cases u
      obtain ⟨hP1, hK1, hD1⟩ := hB
      rw [ht] at hP1
      have hw : (r_2 = 0 ∨ r_2 = 1) := hw
      have h_3 := hw
      obtain ⟨hP, hD⟩ := va_join (wr := [(h, .inr (3, [.ref h1, .int h_len, .int h_limit, .int h_pos, .int h_sort, .int h_pos, .int h_val])), (h1, .inl (cI, 400, .inl h_tape))]) (w1 := []) hP hD [] [0, 1] rfl rfl (by decide) (by decide) hk1 hFc hP1 hD1
      generalize H1 = H at hP hS ⊢
      have hP : va_P (dC, dI) vwCl [(h, .inr (3, [.ref h1, .int h_len, .int h_limit, .int h_pos, .int h_sort, .int h_pos, .int h_val])), (h1, .inl (cI, 400, .inl h_tape))] H := hP
      have hD : va_D (va_A (ww_X3_advance dC dI cI cJ cB h h1 s.heap.size h_len h_limit h_pos0 h_sort0 h_start0 h_val0 h_tape) s.heap.size) [(h, .inr (3, [.ref h1, .int h_len, .int h_limit, .int h_pos, .int h_sort, .int h_pos, .int h_val])), (h1, .inl (cI, 400, .inl h_tape))] := hD
      clear hPc hDc hFc hP1 hK1 hD1 hk1 hz1 ht hvm
      refine lv_if_eq (tgt := 81) hx hb dX3_advance_71 (by decide) (fun c_4 => ?_) (fun c_4 => ?_)
      · have tc_4 : r_2.toInt = 0 := tb_eq_t c_4
        refine lv_iload_n hx hb dX3_advance_81 rfl (lv_at hl 1 rfl) ?_
        have hPc := hP.sub (ws' := []) [] rfl
        have hDc := hD.sub (ws' := []) [] (by decide) rfl
        have hFc := va_free (wc := []) hD hS hA [] rfl
        refine va_calli (va_runS (As := [.int x1]) (rest := []) ⟨hx, hb, hml, hown, hts⟩ (c_X3_isDigit l dC dI cI cJ cB  H.size x1) (va_cwS 1 hts go_wo_X3_advance_2 rfl rfl rfl (by decide +kernel) ⟨Nat.le_of_ble_eq_true rfl, Nat.le_of_ble_eq_true rfl⟩) ⟨fun a U g mk q => by obtain ⟨q0, q1, qN, qP, qK, qD⟩ := q; exact ⟨q0, q1, NW.calling qN, qP, va_K.moved (u := U) (U := U.calling g mk a) (Vm.Alike.refl U.vm) qK, qD⟩, fun U hU hW => ⟨rfl, by rw [hU], NW.warm hW hnw, by rw [hU]; exact hPc, va_K.moved hW.alike hK, hDc.weaken (fun _ _ _ _ => trivial)⟩⟩ rfl rfl hl.1 rfl (lv_room (Nat.le_of_ble_eq_true rfl)) dX3_advance_82 ⟨Nat.zero_le _, Nat.zero_le _⟩) hS (fun q _ h => hFc q h) hFc (fun r_5 u t H1 locs ht hvm hw hB hz1 hk1 hS => ?_)
        cases u
        obtain ⟨hP1, hK1, hD1⟩ := hB
        rw [ht] at hP1
        have hw : (r_5 = 0 ∨ r_5 = 1) := hw
        have h_6 := hw
        obtain ⟨hP, hD⟩ := va_join (wr := [(h, .inr (3, [.ref h1, .int h_len, .int h_limit, .int h_pos, .int h_sort, .int h_pos, .int h_val])), (h1, .inl (cI, 400, .inl h_tape))]) (w1 := []) hP hD [] [0, 1] rfl rfl (by decide) (by decide) hk1 hFc hP1 hD1
        generalize H1 = H at hP hS ⊢
        have hP : va_P (dC, dI) vwCl [(h, .inr (3, [.ref h1, .int h_len, .int h_limit, .int h_pos, .int h_sort, .int h_pos, .int h_val])), (h1, .inl (cI, 400, .inl h_tape))] H := hP
        have hD : va_D (va_A (ww_X3_advance dC dI cI cJ cB h h1 s.heap.size h_len h_limit h_pos0 h_sort0 h_start0 h_val0 h_tape) s.heap.size) [(h, .inr (3, [.ref h1, .int h_len, .int h_limit, .int h_pos, .int h_sort, .int h_pos, .int h_val])), (h1, .inl (cI, 400, .inl h_tape))] := hD
        clear hPc hDc hFc hP1 hK1 hD1 hk1 hz1 ht hvm
        refine lv_if_eq (tgt := 95) hx hb dX3_advance_85 (by decide) (fun c_7 => ?_) (fun c_7 => ?_)
        · have tc_7 : r_5.toInt = 0 := tb_eq_t c_7
          refine lv_aload_n hx hb dX3_advance_95 rfl (lv_at hl 0 rfl) ?_
          refine lv_iconst (v := 3) hx hb dX3_advance_96 (by decide) ?_
          refine va_put (D := (dC, dI)) (ci := 3) (v := .int ((3 : Int32))) (ty := .int) (C := RX3) (T := TX3) (N := 7) hx hb hts kk1_ tyX3 tyX3_ok nmX3 hown hK hP hD hS 0 rfl rfl 4 (by decide) kk3_ (fun _ h9 => h9) rfl (by decide +kernel) rfl rfl (Nat.le_of_ble_eq_true rfl) dX3_advance_97 (fun H locs hP hD hS => ?_)
          have hP : va_P (dC, dI) vwCl [(h, .inr (3, [.ref h1, .int h_len, .int h_limit, .int h_pos, .int ((3 : Int32)), .int h_pos, .int h_val])), (h1, .inl (cI, 400, .inl h_tape))] H := hP
          have hD : va_D (va_A (ww_X3_advance dC dI cI cJ cB h h1 s.heap.size h_len h_limit h_pos0 h_sort0 h_start0 h_val0 h_tape) s.heap.size) [(h, .inr (3, [.ref h1, .int h_len, .int h_limit, .int h_pos, .int ((3 : Int32)), .int h_pos, .int h_val])), (h1, .inl (cI, 400, .inl h_tape))] := hD
          refine lv_aload_n hx hb dX3_advance_100 rfl (lv_at hl 0 rfl) ?_
          refine lv_iload_n hx hb dX3_advance_101 rfl (lv_at hl 1 rfl) ?_
          refine va_put (D := (dC, dI)) (ci := 3) (v := .int x1) (ty := .int) (C := RX3) (T := TX3) (N := 7) hx hb hts kk1_ tyX3 tyX3_ok nmX3 hown hK hP hD hS 0 rfl rfl 6 (by decide) kk4_ (fun _ h9 => h9) rfl (by decide +kernel) rfl rfl (Nat.le_of_ble_eq_true rfl) dX3_advance_102 (fun H locs hP hD hS => ?_)
          have hP : va_P (dC, dI) vwCl [(h, .inr (3, [.ref h1, .int h_len, .int h_limit, .int h_pos, .int ((3 : Int32)), .int h_pos, .int x1])), (h1, .inl (cI, 400, .inl h_tape))] H := hP
          have hD : va_D (va_A (ww_X3_advance dC dI cI cJ cB h h1 s.heap.size h_len h_limit h_pos0 h_sort0 h_start0 h_val0 h_tape) s.heap.size) [(h, .inr (3, [.ref h1, .int h_len, .int h_limit, .int h_pos, .int ((3 : Int32)), .int h_pos, .int x1])), (h1, .inl (cI, 400, .inl h_tape))] := hD
          refine lv_aload_n hx hb dX3_advance_105 rfl (lv_at hl 0 rfl) ?_
          refine lv_dup hx hb dX3_advance_106 rfl ?_
          refine va_get (D := (dC, dI)) (ci := 3) (v := .int h_pos) (C := RX3) (T := TX3) (N := 7) hx hb hts kk1_ hown hK hP 0 rfl rfl 3 (by decide) kk0_ (fun _ h9 => h9) rfl dX3_advance_107 ?_
          refine lv_iconst (v := 1) hx hb dX3_advance_110 (by decide) ?_
          refine lv_iadd hx hb dX3_advance_111 ?_
          refine lv_topi (fun y_8 ey_8 => ?_)
          refine va_put (D := (dC, dI)) (ci := 3) (v := .int y_8) (ty := .int) (C := RX3) (T := TX3) (N := 7) hx hb hts kk1_ tyX3 tyX3_ok nmX3 hown hK hP hD hS 0 rfl rfl 3 (by decide) kk0_ (fun _ h9 => h9) rfl (by decide +kernel) rfl rfl (Nat.le_of_ble_eq_true rfl) dX3_advance_112 (fun H locs hP hD hS => ?_)
          have hP : va_P (dC, dI) vwCl [(h, .inr (3, [.ref h1, .int h_len, .int h_limit, .int y_8, .int ((3 : Int32)), .int h_pos, .int x1])), (h1, .inl (cI, 400, .inl h_tape))] H := hP
          have hD : va_D (va_A (ww_X3_advance dC dI cI cJ cB h h1 s.heap.size h_len h_limit h_pos0 h_sort0 h_start0 h_val0 h_tape) s.heap.size) [(h, .inr (3, [.ref h1, .int h_len, .int h_limit, .int y_8, .int ((3 : Int32)), .int h_pos, .int x1])), (h1, .inl (cI, 400, .inl h_tape))] := hD
          have hP9 := hP.sub (ws' := [(h, .inr (3, [.ref h1, .int h_len, .int h_limit, .int y_8, .int ((3 : Int32)), .int h_pos, .int x1])), (h1, .inl (cI, 400, .inl h_tape))]) [0, 1] rfl
          have hD9 := hD.sub (ws' := [(h, .inr (3, [.ref h1, .int h_len, .int h_limit, .int y_8, .int ((3 : Int32)), .int h_pos, .int x1])), (h1, .inl (cI, 400, .inl h_tape))]) [0, 1] (by decide) rfl
          exact W.vret hx hb hr (fun t ht hW => ⟨⟨(y_8, (3 : Int32), h_pos, x1), rfl, trivial, by rw [ht]; exact hP9, va_K.moved hW.alike hK, hD9⟩, hS.F ht⟩) hS.2.2 dX3_advance_115
        · have tc_7 : ¬ (r_5.toInt = 0) := tb_eq_f c_7
          refine lv_aload_n hx hb dX3_advance_88 rfl (lv_at hl 0 rfl) ?_
          have hPc := hP.sub (ws' := [(h, .inr (3, [.ref h1, .int h_len, .int h_limit, .int h_pos, .int h_sort, .int h_pos, .int h_val])), (h1, .inl (cI, 400, .inl h_tape))]) [0, 1] rfl
          have hDc := hD.sub (ws' := [(h, .inr (3, [.ref h1, .int h_len, .int h_limit, .int h_pos, .int h_sort, .int h_pos, .int h_val])), (h1, .inl (cI, 400, .inl h_tape))]) [0, 1] (by decide) rfl
          have hFc := va_free (wc := [(h, .inr (3, [.ref h1, .int h_len, .int h_limit, .int h_pos, .int h_sort, .int h_pos, .int h_val])), (h1, .inl (cI, 400, .inl h_tape))]) hD hS hA [0, 1] rfl
          refine va_callv (va_runV (As := []) (rest := []) ⟨hx, hb, hml, hown, hts⟩ (c_X3_readNumber l dC dI cI cJ cB h h1 H.size h_len h_limit h_pos h_sort h_pos h_val h_tape) (cwV 0 hts go_wo_X3_advance_3 rfl rfl rfl (by decide +kernel) ⟨Nat.le_of_ble_eq_true rfl, Nat.le_of_ble_eq_true rfl⟩) ⟨fun a U g mk q => by obtain ⟨q0, q1, qN, qP, qK, qD⟩ := q; exact ⟨q0, q1, NW.calling qN, qP, va_K.moved (u := U) (U := U.calling g mk a) (Vm.Alike.refl U.vm) qK, qD⟩, va_recv hK hPc (ci := 3) (q0 := 0) rfl rfl, fun U hU hW => ⟨rfl, by rw [hU], NW.warm hW hnw, by rw [hU]; exact hPc, va_K.moved hW.alike hK, hDc.weaken (fun _ _ _ _ => trivial)⟩⟩ rfl rfl hl.1 rfl (lv_room (Nat.le_of_ble_eq_true rfl)) dX3_advance_89 ⟨Nat.zero_le _, Nat.zero_le _⟩) hS (fun q _ h => hFc q h) hFc (fun u t H1 locs ht hvm hw hB hz1 hk1 hS => ?_)
          obtain ⟨h_pos_10, h_sort_11, h_val_12⟩ := u
          obtain ⟨hP1, hK1, hD1⟩ := hB
          rw [ht] at hP1
          clear hw
          obtain ⟨hP, hD⟩ := va_join (wr := []) (w1 := [(h, .inr (3, [.ref h1, .int h_len, .int h_limit, .int h_pos_10, .int h_sort_11, .int h_pos, .int h_val_12])), (h1, .inl (cI, 400, .inl h_tape))]) hP hD [0, 1] [] rfl rfl (by decide) (by decide) hk1 hFc hP1 hD1
          generalize H1 = H at hP hS ⊢
          have hP : va_P (dC, dI) vwCl [(h, .inr (3, [.ref h1, .int h_len, .int h_limit, .int h_pos_10, .int h_sort_11, .int h_pos, .int h_val_12])), (h1, .inl (cI, 400, .inl h_tape))] H := hP
          have hD : va_D (va_A (ww_X3_advance dC dI cI cJ cB h h1 s.heap.size h_len h_limit h_pos0 h_sort0 h_start0 h_val0 h_tape) s.heap.size) [(h, .inr (3, [.ref h1, .int h_len, .int h_limit, .int h_pos_10, .int h_sort_11, .int h_pos, .int h_val_12])), (h1, .inl (cI, 400, .inl h_tape))] := hD
          clear hPc hDc hFc hP1 hK1 hD1 hk1 hz1 ht hvm
          refine lv_goto (tgt := 115) hx hb dX3_advance_92 (by decide) ?_
          have hP9 := hP.sub (ws' := [(h, .inr (3, [.ref h1, .int h_len, .int h_limit, .int h_pos_10, .int h_sort_11, .int h_pos, .int h_val_12])), (h1, .inl (cI, 400, .inl h_tape))]) [0, 1] rfl
          have hD9 := hD.sub (ws' := [(h, .inr (3, [.ref h1, .int h_len, .int h_limit, .int h_pos_10, .int h_sort_11, .int h_pos, .int h_val_12])), (h1, .inl (cI, 400, .inl h_tape))]) [0, 1] (by decide) rfl
          exact W.vret hx hb hr (fun t ht hW => ⟨⟨(h_pos_10, h_sort_11, h_pos, h_val_12), rfl, trivial, by rw [ht]; exact hP9, va_K.moved hW.alike hK, hD9⟩, hS.F ht⟩) hS.2.2 dX3_advance_115
      · have tc_4 : ¬ (r_2.toInt = 0) := tb_eq_f c_4
        refine lv_aload_n hx hb dX3_advance_74 rfl (lv_at hl 0 rfl) ?_
        have hPc := hP.sub (ws' := [(h, .inr (3, [.ref h1, .int h_len, .int h_limit, .int h_pos, .int h_sort, .int h_pos, .int h_val])), (h1, .inl (cI, 400, .inl h_tape))]) [0, 1] rfl
        have hDc := hD.sub (ws' := [(h, .inr (3, [.ref h1, .int h_len, .int h_limit, .int h_pos, .int h_sort, .int h_pos, .int h_val])), (h1, .inl (cI, 400, .inl h_tape))]) [0, 1] (by decide) rfl
        have hFc := va_free (wc := [(h, .inr (3, [.ref h1, .int h_len, .int h_limit, .int h_pos, .int h_sort, .int h_pos, .int h_val])), (h1, .inl (cI, 400, .inl h_tape))]) hD hS hA [0, 1] rfl
        refine va_callv (va_runV (As := []) (rest := []) ⟨hx, hb, hml, hown, hts⟩ (c_X3_readWord l dC dI cI cJ cB h h1 H.size h_len h_limit h_pos h_sort h_pos h_val h_tape) (cwV 0 hts go_wo_X3_advance_4 rfl rfl rfl (by decide +kernel) ⟨Nat.le_of_ble_eq_true rfl, Nat.le_of_ble_eq_true rfl⟩) ⟨fun a U g mk q => by obtain ⟨q0, q1, qN, qP, qK, qD⟩ := q; exact ⟨q0, q1, NW.calling qN, qP, va_K.moved (u := U) (U := U.calling g mk a) (Vm.Alike.refl U.vm) qK, qD⟩, va_recv hK hPc (ci := 3) (q0 := 0) rfl rfl, fun U hU hW => ⟨rfl, by rw [hU], NW.warm hW hnw, by rw [hU]; exact hPc, va_K.moved hW.alike hK, hDc.weaken (fun _ _ _ _ => trivial)⟩⟩ rfl rfl hl.1 rfl (lv_room (Nat.le_of_ble_eq_true rfl)) dX3_advance_75 ⟨Nat.zero_le _, Nat.zero_le _⟩) hS (fun q _ h => hFc q h) hFc (fun u t H1 locs ht hvm hw hB hz1 hk1 hS => ?_)
        obtain ⟨h_pos_14, h_sort_15, h_val_16⟩ := u
        obtain ⟨hP1, hK1, hD1⟩ := hB
        rw [ht] at hP1
        clear hw
        obtain ⟨hP, hD⟩ := va_join (wr := []) (w1 := [(h, .inr (3, [.ref h1, .int h_len, .int h_limit, .int h_pos_14, .int h_sort_15, .int h_pos, .int h_val_16])), (h1, .inl (cI, 400, .inl h_tape))]) hP hD [0, 1] [] rfl rfl (by decide) (by decide) hk1 hFc hP1 hD1
        generalize H1 = H at hP hS ⊢
        have hP : va_P (dC, dI) vwCl [(h, .inr (3, [.ref h1, .int h_len, .int h_limit, .int h_pos_14, .int h_sort_15, .int h_pos, .int h_val_16])), (h1, .inl (cI, 400, .inl h_tape))] H := hP
        have hD : va_D (va_A (ww_X3_advance dC dI cI cJ cB h h1 s.heap.size h_len h_limit h_pos0 h_sort0 h_start0 h_val0 h_tape) s.heap.size) [(h, .inr (3, [.ref h1, .int h_len, .int h_limit, .int h_pos_14, .int h_sort_15, .int h_pos, .int h_val_16])), (h1, .inl (cI, 400, .inl h_tape))] := hD
        clear hPc hDc hFc hP1 hK1 hD1 hk1 hz1 ht hvm
        refine lv_goto (tgt := 115) hx hb dX3_advance_78 (by decide) ?_
        have hP9 := hP.sub (ws' := [(h, .inr (3, [.ref h1, .int h_len, .int h_limit, .int h_pos_14, .int h_sort_15, .int h_pos, .int h_val_16])), (h1, .inl (cI, 400, .inl h_tape))]) [0, 1] rfl
        have hD9 := hD.sub (ws' := [(h, .inr (3, [.ref h1, .int h_len, .int h_limit, .int h_pos_14, .int h_sort_15, .int h_pos, .int h_val_16])), (h1, .inl (cI, 400, .inl h_tape))]) [0, 1] (by decide) rfl
        exact W.vret hx hb hr (fun t ht hW => ⟨⟨(h_pos_14, h_sort_15, h_pos, h_val_16), rfl, trivial, by rw [ht]; exact hP9, va_K.moved hW.alike hK, hD9⟩, hS.F ht⟩) hS.2.2 dX3_advance_115
    · have tc_1 : x1.toInt < 0 := tb_ge_f c_1
      refine lv_aload_n hx hb dX3_advance_54 rfl (lv_at hl 0 rfl) ?_
      refine lv_iconst (v := 0) hx hb dX3_advance_55 (by decide) ?_
      refine va_put (D := (dC, dI)) (ci := 3) (v := .int ((0 : Int32))) (ty := .int) (C := RX3) (T := TX3) (N := 7) hx hb hts kk1_ tyX3 tyX3_ok nmX3 hown hK hP hD hS 0 rfl rfl 4 (by decide) kk3_ (fun _ h9 => h9) rfl (by decide +kernel) rfl rfl (Nat.le_of_ble_eq_true rfl) dX3_advance_56 (fun H locs hP hD hS => ?_)
      have hP : va_P (dC, dI) vwCl [(h, .inr (3, [.ref h1, .int h_len, .int h_limit, .int h_pos, .int ((0 : Int32)), .int h_pos, .int h_val])), (h1, .inl (cI, 400, .inl h_tape))] H := hP
      have hD : va_D (va_A (ww_X3_advance dC dI cI cJ cB h h1 s.heap.size h_len h_limit h_pos0 h_sort0 h_start0 h_val0 h_tape) s.heap.size) [(h, .inr (3, [.ref h1, .int h_len, .int h_limit, .int h_pos, .int ((0 : Int32)), .int h_pos, .int h_val])), (h1, .inl (cI, 400, .inl h_tape))] := hD
      refine lv_aload_n hx hb dX3_advance_59 rfl (lv_at hl 0 rfl) ?_
      refine lv_iconst (v := 0) hx hb dX3_advance_60 (by decide) ?_
      refine va_put (D := (dC, dI)) (ci := 3) (v := .int ((0 : Int32))) (ty := .int) (C := RX3) (T := TX3) (N := 7) hx hb hts kk1_ tyX3 tyX3_ok nmX3 hown hK hP hD hS 0 rfl rfl 6 (by decide) kk4_ (fun _ h9 => h9) rfl (by decide +kernel) rfl rfl (Nat.le_of_ble_eq_true rfl) dX3_advance_61 (fun H locs hP hD hS => ?_)
      have hP : va_P (dC, dI) vwCl [(h, .inr (3, [.ref h1, .int h_len, .int h_limit, .int h_pos, .int ((0 : Int32)), .int h_pos, .int ((0 : Int32))])), (h1, .inl (cI, 400, .inl h_tape))] H := hP
      have hD : va_D (va_A (ww_X3_advance dC dI cI cJ cB h h1 s.heap.size h_len h_limit h_pos0 h_sort0 h_start0 h_val0 h_tape) s.heap.size) [(h, .inr (3, [.ref h1, .int h_len, .int h_limit, .int h_pos, .int ((0 : Int32)), .int h_pos, .int ((0 : Int32))])), (h1, .inl (cI, 400, .inl h_tape))] := hD
      refine lv_goto (tgt := 115) hx hb dX3_advance_64 (by decide) ?_
      have hP9 := hP.sub (ws' := [(h, .inr (3, [.ref h1, .int h_len, .int h_limit, .int h_pos, .int ((0 : Int32)), .int h_pos, .int ((0 : Int32))])), (h1, .inl (cI, 400, .inl h_tape))]) [0, 1] rfl
      have hD9 := hD.sub (ws' := [(h, .inr (3, [.ref h1, .int h_len, .int h_limit, .int h_pos, .int ((0 : Int32)), .int h_pos, .int ((0 : Int32))])), (h1, .inl (cI, 400, .inl h_tape))]) [0, 1] (by decide) rfl
      exact W.vret hx hb hr (fun t ht hW => ⟨⟨(h_pos, (0 : Int32), h_pos, (0 : Int32)), rfl, trivial, by rw [ht]; exact hP9, va_K.moved hW.alike hK, hD9⟩, hS.F ht⟩) hS.2.2 dX3_advance_115
  have L_7 : ∀ (N_7 : Nat), ∀ (x1 : Int32) (x2 : Int32) (h_pos : Int32) (h_sort : Int32) (h_start : Int32) (h_val : Int32), (0 ≤ x2.toInt ∧ x2.toInt ≤ 400) → ((400 - (x2 : Int32).toInt).toNat) < N_7 → ∀ (H : Heap) (locs : List Loc), va_P (dC, dI) vwCl [(h, .inr (3, [.ref h1, .int h_len, .int h_limit, .int h_pos, .int h_sort, .int h_start, .int h_val])), (h1, .inl (cI, 400, .inl h_tape))] H → va_D (va_A (ww_X3_advance dC dI cI cJ cB h h1 s.heap.size h_len h_limit h_pos0 h_sort0 h_start0 h_val0 h_tape) s.heap.size) [(h, .inr (3, [.ref h1, .int h_len, .int h_limit, .int h_pos, .int h_sort, .int h_start, .int h_val])), (h1, .inl (cI, 400, .inl h_tape))] → va_S (va_A (ww_X3_advance dC dI cI cJ cB h h1 s.heap.size h_len h_limit h_pos0 h_sort0 h_start0 h_val0 h_tape) s.heap.size) s.heap H locs → ∀ ls : Array Slot, lv_has ls 3 [(0, .ref h), (1, .int x1), (2, .int x2)] → WW_X3_advance p l e s m below meth c dC dI cI cJ cB h h1 s.heap.size h_len h_limit h_pos0 h_sort0 h_start0 h_val0 h_tape H locs (F0 m 7 ls []) := by
    intro N_7
    induction N_7 with
    | zero => intro x1 x2 h_pos h_sort h_start h_val i7_0 hm; exact absurd hm (Nat.not_lt_zero _)
    | succ N_7 ih_7 =>
      intro x1 x2 h_pos h_sort h_start h_val i7_0 hm_7 H locs hP hD hS ls hl
      refine lv_iload_n hx hb dX3_advance_7 rfl (lv_at hl 2 rfl) ?_
      refine lv_sipush (v := 400) hx hb dX3_advance_8 (by decide) ?_
      refine lv_icmp_ge (tgt := 42) hx hb dX3_advance_11 (by decide) (fun c_17 => ?_) (fun c_17 => ?_)
      · have tc_17 : 400 ≤ x2.toInt := tb_ge_t c_17
        exact J_42 x1 x2 h_pos h_sort h_start h_val _ _ (hP.sub [0, 1] rfl) (hD.sub [0, 1] (by decide) rfl) hS ls (lv_sub hl [0, 1, 2] rfl)
      · have tc_17 : x2.toInt < 400 := tb_ge_f c_17
        refine lv_iload_n hx hb dX3_advance_14 rfl (lv_at hl 1 rfl) ?_
        have hPc := hP.sub (ws' := []) [] rfl
        have hDc := hD.sub (ws' := []) [] (by decide) rfl
        have hFc := va_free (wc := []) hD hS hA [] rfl
        refine va_calli (va_runS (As := [.int x1]) (rest := []) ⟨hx, hb, hml, hown, hts⟩ (c_X3_isBlank l dC dI cI cJ cB  H.size x1) (va_cwS 1 hts go_wo_X3_advance_5 rfl rfl rfl (by decide +kernel) ⟨Nat.le_of_ble_eq_true rfl, Nat.le_of_ble_eq_true rfl⟩) ⟨fun a U g mk q => by obtain ⟨q0, q1, qN, qP, qK, qD⟩ := q; exact ⟨q0, q1, NW.calling qN, qP, va_K.moved (u := U) (U := U.calling g mk a) (Vm.Alike.refl U.vm) qK, qD⟩, fun U hU hW => ⟨rfl, by rw [hU], NW.warm hW hnw, by rw [hU]; exact hPc, va_K.moved hW.alike hK, hDc.weaken (fun _ _ _ _ => trivial)⟩⟩ rfl rfl hl.1 rfl (lv_room (Nat.le_of_ble_eq_true rfl)) dX3_advance_15 ⟨Nat.zero_le _, Nat.zero_le _⟩) hS (fun q _ h => hFc q h) hFc (fun r_18 u t H1 locs ht hvm hw hB hz1 hk1 hS => ?_)
        cases u
        obtain ⟨hP1, hK1, hD1⟩ := hB
        rw [ht] at hP1
        have hw : (r_18 = 0 ∨ r_18 = 1) := hw
        have h_19 := hw
        obtain ⟨hP, hD⟩ := va_join (wr := [(h, .inr (3, [.ref h1, .int h_len, .int h_limit, .int h_pos, .int h_sort, .int h_start, .int h_val])), (h1, .inl (cI, 400, .inl h_tape))]) (w1 := []) hP hD [] [0, 1] rfl rfl (by decide) (by decide) hk1 hFc hP1 hD1
        generalize H1 = H at hP hS ⊢
        have hP : va_P (dC, dI) vwCl [(h, .inr (3, [.ref h1, .int h_len, .int h_limit, .int h_pos, .int h_sort, .int h_start, .int h_val])), (h1, .inl (cI, 400, .inl h_tape))] H := hP
        have hD : va_D (va_A (ww_X3_advance dC dI cI cJ cB h h1 s.heap.size h_len h_limit h_pos0 h_sort0 h_start0 h_val0 h_tape) s.heap.size) [(h, .inr (3, [.ref h1, .int h_len, .int h_limit, .int h_pos, .int h_sort, .int h_start, .int h_val])), (h1, .inl (cI, 400, .inl h_tape))] := hD
        clear hPc hDc hFc hP1 hK1 hD1 hk1 hz1 ht hvm
        refine lv_if_eq (tgt := 42) hx hb dX3_advance_18 (by decide) (fun c_20 => ?_) (fun c_20 => ?_)
        · have tc_20 : r_18.toInt = 0 := tb_eq_t c_20
          exact J_42 x1 x2 h_pos h_sort h_start h_val _ _ (hP.sub [0, 1] rfl) (hD.sub [0, 1] (by decide) rfl) hS ls (lv_sub hl [0, 1, 2] rfl)
        · have tc_20 : ¬ (r_18.toInt = 0) := tb_eq_f c_20
          refine lv_aload_n hx hb dX3_advance_21 rfl (lv_at hl 0 rfl) ?_
          refine lv_dup hx hb dX3_advance_22 rfl ?_
          refine va_get (D := (dC, dI)) (ci := 3) (v := .int h_pos) (C := RX3) (T := TX3) (N := 7) hx hb hts kk1_ hown hK hP 0 rfl rfl 3 (by decide) kk0_ (fun _ h9 => h9) rfl dX3_advance_23 ?_
          refine lv_iconst (v := 1) hx hb dX3_advance_26 (by decide) ?_
          refine lv_iadd hx hb dX3_advance_27 ?_
          refine lv_topi (fun y_21 ey_21 => ?_)
          refine va_put (D := (dC, dI)) (ci := 3) (v := .int y_21) (ty := .int) (C := RX3) (T := TX3) (N := 7) hx hb hts kk1_ tyX3 tyX3_ok nmX3 hown hK hP hD hS 0 rfl rfl 3 (by decide) kk0_ (fun _ h9 => h9) rfl (by decide +kernel) rfl rfl (Nat.le_of_ble_eq_true rfl) dX3_advance_28 (fun H locs hP hD hS => ?_)
          have hP : va_P (dC, dI) vwCl [(h, .inr (3, [.ref h1, .int h_len, .int h_limit, .int y_21, .int h_sort, .int h_start, .int h_val])), (h1, .inl (cI, 400, .inl h_tape))] H := hP
          have hD : va_D (va_A (ww_X3_advance dC dI cI cJ cB h h1 s.heap.size h_len h_limit h_pos0 h_sort0 h_start0 h_val0 h_tape) s.heap.size) [(h, .inr (3, [.ref h1, .int h_len, .int h_limit, .int y_21, .int h_sort, .int h_start, .int h_val])), (h1, .inl (cI, 400, .inl h_tape))] := hD
          refine lv_aload_n hx hb dX3_advance_31 rfl (lv_at hl 0 rfl) ?_
          have hPc := hP.sub (ws' := [(h, .inr (3, [.ref h1, .int h_len, .int h_limit, .int y_21, .int h_sort, .int h_start, .int h_val])), (h1, .inl (cI, 400, .inl h_tape))]) [0, 1] rfl
          have hDc := hD.sub (ws' := [(h, .inr (3, [.ref h1, .int h_len, .int h_limit, .int y_21, .int h_sort, .int h_start, .int h_val])), (h1, .inl (cI, 400, .inl h_tape))]) [0, 1] (by decide) rfl
          have hFc := va_free (wc := [(h, .inr (3, [.ref h1, .int h_len, .int h_limit, .int y_21, .int h_sort, .int h_start, .int h_val])), (h1, .inl (cI, 400, .inl h_tape))]) hD hS hA [0, 1] rfl
          refine va_calli (va_runV (As := []) (rest := []) ⟨hx, hb, hml, hown, hts⟩ (c_X3_look l dC dI cI cJ cB h h1 H.size h_len h_limit y_21 h_sort h_start h_val h_tape) (cwV 0 hts go_wo_X3_advance_6 rfl rfl rfl (by decide +kernel) ⟨Nat.le_of_ble_eq_true rfl, Nat.le_of_ble_eq_true rfl⟩) ⟨fun a U g mk q => by obtain ⟨q0, q1, qN, qP, qK, qD⟩ := q; exact ⟨q0, q1, NW.calling qN, qP, va_K.moved (u := U) (U := U.calling g mk a) (Vm.Alike.refl U.vm) qK, qD⟩, va_recv hK hPc (ci := 3) (q0 := 0) rfl rfl, fun U hU hW => ⟨rfl, by rw [hU], NW.warm hW hnw, by rw [hU]; exact hPc, va_K.moved hW.alike hK, hDc.weaken (fun _ _ _ _ => trivial)⟩⟩ rfl rfl hl.1 rfl (lv_room (Nat.le_of_ble_eq_true rfl)) dX3_advance_32 ⟨Nat.zero_le _, Nat.zero_le _⟩) hS (fun q _ h => hFc q h) hFc (fun r_22 u t H1 locs ht hvm hw hB hz1 hk1 hS => ?_)
          cases u
          obtain ⟨hP1, hK1, hD1⟩ := hB
          rw [ht] at hP1
          have hw : ((h_limit).toInt ≤ (y_21).toInt → r_22 = -1) := hw
          have h_23 := hw
          obtain ⟨hP, hD⟩ := va_join (wr := []) (w1 := [(h, .inr (3, [.ref h1, .int h_len, .int h_limit, .int y_21, .int h_sort, .int h_start, .int h_val])), (h1, .inl (cI, 400, .inl h_tape))]) hP hD [0, 1] [] rfl rfl (by decide) (by decide) hk1 hFc hP1 hD1
          generalize H1 = H at hP hS ⊢
          have hP : va_P (dC, dI) vwCl [(h, .inr (3, [.ref h1, .int h_len, .int h_limit, .int y_21, .int h_sort, .int h_start, .int h_val])), (h1, .inl (cI, 400, .inl h_tape))] H := hP
          have hD : va_D (va_A (ww_X3_advance dC dI cI cJ cB h h1 s.heap.size h_len h_limit h_pos0 h_sort0 h_start0 h_val0 h_tape) s.heap.size) [(h, .inr (3, [.ref h1, .int h_len, .int h_limit, .int y_21, .int h_sort, .int h_start, .int h_val])), (h1, .inl (cI, 400, .inl h_tape))] := hD
          clear hPc hDc hFc hP1 hK1 hD1 hk1 hz1 ht hvm
          refine lv_istore_n (lv' := [(1, .int r_22), (0, .ref h), (2, .int x2)]) hx hb dX3_advance_35 rfl hl (by decide) rfl (fun ls hl => ?_)
          obtain ⟨x2_24, ex2_24⟩ : ∃ y : Int32, y = x2 + (1) := ⟨_, rfl⟩
          refine lv_iinc (v := x2_24) (lv' := [(2, .int x2_24), (1, .int r_22), (0, .ref h)]) hx hb dX3_advance_36 hl (k := 2) rfl (by rw [ex2_24]; rfl) (by decide) rfl (fun ls hl => ?_)
          have tex2_24 : x2_24.toInt = x2.toInt + (1) := ti_inc ex2_24 (by decide) (by omega) (by omega)
          refine lv_goto (tgt := 7) hx hb dX3_advance_39 (by decide) ?_
          exact ih_7 r_22 x2_24 y_21 h_sort h_start h_val (by first | assumption | omega | decide | (simp only [lt0, lt1, ltm1, lt400] at *; omega)) (by omega) _ _ (hP.sub [0, 1] rfl) (hD.sub [0, 1] (by decide) rfl) hS ls (lv_sub hl [2, 1, 0] rfl)
  refine lv_aload_n hx hb dX3_advance_0 rfl (lv_at hl 0 rfl) ?_
  have hPc := hP.sub (ws' := [(h, .inr (3, [.ref h1, .int h_len, .int h_limit, .int h_pos0, .int h_sort0, .int h_start0, .int h_val0])), (h1, .inl (cI, 400, .inl h_tape))]) [0, 1] rfl
  have hDc := hD.sub (ws' := [(h, .inr (3, [.ref h1, .int h_len, .int h_limit, .int h_pos0, .int h_sort0, .int h_start0, .int h_val0])), (h1, .inl (cI, 400, .inl h_tape))]) [0, 1] (by decide) rfl
  have hFc := va_free (wc := [(h, .inr (3, [.ref h1, .int h_len, .int h_limit, .int h_pos0, .int h_sort0, .int h_start0, .int h_val0])), (h1, .inl (cI, 400, .inl h_tape))]) hD hS hA [0, 1] rfl
  refine va_calli (va_runV (As := []) (rest := []) ⟨hx, hb, hml, hown, hts⟩ (c_X3_look l dC dI cI cJ cB h h1 H.size h_len h_limit h_pos0 h_sort0 h_start0 h_val0 h_tape) (cwV 0 hts go_wo_X3_advance_6 rfl rfl rfl (by decide +kernel) ⟨Nat.le_of_ble_eq_true rfl, Nat.le_of_ble_eq_true rfl⟩) ⟨fun a U g mk q => by obtain ⟨q0, q1, qN, qP, qK, qD⟩ := q; exact ⟨q0, q1, NW.calling qN, qP, va_K.moved (u := U) (U := U.calling g mk a) (Vm.Alike.refl U.vm) qK, qD⟩, va_recv hK hPc (ci := 3) (q0 := 0) rfl rfl, fun U hU hW => ⟨rfl, by rw [hU], NW.warm hW hnw, by rw [hU]; exact hPc, va_K.moved hW.alike hK, hDc.weaken (fun _ _ _ _ => trivial)⟩⟩ rfl rfl hl.1 rfl (lv_room (Nat.le_of_ble_eq_true rfl)) dX3_advance_1 ⟨Nat.zero_le _, Nat.zero_le _⟩) hS (fun q _ h => hFc q h) hFc (fun r_25 u t H1 locs ht hvm hw hB hz1 hk1 hS => ?_)
  cases u
  obtain ⟨hP1, hK1, hD1⟩ := hB
  rw [ht] at hP1
  have hw : ((h_limit).toInt ≤ (h_pos0).toInt → r_25 = -1) := hw
  have h_26 := hw
  obtain ⟨hP, hD⟩ := va_join (wr := []) (w1 := [(h, .inr (3, [.ref h1, .int h_len, .int h_limit, .int h_pos0, .int h_sort0, .int h_start0, .int h_val0])), (h1, .inl (cI, 400, .inl h_tape))]) hP hD [0, 1] [] rfl rfl (by decide) (by decide) hk1 hFc hP1 hD1
  generalize H1 = H at hP hS ⊢
  have hP : va_P (dC, dI) vwCl [(h, .inr (3, [.ref h1, .int h_len, .int h_limit, .int h_pos0, .int h_sort0, .int h_start0, .int h_val0])), (h1, .inl (cI, 400, .inl h_tape))] H := hP
  have hD : va_D (va_A (ww_X3_advance dC dI cI cJ cB h h1 s.heap.size h_len h_limit h_pos0 h_sort0 h_start0 h_val0 h_tape) s.heap.size) [(h, .inr (3, [.ref h1, .int h_len, .int h_limit, .int h_pos0, .int h_sort0, .int h_start0, .int h_val0])), (h1, .inl (cI, 400, .inl h_tape))] := hD
  clear hPc hDc hFc hP1 hK1 hD1 hk1 hz1 ht hvm
  refine lv_istore_n (lv' := [(1, .int r_25), (0, .ref h)]) hx hb dX3_advance_4 rfl hl (by decide) rfl (fun ls hl => ?_)
  refine lv_iconst (v := 0) hx hb dX3_advance_5 (by decide) ?_
  refine lv_istore_n (lv' := [(2, .int ((0 : Int32))), (1, .int r_25), (0, .ref h)]) hx hb dX3_advance_6 rfl hl (by decide) rfl (fun ls hl => ?_)
  exact L_7 (((400 - ((0 : Int32) : Int32).toInt).toNat) + 1) r_25 ((0 : Int32)) h_pos0 h_sort0 h_start0 h_val0 (by first | assumption | omega | decide | (simp only [lt0, lt1, ltm1, lt400] at *; omega)) (Nat.lt_succ_self _) _ _ (hP.sub [0, 1] rfl) (hD.sub [0, 1] (by decide) rfl) hS ls (lv_sub hl [2, 1, 0] rfl)
def wo_X3_open : List Cond := .code yX3_open cX3_open 1 none :: (([.fieldLink RX3 15 "SumRewriter$Scanner" "length" "I", .fieldLink RX3 23 "SumRewriter$Scanner" "limit" "I", .fieldLink RX3 26 "SumRewriter$Scanner" "at" "I"] : List Cond) ++ ((wsX30) ++ ((wsV RX3 29 RX3 yX3_advance wo_X3_advance))))
set_option maxRecDepth 20000 in
theorem go_wo_X3_open_1 : GoodIn wo_X3_open (wsV RX3 29 RX3 yX3_advance wo_X3_advance) := goodIn_sub (fun _ h => (List.mem_cons_of_mem _ (List.mem_append_right _ (List.mem_append_right _ h)))) (by decide +kernel)
abbrev ww_X3_open (dC : Nat → ClassId) (dI : Nat → Nat → Nat) (cI cJ cB : ClassId) (h h1 : Nat) (sz : Nat) (h_len0 : Int32) (h_limit0 : Int32) (h_pos0 : Int32) (h_sort0 : Int32) (h_start0 : Int32) (h_val0 : Int32) (h_tape : Nat → Int32) : va_W := [(h, .inr (3, [.ref h1, .int h_len0, .int h_limit0, .int h_pos0, .int h_sort0, .int h_start0, .int h_val0])), (h1, .inl (cI, 400, .inl h_tape))]
abbrev at_X3_open (dC : Nat → ClassId) (dI : Nat → Nat → Nat) (cI cJ cB : ClassId) (h h1 : Nat) (sz : Nat) (h_len0 : Int32) (h_limit0 : Int32) (h_pos0 : Int32) (h_sort0 : Int32) (h_start0 : Int32) (h_val0 : Int32) (h_tape : Nat → Int32) (u : Int32 × Int32 × Int32 × Int32 × Int32 × Int32) (t : State) : Prop := match u with
  | (h_len, h_limit, h_pos, h_sort, h_start, h_val) => va_P (dC, dI) vwCl [(h, .inr (3, [.ref h1, .int h_len, .int h_limit, .int h_pos, .int h_sort, .int h_start, .int h_val])), (h1, .inl (cI, 400, .inl h_tape))] t.heap ∧ va_K (dC, dI) vwCl (tyL cI cJ cB) t ∧ va_D (va_A (ww_X3_open dC dI cI cJ cB h h1 sz h_len0 h_limit0 h_pos0 h_sort0 h_start0 h_val0 h_tape) sz) [(h, .inr (3, [.ref h1, .int h_len, .int h_limit, .int h_pos, .int h_sort, .int h_start, .int h_val])), (h1, .inl (cI, 400, .inl h_tape))]
abbrev qc_X3_open (dC : Nat → ClassId) (dI : Nat → Nat → Nat) (cI cJ cB : ClassId) (h h1 : Nat) (sz : Nat) (h_len0 : Int32) (h_limit0 : Int32) (h_pos0 : Int32) (h_sort0 : Int32) (h_start0 : Int32) (h_val0 : Int32) (h_tape : Nat → Int32) : Array Value → State → Outcome → State → Prop := va_Qv (fun (u : Int32 × Int32 × Int32 × Int32 × Int32 × Int32) => match u with | (h_len, h_limit, h_pos, h_sort, h_start, h_val) => (h_len = 0)) (at_X3_open dC dI cI cJ cB h h1 sz h_len0 h_limit0 h_pos0 h_sort0 h_start0 h_val0 h_tape) (va_A (ww_X3_open dC dI cI cJ cB h h1 sz h_len0 h_limit0 h_pos0 h_sort0 h_start0 h_val0 h_tape) sz)
abbrev pc_X3_open (dC : Nat → ClassId) (dI : Nat → Nat → Nat) (cI cJ cB : ClassId) (h h1 : Nat) (sz : Nat) (h_len0 : Int32) (h_limit0 : Int32) (h_pos0 : Int32) (h_sort0 : Int32) (h_start0 : Int32) (h_val0 : Int32) (h_tape : Nat → Int32) : Array Value → State → Prop := va_Pc [.ref h] (fun U => U.heap.size = sz ∧ NW U ∧ va_P (dC, dI) vwCl (ww_X3_open dC dI cI cJ cB h h1 sz h_len0 h_limit0 h_pos0 h_sort0 h_start0 h_val0 h_tape) U.heap ∧ va_K (dC, dI) vwCl (tyL cI cJ cB) U ∧ va_D (fun _ => True) (ww_X3_open dC dI cI cJ cB h h1 sz h_len0 h_limit0 h_pos0 h_sort0 h_start0 h_val0 h_tape))
abbrev rm_X3_open : Room := { frames := 3, cells := 0, slots := 0, locals := 64 }
abbrev WW_X3_open (p : Program) (l : Launch) (e : Env) (s : State) (m : MethodId) (below : List Frame) (meth : Method) (c : Code) (dC : Nat → ClassId) (dI : Nat → Nat → Nat) (cI cJ cB : ClassId) (h h1 : Nat) (sz : Nat) (h_len0 : Int32) (h_limit0 : Int32) (h_pos0 : Int32) (h_sort0 : Int32) (h_start0 : Int32) (h_val0 : Int32) (h_tape : Nat → Int32) (H : Heap) (locs : List Loc) (g : JFrame) : Prop := W p l e rm_X3_open s m ([.ref h] : List Value).toArray below meth c H locs 0 0 (MQ below (qc_X3_open dC dI cI cJ cB h h1 sz h_len0 h_limit0 h_pos0 h_sort0 h_start0 h_val0 h_tape) ([.ref h] : List Value).toArray s 0 0 (va_A (ww_X3_open dC dI cI cJ cB h h1 sz h_len0 h_limit0 h_pos0 h_sort0 h_start0 h_val0 h_tape) sz)) g
set_option maxHeartbeats 4000000 in
set_option maxRecDepth 100000 in
theorem c_X3_open (l : Launch) (dC : Nat → ClassId) (dI : Nat → Nat → Nat) (cI cJ cB : ClassId) (h h1 : Nat) (sz : Nat) (h_len0 : Int32) (h_limit0 : Int32) (h_pos0 : Int32) (h_sort0 : Int32) (h_start0 : Int32) (h_val0 : Int32) (h_tape : Nat → Int32) : Met l yX3_open wo_X3_open rm_X3_open (pc_X3_open dC dI cI cJ cB h h1 sz h_len0 h_limit0 h_pos0 h_sort0 h_start0 h_val0 h_tape) (qc_X3_open dC dI cI cJ cB h h1 sz h_len0 h_limit0 h_pos0 h_sort0 h_start0 h_val0 h_tape) 0 0 (va_A (ww_X3_open dC dI cI cJ cB h h1 sz h_len0 h_limit0 h_pos0 h_sort0 h_start0 h_val0 h_tape) sz) := by
  refine Met.ofW (cc := cX3_open) (maxL := 1) (ret := none) (by decide) rfl ?_
  intro p e s m args below meth c s₁ B hml hv
  obtain ⟨rfl, hsz, hnw, hP, hK, hD0⟩ := hv
  have hx := B.exec
  have hb := B.bytes
  have hr := B.returns
  have hts := atoms_spec (ws := wo_X3_open) B.pre
  have hown : s.vm.findClass RX3 = some m.cls := findClass_of_methodNamed B.named
  have hlocks := B.notSynchronized
  clear B
  subst hsz
  have hD := hD0.self (sz := s.heap.size)
  clear hD0
  have kk0_ := hts (.fieldLink RX3 15 "SumRewriter$Scanner" "length" "I") (by decide +kernel)
  have kk1_ : ∀ w ∈ wsX30, w ∈ wo_X3_open := fun _ h => (List.mem_cons_of_mem _ (List.mem_append_right _ (List.mem_append_left _ h)))
  have kk2_ := hts (.fieldLink RX3 23 "SumRewriter$Scanner" "limit" "I") (by decide +kernel)
  have kk3_ := hts (.fieldLink RX3 26 "SumRewriter$Scanner" "at" "I") (by decide +kernel)
  have hA : ∀ q : Nat, s.heap.size ≤ q → (va_A (ww_X3_open dC dI cI cJ cB h h1 s.heap.size h_len0 h_limit0 h_pos0 h_sort0 h_start0 h_val0 h_tape) s.heap.size) q := fun q h => Or.inr h
  have hS : va_S (va_A (ww_X3_open dC dI cI cJ cB h h1 s.heap.size h_len0 h_limit0 h_pos0 h_sort0 h_start0 h_val0 h_tape) s.heap.size) s.heap s.heap [] := va_S.rf
  have hl := lv_entry ([.ref h]) (n := 1) (Nat.le_of_ble_eq_true rfl)
  rw [lg_entry_eq]
  generalize (lg_sl ([.ref h]) ++ List.replicate (1 - (lg_sl ([.ref h])).length) Slot.unset).toArray = ls at hl ⊢
  have hl : lv_has ls 1 [(0, .ref h)] := hl
  have hP : va_P (dC, dI) vwCl [(h, .inr (3, [.ref h1, .int h_len0, .int h_limit0, .int h_pos0, .int h_sort0, .int h_start0, .int h_val0])), (h1, .inl (cI, 400, .inl h_tape))] s.heap := hP
  have hD : va_D (va_A (ww_X3_open dC dI cI cJ cB h h1 s.heap.size h_len0 h_limit0 h_pos0 h_sort0 h_start0 h_val0 h_tape) s.heap.size) [(h, .inr (3, [.ref h1, .int h_len0, .int h_limit0, .int h_pos0, .int h_sort0, .int h_start0, .int h_val0])), (h1, .inl (cI, 400, .inl h_tape))] := hD
  obtain ⟨H, hH⟩ : ∃ H, H = s.heap := ⟨_, rfl⟩
  obtain ⟨locs, hlc⟩ : ∃ L : List Loc, L = [] := ⟨_, rfl⟩
  have hS : va_S (va_A (ww_X3_open dC dI cI cJ cB h h1 s.heap.size h_len0 h_limit0 h_pos0 h_sort0 h_start0 h_val0 h_tape) s.heap.size) s.heap H locs := by rw [hH, hlc]; exact hS
  have hP : va_P (dC, dI) vwCl [(h, .inr (3, [.ref h1, .int h_len0, .int h_limit0, .int h_pos0, .int h_sort0, .int h_start0, .int h_val0])), (h1, .inl (cI, 400, .inl h_tape))] H := by rw [hH]; exact hP
  suffices hgo : WW_X3_open p l e s m below meth c dC dI cI cJ cB h h1 s.heap.size h_len0 h_limit0 h_pos0 h_sort0 h_start0 h_val0 h_tape H locs (F0 m 0 ls []) by rw [hH, hlc] at hgo; exact hgo
  clear hH hlc
  refine lv_aload_n hx hb dX3_open_0 rfl (lv_at hl 0 rfl) ?_
  refine lv_aload_n hx hb dX3_open_1 rfl (lv_at hl 0 rfl) ?_
  refine va_get (D := (dC, dI)) (ci := 3) (v := .int h_len0) (C := RX3) (T := TX3) (N := 7) hx hb hts kk1_ hown hK hP 0 rfl rfl 1 (by decide) kk0_ (fun _ h9 => h9) rfl dX3_open_2 ?_
  refine va_put (D := (dC, dI)) (ci := 3) (v := .int h_len0) (ty := .int) (C := RX3) (T := TX3) (N := 7) hx hb hts kk1_ tyX3 tyX3_ok nmX3 hown hK hP hD hS 0 rfl rfl 2 (by decide) kk2_ (fun _ h9 => h9) rfl (by decide +kernel) rfl rfl (Nat.le_of_ble_eq_true rfl) dX3_open_5 (fun H locs hP hD hS => ?_)
  have hP : va_P (dC, dI) vwCl [(h, .inr (3, [.ref h1, .int h_len0, .int h_len0, .int h_pos0, .int h_sort0, .int h_start0, .int h_val0])), (h1, .inl (cI, 400, .inl h_tape))] H := hP
  have hD : va_D (va_A (ww_X3_open dC dI cI cJ cB h h1 s.heap.size h_len0 h_limit0 h_pos0 h_sort0 h_start0 h_val0 h_tape) s.heap.size) [(h, .inr (3, [.ref h1, .int h_len0, .int h_len0, .int h_pos0, .int h_sort0, .int h_start0, .int h_val0])), (h1, .inl (cI, 400, .inl h_tape))] := hD
  refine lv_aload_n hx hb dX3_open_8 rfl (lv_at hl 0 rfl) ?_
  refine lv_iconst (v := 0) hx hb dX3_open_9 (by decide) ?_
  refine va_put (D := (dC, dI)) (ci := 3) (v := .int ((0 : Int32))) (ty := .int) (C := RX3) (T := TX3) (N := 7) hx hb hts kk1_ tyX3 tyX3_ok nmX3 hown hK hP hD hS 0 rfl rfl 1 (by decide) kk0_ (fun _ h9 => h9) rfl (by decide +kernel) rfl rfl (Nat.le_of_ble_eq_true rfl) dX3_open_10 (fun H locs hP hD hS => ?_)
  have hP : va_P (dC, dI) vwCl [(h, .inr (3, [.ref h1, .int ((0 : Int32)), .int h_len0, .int h_pos0, .int h_sort0, .int h_start0, .int h_val0])), (h1, .inl (cI, 400, .inl h_tape))] H := hP
  have hD : va_D (va_A (ww_X3_open dC dI cI cJ cB h h1 s.heap.size h_len0 h_limit0 h_pos0 h_sort0 h_start0 h_val0 h_tape) s.heap.size) [(h, .inr (3, [.ref h1, .int ((0 : Int32)), .int h_len0, .int h_pos0, .int h_sort0, .int h_start0, .int h_val0])), (h1, .inl (cI, 400, .inl h_tape))] := hD
  refine lv_aload_n hx hb dX3_open_13 rfl (lv_at hl 0 rfl) ?_
  refine lv_iconst (v := 0) hx hb dX3_open_14 (by decide) ?_
  refine va_put (D := (dC, dI)) (ci := 3) (v := .int ((0 : Int32))) (ty := .int) (C := RX3) (T := TX3) (N := 7) hx hb hts kk1_ tyX3 tyX3_ok nmX3 hown hK hP hD hS 0 rfl rfl 3 (by decide) kk3_ (fun _ h9 => h9) rfl (by decide +kernel) rfl rfl (Nat.le_of_ble_eq_true rfl) dX3_open_15 (fun H locs hP hD hS => ?_)
  have hP : va_P (dC, dI) vwCl [(h, .inr (3, [.ref h1, .int ((0 : Int32)), .int h_len0, .int ((0 : Int32)), .int h_sort0, .int h_start0, .int h_val0])), (h1, .inl (cI, 400, .inl h_tape))] H := hP
  have hD : va_D (va_A (ww_X3_open dC dI cI cJ cB h h1 s.heap.size h_len0 h_limit0 h_pos0 h_sort0 h_start0 h_val0 h_tape) s.heap.size) [(h, .inr (3, [.ref h1, .int ((0 : Int32)), .int h_len0, .int ((0 : Int32)), .int h_sort0, .int h_start0, .int h_val0])), (h1, .inl (cI, 400, .inl h_tape))] := hD
  refine lv_aload_n hx hb dX3_open_18 rfl (lv_at hl 0 rfl) ?_
  have hPc := hP.sub (ws' := [(h, .inr (3, [.ref h1, .int ((0 : Int32)), .int h_len0, .int ((0 : Int32)), .int h_sort0, .int h_start0, .int h_val0])), (h1, .inl (cI, 400, .inl h_tape))]) [0, 1] rfl
  have hDc := hD.sub (ws' := [(h, .inr (3, [.ref h1, .int ((0 : Int32)), .int h_len0, .int ((0 : Int32)), .int h_sort0, .int h_start0, .int h_val0])), (h1, .inl (cI, 400, .inl h_tape))]) [0, 1] (by decide) rfl
  have hFc := va_free (wc := [(h, .inr (3, [.ref h1, .int ((0 : Int32)), .int h_len0, .int ((0 : Int32)), .int h_sort0, .int h_start0, .int h_val0])), (h1, .inl (cI, 400, .inl h_tape))]) hD hS hA [0, 1] rfl
  refine va_callv (va_runV (As := []) (rest := []) ⟨hx, hb, hml, hown, hts⟩ (c_X3_advance l dC dI cI cJ cB h h1 H.size ((0 : Int32)) h_len0 ((0 : Int32)) h_sort0 h_start0 h_val0 h_tape) (cwV 0 hts go_wo_X3_open_1 rfl rfl rfl (by decide +kernel) ⟨Nat.le_of_ble_eq_true rfl, Nat.le_of_ble_eq_true rfl⟩) ⟨fun a U g mk q => by obtain ⟨q0, q1, qN, qP, qK, qD⟩ := q; exact ⟨q0, q1, NW.calling qN, qP, va_K.moved (u := U) (U := U.calling g mk a) (Vm.Alike.refl U.vm) qK, qD⟩, va_recv hK hPc (ci := 3) (q0 := 0) rfl rfl, fun U hU hW => ⟨rfl, by rw [hU], NW.warm hW hnw, by rw [hU]; exact hPc, va_K.moved hW.alike hK, hDc.weaken (fun _ _ _ _ => trivial)⟩⟩ rfl rfl hl.1 rfl (lv_room (Nat.le_of_ble_eq_true rfl)) dX3_open_19 ⟨Nat.zero_le _, Nat.zero_le _⟩) hS (fun q _ h => hFc q h) hFc (fun u t H1 locs ht hvm hw hB hz1 hk1 hS => ?_)
  obtain ⟨h_pos_2, h_sort_3, h_start_4, h_val_5⟩ := u
  obtain ⟨hP1, hK1, hD1⟩ := hB
  rw [ht] at hP1
  clear hw
  obtain ⟨hP, hD⟩ := va_join (wr := []) (w1 := [(h, .inr (3, [.ref h1, .int ((0 : Int32)), .int h_len0, .int h_pos_2, .int h_sort_3, .int h_start_4, .int h_val_5])), (h1, .inl (cI, 400, .inl h_tape))]) hP hD [0, 1] [] rfl rfl (by decide) (by decide) hk1 hFc hP1 hD1
  generalize H1 = H at hP hS ⊢
  have hP : va_P (dC, dI) vwCl [(h, .inr (3, [.ref h1, .int ((0 : Int32)), .int h_len0, .int h_pos_2, .int h_sort_3, .int h_start_4, .int h_val_5])), (h1, .inl (cI, 400, .inl h_tape))] H := hP
  have hD : va_D (va_A (ww_X3_open dC dI cI cJ cB h h1 s.heap.size h_len0 h_limit0 h_pos0 h_sort0 h_start0 h_val0 h_tape) s.heap.size) [(h, .inr (3, [.ref h1, .int ((0 : Int32)), .int h_len0, .int h_pos_2, .int h_sort_3, .int h_start_4, .int h_val_5])), (h1, .inl (cI, 400, .inl h_tape))] := hD
  clear hPc hDc hFc hP1 hK1 hD1 hk1 hz1 ht hvm
  have hP9 := hP.sub (ws' := [(h, .inr (3, [.ref h1, .int ((0 : Int32)), .int h_len0, .int h_pos_2, .int h_sort_3, .int h_start_4, .int h_val_5])), (h1, .inl (cI, 400, .inl h_tape))]) [0, 1] rfl
  have hD9 := hD.sub (ws' := [(h, .inr (3, [.ref h1, .int ((0 : Int32)), .int h_len0, .int h_pos_2, .int h_sort_3, .int h_start_4, .int h_val_5])), (h1, .inl (cI, 400, .inl h_tape))]) [0, 1] (by decide) rfl
  have r9_0 : (0 : Int32) = 0 := rfl
  exact W.vret hx hb hr (fun t ht hW => ⟨⟨((0 : Int32), h_len0, h_pos_2, h_sort_3, h_start_4, h_val_5), rfl, r9_0, by rw [ht]; exact hP9, va_K.moved hW.alike hK, hD9⟩, hS.F ht⟩) hS.2.2 dX3_open_22
