def wo_J6_compare_7cf53 : List Cond := .code yJ6_compare_7cf53 cJ6_compare_7cf53 2 (some .int) :: (([] : List Cond))
abbrev ww_J6_compare_7cf53 (dC : Nat → ClassId) (dI : Nat → Nat → Nat) (cI cJ cB : ClassId) (sz : Nat) (p0 : Int32) (p1 : Int32) : va_W := []
abbrev at_J6_compare_7cf53 (dC : Nat → ClassId) (dI : Nat → Nat → Nat) (cI cJ cB : ClassId) (sz : Nat) (p0 : Int32) (p1 : Int32) (u : Unit) (t : State) : Prop := match u with
  | () => va_P (dC, dI) vwCl [] t.heap ∧ va_K (dC, dI) vwCl (tyL cI cJ cB) t ∧ va_D (va_A (ww_J6_compare_7cf53 dC dI cI cJ cB  sz p0 p1) sz) []
abbrev qc_J6_compare_7cf53 (dC : Nat → ClassId) (dI : Nat → Nat → Nat) (cI cJ cB : ClassId) (sz : Nat) (p0 : Int32) (p1 : Int32) : Array Value → State → Outcome → State → Prop := va_Qi (fun (r : Int32) (u : Unit) => match u with | () => True) (at_J6_compare_7cf53 dC dI cI cJ cB  sz p0 p1) (va_A (ww_J6_compare_7cf53 dC dI cI cJ cB  sz p0 p1) sz)
abbrev pc_J6_compare_7cf53 (dC : Nat → ClassId) (dI : Nat → Nat → Nat) (cI cJ cB : ClassId) (sz : Nat) (p0 : Int32) (p1 : Int32) : Array Value → State → Prop := va_Pc [.int p0, .int p1] (fun U => U.heap.size = sz ∧ NW U ∧ va_P (dC, dI) vwCl (ww_J6_compare_7cf53 dC dI cI cJ cB  sz p0 p1) U.heap ∧ va_K (dC, dI) vwCl (tyL cI cJ cB) U ∧ va_D (fun _ => True) (ww_J6_compare_7cf53 dC dI cI cJ cB  sz p0 p1))
abbrev rm_J6_compare_7cf53 : Room := { frames := 0, cells := 0, slots := 0, locals := 0 }
abbrev WW_J6_compare_7cf53 (p : Program) (l : Launch) (e : Env) (s : State) (m : MethodId) (below : List Frame) (meth : Method) (c : Code) (dC : Nat → ClassId) (dI : Nat → Nat → Nat) (cI cJ cB : ClassId) (sz : Nat) (p0 : Int32) (p1 : Int32) (H : Heap) (locs : List Loc) (g : JFrame) : Prop := W p l e rm_J6_compare_7cf53 s m ([.int p0, .int p1] : List Value).toArray below meth c H locs 0 0 (MQ below (qc_J6_compare_7cf53 dC dI cI cJ cB  sz p0 p1) ([.int p0, .int p1] : List Value).toArray s 0 0 (va_A (ww_J6_compare_7cf53 dC dI cI cJ cB  sz p0 p1) sz)) g
set_option maxHeartbeats 4000000 in
set_option maxRecDepth 100000 in
theorem c_J6_compare_7cf53 (l : Launch) (dC : Nat → ClassId) (dI : Nat → Nat → Nat) (cI cJ cB : ClassId) (sz : Nat) (p0 : Int32) (p1 : Int32) : Met l yJ6_compare_7cf53 wo_J6_compare_7cf53 rm_J6_compare_7cf53 (pc_J6_compare_7cf53 dC dI cI cJ cB  sz p0 p1) (qc_J6_compare_7cf53 dC dI cI cJ cB  sz p0 p1) 0 0 (va_A (ww_J6_compare_7cf53 dC dI cI cJ cB  sz p0 p1) sz) := by
  refine Met.ofW (cc := cJ6_compare_7cf53) (maxL := 2) (ret := (some .int)) (by decide) rfl ?_
  intro p e s m args below meth c s₁ B hml hv
  obtain ⟨rfl, hsz, hnw, hP, hK, hD0⟩ := hv
  have hx := B.exec
  have hb := B.bytes
  have hr := B.returns
  have hts := atoms_spec (ws := wo_J6_compare_7cf53) B.pre
  have hown : s.vm.findClass RJ6 = some m.cls := findClass_of_methodNamed B.named
  have hlocks := B.notSynchronized
  clear B
  subst hsz
  have hD := hD0.self (sz := s.heap.size)
  clear hD0
  have hA : ∀ q : Nat, s.heap.size ≤ q → (va_A (ww_J6_compare_7cf53 dC dI cI cJ cB  s.heap.size p0 p1) s.heap.size) q := fun q h => Or.inr h
  have hS : va_S (va_A (ww_J6_compare_7cf53 dC dI cI cJ cB  s.heap.size p0 p1) s.heap.size) s.heap s.heap [] := va_S.rf
  have hl := lv_entry ([.int p0, .int p1]) (n := 2) (Nat.le_of_ble_eq_true rfl)
  rw [lg_entry_eq]
  generalize (lg_sl ([.int p0, .int p1]) ++ List.replicate (2 - (lg_sl ([.int p0, .int p1])).length) Slot.unset).toArray = ls at hl ⊢
  have hl : lv_has ls 2 [(0, .int p0), (1, .int p1)] := hl
  have hP : va_P (dC, dI) vwCl [] s.heap := hP
  have hD : va_D (va_A (ww_J6_compare_7cf53 dC dI cI cJ cB  s.heap.size p0 p1) s.heap.size) [] := hD
  obtain ⟨H, hH⟩ : ∃ H, H = s.heap := ⟨_, rfl⟩
  obtain ⟨locs, hlc⟩ : ∃ L : List Loc, L = [] := ⟨_, rfl⟩
  have hS : va_S (va_A (ww_J6_compare_7cf53 dC dI cI cJ cB  s.heap.size p0 p1) s.heap.size) s.heap H locs := by rw [hH, hlc]; exact hS
  have hP : va_P (dC, dI) vwCl [] H := by rw [hH]; exact hP
  suffices hgo : WW_J6_compare_7cf53 p l e s m below meth c dC dI cI cJ cB  s.heap.size p0 p1 H locs (F0 m 0 ls []) by rw [hH, hlc] at hgo; exact hgo
  clear hH hlc
  refine lv_iload_n hx hb dJ6_compare_7cf53_0 rfl (lv_at hl 0 rfl) ?_
  refine lv_iload_n hx hb dJ6_compare_7cf53_1 rfl (lv_at hl 1 rfl) ?_
  refine lv_icmp_ge (tgt := 9) hx hb dJ6_compare_7cf53_2 (by decide) (fun c_1 => ?_) (fun c_1 => ?_)
  · have tc_1 : p1.toInt ≤ p0.toInt := tb_ge_t c_1
    have := ti_rng p0
    have := ti_rng p1
    refine lv_iload_n hx hb dJ6_compare_7cf53_9 rfl (lv_at hl 0 rfl) ?_
    refine lv_iload_n hx hb dJ6_compare_7cf53_10 rfl (lv_at hl 1 rfl) ?_
    refine lv_icmp_ne (tgt := 18) hx hb dJ6_compare_7cf53_11 (by decide) (fun c_2 => ?_) (fun c_2 => ?_)
    · have tc_2 : ¬ (p0.toInt = p1.toInt) := tb_ne_t c_2
      refine lv_iconst (v := 1) hx hb dJ6_compare_7cf53_18 (by decide) ?_
      have hP9 := hP.sub (ws' := []) [] rfl
      have hD9 := hD.sub (ws' := []) [] (by decide) rfl
      exact W.iret (v := (1 : Int32)) hx hb hr (fun t ht hW => ⟨⟨(1 : Int32), (), rfl, trivial, by rw [ht]; exact hP9, va_K.moved hW.alike hK, hD9⟩, hS.F ht⟩) hS.2.2 dJ6_compare_7cf53_19
    · have tc_2 : p0.toInt = p1.toInt := tb_ne_f c_2
      refine lv_iconst (v := 0) hx hb dJ6_compare_7cf53_14 (by decide) ?_
      refine lv_goto (tgt := 19) hx hb dJ6_compare_7cf53_15 (by decide) ?_
      have hP9 := hP.sub (ws' := []) [] rfl
      have hD9 := hD.sub (ws' := []) [] (by decide) rfl
      exact W.iret (v := (0 : Int32)) hx hb hr (fun t ht hW => ⟨⟨(0 : Int32), (), rfl, trivial, by rw [ht]; exact hP9, va_K.moved hW.alike hK, hD9⟩, hS.F ht⟩) hS.2.2 dJ6_compare_7cf53_19
  · have tc_1 : p0.toInt < p1.toInt := tb_ge_f c_1
    have := ti_rng p0
    have := ti_rng p1
    refine lv_iconst (v := -1) hx hb dJ6_compare_7cf53_5 (by decide) ?_
    refine lv_goto (tgt := 19) hx hb dJ6_compare_7cf53_6 (by decide) ?_
    have hP9 := hP.sub (ws' := []) [] rfl
    have hD9 := hD.sub (ws' := []) [] (by decide) rfl
    exact W.iret (v := (-1 : Int32)) hx hb hr (fun t ht hW => ⟨⟨(-1 : Int32), (), rfl, trivial, by rw [ht]; exact hP9, va_K.moved hW.alike hK, hD9⟩, hS.F ht⟩) hS.2.2 dJ6_compare_7cf53_19
def wo_J6_bitCount_0f7a4 : List Cond := .code yJ6_bitCount_0f7a4 cJ6_bitCount_0f7a4 1 (some .int) :: (([.constant RJ6 265 (1431655765), .constant RJ6 266 (858993459), .constant RJ6 267 (252645135)] : List Cond))
abbrev ww_J6_bitCount_0f7a4 (dC : Nat → ClassId) (dI : Nat → Nat → Nat) (cI cJ cB : ClassId) (sz : Nat) (p0 : Int32) : va_W := []
abbrev at_J6_bitCount_0f7a4 (dC : Nat → ClassId) (dI : Nat → Nat → Nat) (cI cJ cB : ClassId) (sz : Nat) (p0 : Int32) (u : Unit) (t : State) : Prop := match u with
  | () => va_P (dC, dI) vwCl [] t.heap ∧ va_K (dC, dI) vwCl (tyL cI cJ cB) t ∧ va_D (va_A (ww_J6_bitCount_0f7a4 dC dI cI cJ cB  sz p0) sz) []
abbrev qc_J6_bitCount_0f7a4 (dC : Nat → ClassId) (dI : Nat → Nat → Nat) (cI cJ cB : ClassId) (sz : Nat) (p0 : Int32) : Array Value → State → Outcome → State → Prop := va_Qi (fun (r : Int32) (u : Unit) => match u with | () => True) (at_J6_bitCount_0f7a4 dC dI cI cJ cB  sz p0) (va_A (ww_J6_bitCount_0f7a4 dC dI cI cJ cB  sz p0) sz)
abbrev pc_J6_bitCount_0f7a4 (dC : Nat → ClassId) (dI : Nat → Nat → Nat) (cI cJ cB : ClassId) (sz : Nat) (p0 : Int32) : Array Value → State → Prop := va_Pc [.int p0] (fun U => U.heap.size = sz ∧ NW U ∧ va_P (dC, dI) vwCl (ww_J6_bitCount_0f7a4 dC dI cI cJ cB  sz p0) U.heap ∧ va_K (dC, dI) vwCl (tyL cI cJ cB) U ∧ va_D (fun _ => True) (ww_J6_bitCount_0f7a4 dC dI cI cJ cB  sz p0))
abbrev rm_J6_bitCount_0f7a4 : Room := { frames := 0, cells := 0, slots := 0, locals := 0 }
abbrev WW_J6_bitCount_0f7a4 (p : Program) (l : Launch) (e : Env) (s : State) (m : MethodId) (below : List Frame) (meth : Method) (c : Code) (dC : Nat → ClassId) (dI : Nat → Nat → Nat) (cI cJ cB : ClassId) (sz : Nat) (p0 : Int32) (H : Heap) (locs : List Loc) (g : JFrame) : Prop := W p l e rm_J6_bitCount_0f7a4 s m ([.int p0] : List Value).toArray below meth c H locs 0 0 (MQ below (qc_J6_bitCount_0f7a4 dC dI cI cJ cB  sz p0) ([.int p0] : List Value).toArray s 0 0 (va_A (ww_J6_bitCount_0f7a4 dC dI cI cJ cB  sz p0) sz)) g
set_option maxHeartbeats 4000000 in
set_option maxRecDepth 100000 in
theorem c_J6_bitCount_0f7a4 (l : Launch) (dC : Nat → ClassId) (dI : Nat → Nat → Nat) (cI cJ cB : ClassId) (sz : Nat) (p0 : Int32) : Met l yJ6_bitCount_0f7a4 wo_J6_bitCount_0f7a4 rm_J6_bitCount_0f7a4 (pc_J6_bitCount_0f7a4 dC dI cI cJ cB  sz p0) (qc_J6_bitCount_0f7a4 dC dI cI cJ cB  sz p0) 0 0 (va_A (ww_J6_bitCount_0f7a4 dC dI cI cJ cB  sz p0) sz) := by
  refine Met.ofW (cc := cJ6_bitCount_0f7a4) (maxL := 1) (ret := (some .int)) (by decide) rfl ?_
  intro p e s m args below meth c s₁ B hml hv
  obtain ⟨rfl, hsz, hnw, hP, hK, hD0⟩ := hv
  have hx := B.exec
  have hb := B.bytes
  have hr := B.returns
  have hts := atoms_spec (ws := wo_J6_bitCount_0f7a4) B.pre
  have hown : s.vm.findClass RJ6 = some m.cls := findClass_of_methodNamed B.named
  have hlocks := B.notSynchronized
  clear B
  subst hsz
  have hD := hD0.self (sz := s.heap.size)
  clear hD0
  have kk0_ := hts (.constant RJ6 265 (1431655765)) (by decide +kernel)
  have kk1_ := hts (.constant RJ6 266 (858993459)) (by decide +kernel)
  have kk2_ := hts (.constant RJ6 267 (252645135)) (by decide +kernel)
  have hA : ∀ q : Nat, s.heap.size ≤ q → (va_A (ww_J6_bitCount_0f7a4 dC dI cI cJ cB  s.heap.size p0) s.heap.size) q := fun q h => Or.inr h
  have hS : va_S (va_A (ww_J6_bitCount_0f7a4 dC dI cI cJ cB  s.heap.size p0) s.heap.size) s.heap s.heap [] := va_S.rf
  have hl := lv_entry ([.int p0]) (n := 1) (Nat.le_of_ble_eq_true rfl)
  rw [lg_entry_eq]
  generalize (lg_sl ([.int p0]) ++ List.replicate (1 - (lg_sl ([.int p0])).length) Slot.unset).toArray = ls at hl ⊢
  have hl : lv_has ls 1 [(0, .int p0)] := hl
  have hP : va_P (dC, dI) vwCl [] s.heap := hP
  have hD : va_D (va_A (ww_J6_bitCount_0f7a4 dC dI cI cJ cB  s.heap.size p0) s.heap.size) [] := hD
  obtain ⟨H, hH⟩ : ∃ H, H = s.heap := ⟨_, rfl⟩
  obtain ⟨locs, hlc⟩ : ∃ L : List Loc, L = [] := ⟨_, rfl⟩
  have hS : va_S (va_A (ww_J6_bitCount_0f7a4 dC dI cI cJ cB  s.heap.size p0) s.heap.size) s.heap H locs := by rw [hH, hlc]; exact hS
  have hP : va_P (dC, dI) vwCl [] H := by rw [hH]; exact hP
  suffices hgo : WW_J6_bitCount_0f7a4 p l e s m below meth c dC dI cI cJ cB  s.heap.size p0 H locs (F0 m 0 ls []) by rw [hH, hlc] at hgo; exact hgo
  clear hH hlc
  refine lv_iload_n hx hb dJ6_bitCount_0f7a4_0 rfl (lv_at hl 0 rfl) ?_
  refine lv_iload_n hx hb dJ6_bitCount_0f7a4_1 rfl (lv_at hl 0 rfl) ?_
  refine lv_iconst (v := 1) hx hb dJ6_bitCount_0f7a4_2 (by decide) ?_
  refine lv_iushr hx hb dJ6_bitCount_0f7a4_3 rfl ?_
  refine lv_topi (fun y_1 ey_1 => ?_)
  refine lv_ldcw (v := 1431655765) hx hb hown kk0_ dJ6_bitCount_0f7a4_4 ?_
  refine lv_iand hx hb dJ6_bitCount_0f7a4_7 ?_
  refine lv_topi (fun y_2 ey_2 => ?_)
  have tey_2 := ti_mask (n := 1431655765) ey_2 (by decide)
  refine lv_isub hx hb dJ6_bitCount_0f7a4_8 ?_
  refine lv_topi (fun y_3 ey_3 => ?_)
  refine lv_istore_n (lv' := [(0, .int y_3)]) hx hb dJ6_bitCount_0f7a4_9 rfl hl (by decide) rfl (fun ls hl => ?_)
  refine lv_iload_n hx hb dJ6_bitCount_0f7a4_10 rfl (lv_at hl 0 rfl) ?_
  refine lv_ldcw (v := 858993459) hx hb hown kk1_ dJ6_bitCount_0f7a4_11 ?_
  refine lv_iand hx hb dJ6_bitCount_0f7a4_14 ?_
  refine lv_topi (fun y_4 ey_4 => ?_)
  have tey_4 := ti_mask (n := 858993459) ey_4 (by decide)
  refine lv_iload_n hx hb dJ6_bitCount_0f7a4_15 rfl (lv_at hl 0 rfl) ?_
  refine lv_iconst (v := 2) hx hb dJ6_bitCount_0f7a4_16 (by decide) ?_
  refine lv_iushr hx hb dJ6_bitCount_0f7a4_17 rfl ?_
  refine lv_topi (fun y_5 ey_5 => ?_)
  refine lv_ldcw (v := 858993459) hx hb hown kk1_ dJ6_bitCount_0f7a4_18 ?_
  refine lv_iand hx hb dJ6_bitCount_0f7a4_21 ?_
  refine lv_topi (fun y_6 ey_6 => ?_)
  have tey_6 := ti_mask (n := 858993459) ey_6 (by decide)
  refine lv_iadd hx hb dJ6_bitCount_0f7a4_22 ?_
  refine lv_topi (fun y_7 ey_7 => ?_)
  have tey_7 : y_7.toInt = y_4.toInt + y_6.toInt := ti_add2 ey_7 rfl rfl (by omega) (by omega)
  refine lv_istore_n (lv' := [(0, .int y_7)]) hx hb dJ6_bitCount_0f7a4_23 rfl hl (by decide) rfl (fun ls hl => ?_)
  refine lv_iload_n hx hb dJ6_bitCount_0f7a4_24 rfl (lv_at hl 0 rfl) ?_
  refine lv_iload_n hx hb dJ6_bitCount_0f7a4_25 rfl (lv_at hl 0 rfl) ?_
  refine lv_iconst (v := 4) hx hb dJ6_bitCount_0f7a4_26 (by decide) ?_
  refine lv_iushr hx hb dJ6_bitCount_0f7a4_27 rfl ?_
  refine lv_topi (fun y_8 ey_8 => ?_)
  refine lv_iadd hx hb dJ6_bitCount_0f7a4_28 ?_
  refine lv_topi (fun y_9 ey_9 => ?_)
  refine lv_ldcw (v := 252645135) hx hb hown kk2_ dJ6_bitCount_0f7a4_29 ?_
  refine lv_iand hx hb dJ6_bitCount_0f7a4_32 ?_
  refine lv_topi (fun y_10 ey_10 => ?_)
  have tey_10 := ti_mask (n := 252645135) ey_10 (by decide)
  refine lv_istore_n (lv' := [(0, .int y_10)]) hx hb dJ6_bitCount_0f7a4_33 rfl hl (by decide) rfl (fun ls hl => ?_)
  refine lv_iload_n hx hb dJ6_bitCount_0f7a4_34 rfl (lv_at hl 0 rfl) ?_
  refine lv_iload_n hx hb dJ6_bitCount_0f7a4_35 rfl (lv_at hl 0 rfl) ?_
  refine lv_bipush (v := 8) hx hb dJ6_bitCount_0f7a4_36 (by decide) ?_
  refine lv_iushr hx hb dJ6_bitCount_0f7a4_38 rfl ?_
  refine lv_topi (fun y_11 ey_11 => ?_)
  refine lv_iadd hx hb dJ6_bitCount_0f7a4_39 ?_
  refine lv_topi (fun y_12 ey_12 => ?_)
  refine lv_istore_n (lv' := [(0, .int y_12)]) hx hb dJ6_bitCount_0f7a4_40 rfl hl (by decide) rfl (fun ls hl => ?_)
  refine lv_iload_n hx hb dJ6_bitCount_0f7a4_41 rfl (lv_at hl 0 rfl) ?_
  refine lv_iload_n hx hb dJ6_bitCount_0f7a4_42 rfl (lv_at hl 0 rfl) ?_
  refine lv_bipush (v := 16) hx hb dJ6_bitCount_0f7a4_43 (by decide) ?_
  refine lv_iushr hx hb dJ6_bitCount_0f7a4_45 rfl ?_
  refine lv_topi (fun y_13 ey_13 => ?_)
  refine lv_iadd hx hb dJ6_bitCount_0f7a4_46 ?_
  refine lv_topi (fun y_14 ey_14 => ?_)
  refine lv_istore_n (lv' := [(0, .int y_14)]) hx hb dJ6_bitCount_0f7a4_47 rfl hl (by decide) rfl (fun ls hl => ?_)
  refine lv_iload_n hx hb dJ6_bitCount_0f7a4_48 rfl (lv_at hl 0 rfl) ?_
  refine lv_bipush (v := 63) hx hb dJ6_bitCount_0f7a4_49 (by decide) ?_
  refine lv_iand hx hb dJ6_bitCount_0f7a4_51 ?_
  refine lv_topi (fun y_15 ey_15 => ?_)
  have tey_15 := ti_mask (n := 63) ey_15 (by decide)
  have hP9 := hP.sub (ws' := []) [] rfl
  have hD9 := hD.sub (ws' := []) [] (by decide) rfl
  exact W.iret (v := y_15) hx hb hr (fun t ht hW => ⟨⟨y_15, (), rfl, trivial, by rw [ht]; exact hP9, va_K.moved hW.alike hK, hD9⟩, hS.F ht⟩) hS.2.2 dJ6_bitCount_0f7a4_52
def wo_J6_numberOfTrailingZeros_0f7a4 : List Cond := .code yJ6_numberOfTrailingZeros_0f7a4 cJ6_numberOfTrailingZeros_0f7a4 2 (some .int) :: (([.constant RJ6 264 (65536)] : List Cond))
abbrev ww_J6_numberOfTrailingZeros_0f7a4 (dC : Nat → ClassId) (dI : Nat → Nat → Nat) (cI cJ cB : ClassId) (sz : Nat) (p0 : Int32) : va_W := []
abbrev at_J6_numberOfTrailingZeros_0f7a4 (dC : Nat → ClassId) (dI : Nat → Nat → Nat) (cI cJ cB : ClassId) (sz : Nat) (p0 : Int32) (u : Unit) (t : State) : Prop := match u with
  | () => va_P (dC, dI) vwCl [] t.heap ∧ va_K (dC, dI) vwCl (tyL cI cJ cB) t ∧ va_D (va_A (ww_J6_numberOfTrailingZeros_0f7a4 dC dI cI cJ cB  sz p0) sz) []
abbrev qc_J6_numberOfTrailingZeros_0f7a4 (dC : Nat → ClassId) (dI : Nat → Nat → Nat) (cI cJ cB : ClassId) (sz : Nat) (p0 : Int32) : Array Value → State → Outcome → State → Prop := va_Qi (fun (r : Int32) (u : Unit) => match u with | () => True) (at_J6_numberOfTrailingZeros_0f7a4 dC dI cI cJ cB  sz p0) (va_A (ww_J6_numberOfTrailingZeros_0f7a4 dC dI cI cJ cB  sz p0) sz)
abbrev pc_J6_numberOfTrailingZeros_0f7a4 (dC : Nat → ClassId) (dI : Nat → Nat → Nat) (cI cJ cB : ClassId) (sz : Nat) (p0 : Int32) : Array Value → State → Prop := va_Pc [.int p0] (fun U => U.heap.size = sz ∧ NW U ∧ va_P (dC, dI) vwCl (ww_J6_numberOfTrailingZeros_0f7a4 dC dI cI cJ cB  sz p0) U.heap ∧ va_K (dC, dI) vwCl (tyL cI cJ cB) U ∧ va_D (fun _ => True) (ww_J6_numberOfTrailingZeros_0f7a4 dC dI cI cJ cB  sz p0))
abbrev rm_J6_numberOfTrailingZeros_0f7a4 : Room := { frames := 0, cells := 0, slots := 0, locals := 0 }
abbrev WW_J6_numberOfTrailingZeros_0f7a4 (p : Program) (l : Launch) (e : Env) (s : State) (m : MethodId) (below : List Frame) (meth : Method) (c : Code) (dC : Nat → ClassId) (dI : Nat → Nat → Nat) (cI cJ cB : ClassId) (sz : Nat) (p0 : Int32) (H : Heap) (locs : List Loc) (g : JFrame) : Prop := W p l e rm_J6_numberOfTrailingZeros_0f7a4 s m ([.int p0] : List Value).toArray below meth c H locs 0 0 (MQ below (qc_J6_numberOfTrailingZeros_0f7a4 dC dI cI cJ cB  sz p0) ([.int p0] : List Value).toArray s 0 0 (va_A (ww_J6_numberOfTrailingZeros_0f7a4 dC dI cI cJ cB  sz p0) sz)) g
set_option maxHeartbeats 4000000 in
set_option maxRecDepth 100000 in
theorem c_J6_numberOfTrailingZeros_0f7a4 (l : Launch) (dC : Nat → ClassId) (dI : Nat → Nat → Nat) (cI cJ cB : ClassId) (sz : Nat) (p0 : Int32) : Met l yJ6_numberOfTrailingZeros_0f7a4 wo_J6_numberOfTrailingZeros_0f7a4 rm_J6_numberOfTrailingZeros_0f7a4 (pc_J6_numberOfTrailingZeros_0f7a4 dC dI cI cJ cB  sz p0) (qc_J6_numberOfTrailingZeros_0f7a4 dC dI cI cJ cB  sz p0) 0 0 (va_A (ww_J6_numberOfTrailingZeros_0f7a4 dC dI cI cJ cB  sz p0) sz) := by
  refine Met.ofW (cc := cJ6_numberOfTrailingZeros_0f7a4) (maxL := 2) (ret := (some .int)) (by decide) rfl ?_
  intro p e s m args below meth c s₁ B hml hv
  obtain ⟨rfl, hsz, hnw, hP, hK, hD0⟩ := hv
  have hx := B.exec
  have hb := B.bytes
  have hr := B.returns
  have hts := atoms_spec (ws := wo_J6_numberOfTrailingZeros_0f7a4) B.pre
  have hown : s.vm.findClass RJ6 = some m.cls := findClass_of_methodNamed B.named
  have hlocks := B.notSynchronized
  clear B
  subst hsz
  have hD := hD0.self (sz := s.heap.size)
  clear hD0
  have kk0_ := hts (.constant RJ6 264 (65536)) (by decide +kernel)
  have hA : ∀ q : Nat, s.heap.size ≤ q → (va_A (ww_J6_numberOfTrailingZeros_0f7a4 dC dI cI cJ cB  s.heap.size p0) s.heap.size) q := fun q h => Or.inr h
  have hS : va_S (va_A (ww_J6_numberOfTrailingZeros_0f7a4 dC dI cI cJ cB  s.heap.size p0) s.heap.size) s.heap s.heap [] := va_S.rf
  have hl := lv_entry ([.int p0]) (n := 2) (Nat.le_of_ble_eq_true rfl)
  rw [lg_entry_eq]
  generalize (lg_sl ([.int p0]) ++ List.replicate (2 - (lg_sl ([.int p0])).length) Slot.unset).toArray = ls at hl ⊢
  have hl : lv_has ls 2 [(0, .int p0)] := hl
  have hP : va_P (dC, dI) vwCl [] s.heap := hP
  have hD : va_D (va_A (ww_J6_numberOfTrailingZeros_0f7a4 dC dI cI cJ cB  s.heap.size p0) s.heap.size) [] := hD
  obtain ⟨H, hH⟩ : ∃ H, H = s.heap := ⟨_, rfl⟩
  obtain ⟨locs, hlc⟩ : ∃ L : List Loc, L = [] := ⟨_, rfl⟩
  have hS : va_S (va_A (ww_J6_numberOfTrailingZeros_0f7a4 dC dI cI cJ cB  s.heap.size p0) s.heap.size) s.heap H locs := by rw [hH, hlc]; exact hS
  have hP : va_P (dC, dI) vwCl [] H := by rw [hH]; exact hP
  suffices hgo : WW_J6_numberOfTrailingZeros_0f7a4 p l e s m below meth c dC dI cI cJ cB  s.heap.size p0 H locs (F0 m 0 ls []) by rw [hH, hlc] at hgo; exact hgo
  clear hH hlc
  have J_62 : ∀ (x0 : Int32) (x1 : Int32), ∀ (H : Heap) (locs : List Loc), va_P (dC, dI) vwCl [] H → va_D (va_A (ww_J6_numberOfTrailingZeros_0f7a4 dC dI cI cJ cB  s.heap.size p0) s.heap.size) [] → va_S (va_A (ww_J6_numberOfTrailingZeros_0f7a4 dC dI cI cJ cB  s.heap.size p0) s.heap.size) s.heap H locs → ∀ ls : Array Slot, lv_has ls 2 [(0, .int x0), (1, .int x1)] → WW_J6_numberOfTrailingZeros_0f7a4 p l e s m below meth c dC dI cI cJ cB  s.heap.size p0 H locs (F0 m 62 ls []) := by
    intro x0 x1  H locs hP hD hS ls hl
    refine lv_iload_n hx hb dJ6_numberOfTrailingZeros_0f7a4_62 rfl (lv_at hl 0 rfl) ?_
    refine lv_iconst (v := 4) hx hb dJ6_numberOfTrailingZeros_0f7a4_63 (by decide) ?_
    refine lv_icmp_le (tgt := 74) hx hb dJ6_numberOfTrailingZeros_0f7a4_64 (by decide) (fun c_1 => ?_) (fun c_1 => ?_)
    · have tc_1 : x0.toInt ≤ 4 := tb_le_t c_1
      refine lv_iload_n hx hb dJ6_numberOfTrailingZeros_0f7a4_74 rfl (lv_at hl 1 rfl) ?_
      refine lv_iload_n hx hb dJ6_numberOfTrailingZeros_0f7a4_75 rfl (lv_at hl 0 rfl) ?_
      refine lv_iconst (v := 1) hx hb dJ6_numberOfTrailingZeros_0f7a4_76 (by decide) ?_
      refine lv_iushr hx hb dJ6_numberOfTrailingZeros_0f7a4_77 rfl ?_
      refine lv_topi (fun y_2 ey_2 => ?_)
      refine lv_iadd hx hb dJ6_numberOfTrailingZeros_0f7a4_78 ?_
      refine lv_topi (fun y_3 ey_3 => ?_)
      have hP9 := hP.sub (ws' := []) [] rfl
      have hD9 := hD.sub (ws' := []) [] (by decide) rfl
      exact W.iret (v := y_3) hx hb hr (fun t ht hW => ⟨⟨y_3, (), rfl, trivial, by rw [ht]; exact hP9, va_K.moved hW.alike hK, hD9⟩, hS.F ht⟩) hS.2.2 dJ6_numberOfTrailingZeros_0f7a4_79
    · have tc_1 : 4 < x0.toInt := tb_le_f c_1
      obtain ⟨x1_4, ex1_4⟩ : ∃ y : Int32, y = x1 + (2) := ⟨_, rfl⟩
      refine lv_iinc (v := x1_4) (lv' := [(1, .int x1_4), (0, .int x0)]) hx hb dJ6_numberOfTrailingZeros_0f7a4_67 hl (k := 1) rfl (by rw [ex1_4]; rfl) (by decide) rfl (fun ls hl => ?_)
      refine lv_iload_n hx hb dJ6_numberOfTrailingZeros_0f7a4_70 rfl (lv_at hl 1 rfl) ?_
      refine lv_iconst (v := 2) hx hb dJ6_numberOfTrailingZeros_0f7a4_71 (by decide) ?_
      refine lv_iushr hx hb dJ6_numberOfTrailingZeros_0f7a4_72 rfl ?_
      refine lv_topi (fun y_5 ey_5 => ?_)
      refine lv_istore_n (lv' := [(0, .int y_5), (1, .int x1_4)]) hx hb dJ6_numberOfTrailingZeros_0f7a4_73 rfl hl (by decide) rfl (fun ls hl => ?_)
      refine lv_iload_n hx hb dJ6_numberOfTrailingZeros_0f7a4_74 rfl (lv_at hl 1 rfl) ?_
      refine lv_iload_n hx hb dJ6_numberOfTrailingZeros_0f7a4_75 rfl (lv_at hl 0 rfl) ?_
      refine lv_iconst (v := 1) hx hb dJ6_numberOfTrailingZeros_0f7a4_76 (by decide) ?_
      refine lv_iushr hx hb dJ6_numberOfTrailingZeros_0f7a4_77 rfl ?_
      refine lv_topi (fun y_6 ey_6 => ?_)
      refine lv_iadd hx hb dJ6_numberOfTrailingZeros_0f7a4_78 ?_
      refine lv_topi (fun y_7 ey_7 => ?_)
      have hP9 := hP.sub (ws' := []) [] rfl
      have hD9 := hD.sub (ws' := []) [] (by decide) rfl
      exact W.iret (v := y_7) hx hb hr (fun t ht hW => ⟨⟨y_7, (), rfl, trivial, by rw [ht]; exact hP9, va_K.moved hW.alike hK, hD9⟩, hS.F ht⟩) hS.2.2 dJ6_numberOfTrailingZeros_0f7a4_79
  have J_34 : ∀ (x0 : Int32) (x1 : Int32), ∀ (H : Heap) (locs : List Loc), va_P (dC, dI) vwCl [] H → va_D (va_A (ww_J6_numberOfTrailingZeros_0f7a4 dC dI cI cJ cB  s.heap.size p0) s.heap.size) [] → va_S (va_A (ww_J6_numberOfTrailingZeros_0f7a4 dC dI cI cJ cB  s.heap.size p0) s.heap.size) s.heap H locs → ∀ ls : Array Slot, lv_has ls 2 [(0, .int x0), (1, .int x1)] → WW_J6_numberOfTrailingZeros_0f7a4 p l e s m below meth c dC dI cI cJ cB  s.heap.size p0 H locs (F0 m 34 ls []) := by
    intro x0 x1  H locs hP hD hS ls hl
    refine lv_iload_n hx hb dJ6_numberOfTrailingZeros_0f7a4_34 rfl (lv_at hl 0 rfl) ?_
    refine lv_sipush (v := 256) hx hb dJ6_numberOfTrailingZeros_0f7a4_35 (by decide) ?_
    refine lv_icmp_le (tgt := 49) hx hb dJ6_numberOfTrailingZeros_0f7a4_38 (by decide) (fun c_8 => ?_) (fun c_8 => ?_)
    · have tc_8 : x0.toInt ≤ 256 := tb_le_t c_8
      refine lv_iload_n hx hb dJ6_numberOfTrailingZeros_0f7a4_49 rfl (lv_at hl 0 rfl) ?_
      refine lv_bipush (v := 16) hx hb dJ6_numberOfTrailingZeros_0f7a4_50 (by decide) ?_
      refine lv_icmp_le (tgt := 62) hx hb dJ6_numberOfTrailingZeros_0f7a4_52 (by decide) (fun c_9 => ?_) (fun c_9 => ?_)
      · have tc_9 : x0.toInt ≤ 16 := tb_le_t c_9
        exact J_62 x0 x1 _ _ (hP.sub [] rfl) (hD.sub [] (by decide) rfl) hS ls (lv_sub hl [0, 1] rfl)
      · have tc_9 : 16 < x0.toInt := tb_le_f c_9
        obtain ⟨x1_10, ex1_10⟩ : ∃ y : Int32, y = x1 + (4) := ⟨_, rfl⟩
        refine lv_iinc (v := x1_10) (lv' := [(1, .int x1_10), (0, .int x0)]) hx hb dJ6_numberOfTrailingZeros_0f7a4_55 hl (k := 1) rfl (by rw [ex1_10]; rfl) (by decide) rfl (fun ls hl => ?_)
        refine lv_iload_n hx hb dJ6_numberOfTrailingZeros_0f7a4_58 rfl (lv_at hl 1 rfl) ?_
        refine lv_iconst (v := 4) hx hb dJ6_numberOfTrailingZeros_0f7a4_59 (by decide) ?_
        refine lv_iushr hx hb dJ6_numberOfTrailingZeros_0f7a4_60 rfl ?_
        refine lv_topi (fun y_11 ey_11 => ?_)
        refine lv_istore_n (lv' := [(0, .int y_11), (1, .int x1_10)]) hx hb dJ6_numberOfTrailingZeros_0f7a4_61 rfl hl (by decide) rfl (fun ls hl => ?_)
        exact J_62 y_11 x1_10 _ _ (hP.sub [] rfl) (hD.sub [] (by decide) rfl) hS ls (lv_sub hl [0, 1] rfl)
    · have tc_8 : 256 < x0.toInt := tb_le_f c_8
      obtain ⟨x1_12, ex1_12⟩ : ∃ y : Int32, y = x1 + (8) := ⟨_, rfl⟩
      refine lv_iinc (v := x1_12) (lv' := [(1, .int x1_12), (0, .int x0)]) hx hb dJ6_numberOfTrailingZeros_0f7a4_41 hl (k := 1) rfl (by rw [ex1_12]; rfl) (by decide) rfl (fun ls hl => ?_)
      refine lv_iload_n hx hb dJ6_numberOfTrailingZeros_0f7a4_44 rfl (lv_at hl 1 rfl) ?_
      refine lv_bipush (v := 8) hx hb dJ6_numberOfTrailingZeros_0f7a4_45 (by decide) ?_
      refine lv_iushr hx hb dJ6_numberOfTrailingZeros_0f7a4_47 rfl ?_
      refine lv_topi (fun y_13 ey_13 => ?_)
      refine lv_istore_n (lv' := [(0, .int y_13), (1, .int x1_12)]) hx hb dJ6_numberOfTrailingZeros_0f7a4_48 rfl hl (by decide) rfl (fun ls hl => ?_)
      refine lv_iload_n hx hb dJ6_numberOfTrailingZeros_0f7a4_49 rfl (lv_at hl 0 rfl) ?_
      refine lv_bipush (v := 16) hx hb dJ6_numberOfTrailingZeros_0f7a4_50 (by decide) ?_
      refine lv_icmp_le (tgt := 62) hx hb dJ6_numberOfTrailingZeros_0f7a4_52 (by decide) (fun c_14 => ?_) (fun c_14 => ?_)
      · have tc_14 : y_13.toInt ≤ 16 := tb_le_t c_14
        exact J_62 y_13 x1_12 _ _ (hP.sub [] rfl) (hD.sub [] (by decide) rfl) hS ls (lv_sub hl [0, 1] rfl)
      · have tc_14 : 16 < y_13.toInt := tb_le_f c_14
        obtain ⟨x1_15, ex1_15⟩ : ∃ y : Int32, y = x1_12 + (4) := ⟨_, rfl⟩
        refine lv_iinc (v := x1_15) (lv' := [(1, .int x1_15), (0, .int y_13)]) hx hb dJ6_numberOfTrailingZeros_0f7a4_55 hl (k := 1) rfl (by rw [ex1_15]; rfl) (by decide) rfl (fun ls hl => ?_)
        refine lv_iload_n hx hb dJ6_numberOfTrailingZeros_0f7a4_58 rfl (lv_at hl 1 rfl) ?_
        refine lv_iconst (v := 4) hx hb dJ6_numberOfTrailingZeros_0f7a4_59 (by decide) ?_
        refine lv_iushr hx hb dJ6_numberOfTrailingZeros_0f7a4_60 rfl ?_
        refine lv_topi (fun y_16 ey_16 => ?_)
        refine lv_istore_n (lv' := [(0, .int y_16), (1, .int x1_15)]) hx hb dJ6_numberOfTrailingZeros_0f7a4_61 rfl hl (by decide) rfl (fun ls hl => ?_)
        exact J_62 y_16 x1_15 _ _ (hP.sub [] rfl) (hD.sub [] (by decide) rfl) hS ls (lv_sub hl [0, 1] rfl)
  refine lv_iload_n hx hb dJ6_numberOfTrailingZeros_0f7a4_0 rfl (lv_at hl 0 rfl) ?_
  refine lv_iconst (v := -1) hx hb dJ6_numberOfTrailingZeros_0f7a4_1 (by decide) ?_
  refine lv_ixor hx hb dJ6_numberOfTrailingZeros_0f7a4_2 ?_
  refine lv_topi (fun y_17 ey_17 => ?_)
  refine lv_iload_n hx hb dJ6_numberOfTrailingZeros_0f7a4_3 rfl (lv_at hl 0 rfl) ?_
  refine lv_iconst (v := 1) hx hb dJ6_numberOfTrailingZeros_0f7a4_4 (by decide) ?_
  refine lv_isub hx hb dJ6_numberOfTrailingZeros_0f7a4_5 ?_
  refine lv_topi (fun y_18 ey_18 => ?_)
  refine lv_iand hx hb dJ6_numberOfTrailingZeros_0f7a4_6 ?_
  refine lv_topi (fun y_19 ey_19 => ?_)
  refine lv_istore_n (lv' := [(0, .int y_19)]) hx hb dJ6_numberOfTrailingZeros_0f7a4_7 rfl hl (by decide) rfl (fun ls hl => ?_)
  refine lv_iload_n hx hb dJ6_numberOfTrailingZeros_0f7a4_8 rfl (lv_at hl 0 rfl) ?_
  refine lv_if_gt (tgt := 17) hx hb dJ6_numberOfTrailingZeros_0f7a4_9 (by decide) (fun c_20 => ?_) (fun c_20 => ?_)
  · have tc_20 : 0 < y_19.toInt := tb_gt_t c_20
    refine lv_iconst (v := 1) hx hb dJ6_numberOfTrailingZeros_0f7a4_17 (by decide) ?_
    refine lv_istore_n (lv' := [(1, .int ((1 : Int32))), (0, .int y_19)]) hx hb dJ6_numberOfTrailingZeros_0f7a4_18 rfl hl (by decide) rfl (fun ls hl => ?_)
    refine lv_iload_n hx hb dJ6_numberOfTrailingZeros_0f7a4_19 rfl (lv_at hl 1 rfl) ?_
    refine lv_ldcw (v := 65536) hx hb hown kk0_ dJ6_numberOfTrailingZeros_0f7a4_20 ?_
    refine lv_icmp_le (tgt := 34) hx hb dJ6_numberOfTrailingZeros_0f7a4_23 (by decide) (fun c_21 => ?_) (fun c_21 => ?_)
    · have tc_21 : y_19.toInt ≤ 65536 := tb_le_t c_21
      exact J_34 y_19 ((1 : Int32)) _ _ (hP.sub [] rfl) (hD.sub [] (by decide) rfl) hS ls (lv_sub hl [1, 0] rfl)
    · have tc_21 : 65536 < y_19.toInt := tb_le_f c_21
      obtain ⟨x1_22, ex1_22⟩ : ∃ y : Int32, y = ((1 : Int32)) + (16) := ⟨_, rfl⟩
      refine lv_iinc (v := x1_22) (lv' := [(1, .int x1_22), (0, .int y_19)]) hx hb dJ6_numberOfTrailingZeros_0f7a4_26 hl (k := 0) rfl (by rw [ex1_22]; rfl) (by decide) rfl (fun ls hl => ?_)
      have tex1_22 : x1_22.toInt = 17 := by rw [ex1_22]; rfl
      refine lv_iload_n hx hb dJ6_numberOfTrailingZeros_0f7a4_29 rfl (lv_at hl 1 rfl) ?_
      refine lv_bipush (v := 16) hx hb dJ6_numberOfTrailingZeros_0f7a4_30 (by decide) ?_
      refine lv_iushr hx hb dJ6_numberOfTrailingZeros_0f7a4_32 rfl ?_
      refine lv_topi (fun y_23 ey_23 => ?_)
      refine lv_istore_n (lv' := [(0, .int y_23), (1, .int x1_22)]) hx hb dJ6_numberOfTrailingZeros_0f7a4_33 rfl hl (by decide) rfl (fun ls hl => ?_)
      exact J_34 y_23 x1_22 _ _ (hP.sub [] rfl) (hD.sub [] (by decide) rfl) hS ls (lv_sub hl [0, 1] rfl)
  · have tc_20 : y_19.toInt ≤ 0 := tb_gt_f c_20
    refine lv_iload_n hx hb dJ6_numberOfTrailingZeros_0f7a4_12 rfl (lv_at hl 0 rfl) ?_
    refine lv_bipush (v := 32) hx hb dJ6_numberOfTrailingZeros_0f7a4_13 (by decide) ?_
    refine lv_iand hx hb dJ6_numberOfTrailingZeros_0f7a4_15 ?_
    refine lv_topi (fun y_24 ey_24 => ?_)
    have tey_24 := ti_mask (n := 32) ey_24 (by decide)
    have hP9 := hP.sub (ws' := []) [] rfl
    have hD9 := hD.sub (ws' := []) [] (by decide) rfl
    exact W.iret (v := y_24) hx hb hr (fun t ht hW => ⟨⟨y_24, (), rfl, trivial, by rw [ht]; exact hP9, va_K.moved hW.alike hK, hD9⟩, hS.F ht⟩) hS.2.2 dJ6_numberOfTrailingZeros_0f7a4_16
def wo_J13_bitCount_95d88 : List Cond := .code yJ13_bitCount_95d88 cJ13_bitCount_95d88 2 (some .int) :: (([.constantLong RJ13 314 (6148914691236517205), .constantLong RJ13 316 (3689348814741910323), .constantLong RJ13 318 (1085102592571150095)] : List Cond))
abbrev ww_J13_bitCount_95d88 (dC : Nat → ClassId) (dI : Nat → Nat → Nat) (cI cJ cB : ClassId) (sz : Nat) (p0 : Int64) : va_W := []
abbrev at_J13_bitCount_95d88 (dC : Nat → ClassId) (dI : Nat → Nat → Nat) (cI cJ cB : ClassId) (sz : Nat) (p0 : Int64) (u : Unit) (t : State) : Prop := match u with
  | () => va_P (dC, dI) vwCl [] t.heap ∧ va_K (dC, dI) vwCl (tyL cI cJ cB) t ∧ va_D (va_A (ww_J13_bitCount_95d88 dC dI cI cJ cB  sz p0) sz) []
abbrev qc_J13_bitCount_95d88 (dC : Nat → ClassId) (dI : Nat → Nat → Nat) (cI cJ cB : ClassId) (sz : Nat) (p0 : Int64) : Array Value → State → Outcome → State → Prop := va_Qi (fun (r : Int32) (u : Unit) => match u with | () => True) (at_J13_bitCount_95d88 dC dI cI cJ cB  sz p0) (va_A (ww_J13_bitCount_95d88 dC dI cI cJ cB  sz p0) sz)
abbrev pc_J13_bitCount_95d88 (dC : Nat → ClassId) (dI : Nat → Nat → Nat) (cI cJ cB : ClassId) (sz : Nat) (p0 : Int64) : Array Value → State → Prop := va_Pc [.long p0] (fun U => U.heap.size = sz ∧ NW U ∧ va_P (dC, dI) vwCl (ww_J13_bitCount_95d88 dC dI cI cJ cB  sz p0) U.heap ∧ va_K (dC, dI) vwCl (tyL cI cJ cB) U ∧ va_D (fun _ => True) (ww_J13_bitCount_95d88 dC dI cI cJ cB  sz p0))
abbrev rm_J13_bitCount_95d88 : Room := { frames := 0, cells := 0, slots := 0, locals := 0 }
abbrev WW_J13_bitCount_95d88 (p : Program) (l : Launch) (e : Env) (s : State) (m : MethodId) (below : List Frame) (meth : Method) (c : Code) (dC : Nat → ClassId) (dI : Nat → Nat → Nat) (cI cJ cB : ClassId) (sz : Nat) (p0 : Int64) (H : Heap) (locs : List Loc) (g : JFrame) : Prop := W p l e rm_J13_bitCount_95d88 s m ([.long p0] : List Value).toArray below meth c H locs 0 0 (MQ below (qc_J13_bitCount_95d88 dC dI cI cJ cB  sz p0) ([.long p0] : List Value).toArray s 0 0 (va_A (ww_J13_bitCount_95d88 dC dI cI cJ cB  sz p0) sz)) g
set_option maxHeartbeats 4000000 in
set_option maxRecDepth 100000 in
theorem c_J13_bitCount_95d88 (l : Launch) (dC : Nat → ClassId) (dI : Nat → Nat → Nat) (cI cJ cB : ClassId) (sz : Nat) (p0 : Int64) : Met l yJ13_bitCount_95d88 wo_J13_bitCount_95d88 rm_J13_bitCount_95d88 (pc_J13_bitCount_95d88 dC dI cI cJ cB  sz p0) (qc_J13_bitCount_95d88 dC dI cI cJ cB  sz p0) 0 0 (va_A (ww_J13_bitCount_95d88 dC dI cI cJ cB  sz p0) sz) := by
  refine Met.ofW (cc := cJ13_bitCount_95d88) (maxL := 2) (ret := (some .int)) (by decide) rfl ?_
  intro p e s m args below meth c s₁ B hml hv
  obtain ⟨rfl, hsz, hnw, hP, hK, hD0⟩ := hv
  have hx := B.exec
  have hb := B.bytes
  have hr := B.returns
  have hts := atoms_spec (ws := wo_J13_bitCount_95d88) B.pre
  have hown : s.vm.findClass RJ13 = some m.cls := findClass_of_methodNamed B.named
  have hlocks := B.notSynchronized
  clear B
  subst hsz
  have hD := hD0.self (sz := s.heap.size)
  clear hD0
  have kk0_ := hts (.constantLong RJ13 314 (6148914691236517205)) (by decide +kernel)
  have kk1_ := hts (.constantLong RJ13 316 (3689348814741910323)) (by decide +kernel)
  have kk2_ := hts (.constantLong RJ13 318 (1085102592571150095)) (by decide +kernel)
  have hA : ∀ q : Nat, s.heap.size ≤ q → (va_A (ww_J13_bitCount_95d88 dC dI cI cJ cB  s.heap.size p0) s.heap.size) q := fun q h => Or.inr h
  have hS : va_S (va_A (ww_J13_bitCount_95d88 dC dI cI cJ cB  s.heap.size p0) s.heap.size) s.heap s.heap [] := va_S.rf
  have hl := lv_entry ([.long p0]) (n := 2) (Nat.le_of_ble_eq_true rfl)
  rw [lg_entry_eq]
  generalize (lg_sl ([.long p0]) ++ List.replicate (2 - (lg_sl ([.long p0])).length) Slot.unset).toArray = ls at hl ⊢
  have hl : lv_has ls 2 [(0, .long p0)] := hl
  have hP : va_P (dC, dI) vwCl [] s.heap := hP
  have hD : va_D (va_A (ww_J13_bitCount_95d88 dC dI cI cJ cB  s.heap.size p0) s.heap.size) [] := hD
  obtain ⟨H, hH⟩ : ∃ H, H = s.heap := ⟨_, rfl⟩
  obtain ⟨locs, hlc⟩ : ∃ L : List Loc, L = [] := ⟨_, rfl⟩
  have hS : va_S (va_A (ww_J13_bitCount_95d88 dC dI cI cJ cB  s.heap.size p0) s.heap.size) s.heap H locs := by rw [hH, hlc]; exact hS
  have hP : va_P (dC, dI) vwCl [] H := by rw [hH]; exact hP
  suffices hgo : WW_J13_bitCount_95d88 p l e s m below meth c dC dI cI cJ cB  s.heap.size p0 H locs (F0 m 0 ls []) by rw [hH, hlc] at hgo; exact hgo
  clear hH hlc
  refine lv_lload_n hx hb dJ13_bitCount_95d88_0 rfl (lv_at hl 0 rfl) ?_
  refine lv_lload_n hx hb dJ13_bitCount_95d88_1 rfl (lv_at hl 0 rfl) ?_
  refine lv_iconst (v := 1) hx hb dJ13_bitCount_95d88_2 (by decide) ?_
  refine lv_lushr hx hb dJ13_bitCount_95d88_3 rfl ?_
  refine lv_topl (fun y_1 ey_1 => ?_)
  refine lv_ldc2 (v := 6148914691236517205) hx hb hown kk0_ dJ13_bitCount_95d88_4 ?_
  refine lv_land hx hb dJ13_bitCount_95d88_7 ?_
  refine lv_topl (fun y_2 ey_2 => ?_)
  refine lv_lsub hx hb dJ13_bitCount_95d88_8 ?_
  refine lv_topl (fun y_3 ey_3 => ?_)
  refine lv_lstore_n (lv' := [(0, .long y_3)]) hx hb dJ13_bitCount_95d88_9 rfl hl (by decide) rfl (fun ls hl => ?_)
  refine lv_lload_n hx hb dJ13_bitCount_95d88_10 rfl (lv_at hl 0 rfl) ?_
  refine lv_ldc2 (v := 3689348814741910323) hx hb hown kk1_ dJ13_bitCount_95d88_11 ?_
  refine lv_land hx hb dJ13_bitCount_95d88_14 ?_
  refine lv_topl (fun y_4 ey_4 => ?_)
  refine lv_lload_n hx hb dJ13_bitCount_95d88_15 rfl (lv_at hl 0 rfl) ?_
  refine lv_iconst (v := 2) hx hb dJ13_bitCount_95d88_16 (by decide) ?_
  refine lv_lushr hx hb dJ13_bitCount_95d88_17 rfl ?_
  refine lv_topl (fun y_5 ey_5 => ?_)
  refine lv_ldc2 (v := 3689348814741910323) hx hb hown kk1_ dJ13_bitCount_95d88_18 ?_
  refine lv_land hx hb dJ13_bitCount_95d88_21 ?_
  refine lv_topl (fun y_6 ey_6 => ?_)
  refine lv_ladd hx hb dJ13_bitCount_95d88_22 ?_
  refine lv_topl (fun y_7 ey_7 => ?_)
  refine lv_lstore_n (lv' := [(0, .long y_7)]) hx hb dJ13_bitCount_95d88_23 rfl hl (by decide) rfl (fun ls hl => ?_)
  refine lv_lload_n hx hb dJ13_bitCount_95d88_24 rfl (lv_at hl 0 rfl) ?_
  refine lv_lload_n hx hb dJ13_bitCount_95d88_25 rfl (lv_at hl 0 rfl) ?_
  refine lv_iconst (v := 4) hx hb dJ13_bitCount_95d88_26 (by decide) ?_
  refine lv_lushr hx hb dJ13_bitCount_95d88_27 rfl ?_
  refine lv_topl (fun y_8 ey_8 => ?_)
  refine lv_ladd hx hb dJ13_bitCount_95d88_28 ?_
  refine lv_topl (fun y_9 ey_9 => ?_)
  refine lv_ldc2 (v := 1085102592571150095) hx hb hown kk2_ dJ13_bitCount_95d88_29 ?_
  refine lv_land hx hb dJ13_bitCount_95d88_32 ?_
  refine lv_topl (fun y_10 ey_10 => ?_)
  refine lv_lstore_n (lv' := [(0, .long y_10)]) hx hb dJ13_bitCount_95d88_33 rfl hl (by decide) rfl (fun ls hl => ?_)
  refine lv_lload_n hx hb dJ13_bitCount_95d88_34 rfl (lv_at hl 0 rfl) ?_
  refine lv_lload_n hx hb dJ13_bitCount_95d88_35 rfl (lv_at hl 0 rfl) ?_
  refine lv_bipush (v := 8) hx hb dJ13_bitCount_95d88_36 (by decide) ?_
  refine lv_lushr hx hb dJ13_bitCount_95d88_38 rfl ?_
  refine lv_topl (fun y_11 ey_11 => ?_)
  refine lv_ladd hx hb dJ13_bitCount_95d88_39 ?_
  refine lv_topl (fun y_12 ey_12 => ?_)
  refine lv_lstore_n (lv' := [(0, .long y_12)]) hx hb dJ13_bitCount_95d88_40 rfl hl (by decide) rfl (fun ls hl => ?_)
  refine lv_lload_n hx hb dJ13_bitCount_95d88_41 rfl (lv_at hl 0 rfl) ?_
  refine lv_lload_n hx hb dJ13_bitCount_95d88_42 rfl (lv_at hl 0 rfl) ?_
  refine lv_bipush (v := 16) hx hb dJ13_bitCount_95d88_43 (by decide) ?_
  refine lv_lushr hx hb dJ13_bitCount_95d88_45 rfl ?_
  refine lv_topl (fun y_13 ey_13 => ?_)
  refine lv_ladd hx hb dJ13_bitCount_95d88_46 ?_
  refine lv_topl (fun y_14 ey_14 => ?_)
  refine lv_lstore_n (lv' := [(0, .long y_14)]) hx hb dJ13_bitCount_95d88_47 rfl hl (by decide) rfl (fun ls hl => ?_)
  refine lv_lload_n hx hb dJ13_bitCount_95d88_48 rfl (lv_at hl 0 rfl) ?_
  refine lv_lload_n hx hb dJ13_bitCount_95d88_49 rfl (lv_at hl 0 rfl) ?_
  refine lv_bipush (v := 32) hx hb dJ13_bitCount_95d88_50 (by decide) ?_
  refine lv_lushr hx hb dJ13_bitCount_95d88_52 rfl ?_
  refine lv_topl (fun y_15 ey_15 => ?_)
  refine lv_ladd hx hb dJ13_bitCount_95d88_53 ?_
  refine lv_topl (fun y_16 ey_16 => ?_)
  refine lv_lstore_n (lv' := [(0, .long y_16)]) hx hb dJ13_bitCount_95d88_54 rfl hl (by decide) rfl (fun ls hl => ?_)
  refine lv_lload_n hx hb dJ13_bitCount_95d88_55 rfl (lv_at hl 0 rfl) ?_
  refine lv_l2i hx hb dJ13_bitCount_95d88_56 rfl ?_
  refine lv_topi (fun y_17 ey_17 => ?_)
  refine lv_bipush (v := 127) hx hb dJ13_bitCount_95d88_57 (by decide) ?_
  refine lv_iand hx hb dJ13_bitCount_95d88_59 ?_
  refine lv_topi (fun y_18 ey_18 => ?_)
  have tey_18 := ti_mask (n := 127) ey_18 (by decide)
  have hP9 := hP.sub (ws' := []) [] rfl
  have hD9 := hD.sub (ws' := []) [] (by decide) rfl
  exact W.iret (v := y_18) hx hb hr (fun t ht hW => ⟨⟨y_18, (), rfl, trivial, by rw [ht]; exact hP9, va_K.moved hW.alike hK, hD9⟩, hS.F ht⟩) hS.2.2 dJ13_bitCount_95d88_60
def wo_X9_codeFor : List Cond := .code yX9_codeFor cX9_codeFor 2 (some .int) :: (([] : List Cond))
abbrev ww_X9_codeFor (dC : Nat → ClassId) (dI : Nat → Nat → Nat) (cI cJ cB : ClassId) (sz : Nat) (p0 : Int32) (p1 : Int32) : va_W := []
abbrev at_X9_codeFor (dC : Nat → ClassId) (dI : Nat → Nat → Nat) (cI cJ cB : ClassId) (sz : Nat) (p0 : Int32) (p1 : Int32) (u : Unit) (t : State) : Prop := match u with
  | () => va_P (dC, dI) vwCl [] t.heap ∧ va_K (dC, dI) vwCl (tyL cI cJ cB) t ∧ va_D (va_A (ww_X9_codeFor dC dI cI cJ cB  sz p0 p1) sz) []
abbrev qc_X9_codeFor (dC : Nat → ClassId) (dI : Nat → Nat → Nat) (cI cJ cB : ClassId) (sz : Nat) (p0 : Int32) (p1 : Int32) : Array Value → State → Outcome → State → Prop := va_Qi (fun (r : Int32) (u : Unit) => match u with | () => True) (at_X9_codeFor dC dI cI cJ cB  sz p0 p1) (va_A (ww_X9_codeFor dC dI cI cJ cB  sz p0 p1) sz)
abbrev pc_X9_codeFor (dC : Nat → ClassId) (dI : Nat → Nat → Nat) (cI cJ cB : ClassId) (sz : Nat) (p0 : Int32) (p1 : Int32) : Array Value → State → Prop := va_Pc [.int p0, .int p1] (fun U => U.heap.size = sz ∧ NW U ∧ va_P (dC, dI) vwCl (ww_X9_codeFor dC dI cI cJ cB  sz p0 p1) U.heap ∧ va_K (dC, dI) vwCl (tyL cI cJ cB) U ∧ va_D (fun _ => True) (ww_X9_codeFor dC dI cI cJ cB  sz p0 p1))
abbrev rm_X9_codeFor : Room := { frames := 0, cells := 0, slots := 0, locals := 0 }
abbrev WW_X9_codeFor (p : Program) (l : Launch) (e : Env) (s : State) (m : MethodId) (below : List Frame) (meth : Method) (c : Code) (dC : Nat → ClassId) (dI : Nat → Nat → Nat) (cI cJ cB : ClassId) (sz : Nat) (p0 : Int32) (p1 : Int32) (H : Heap) (locs : List Loc) (g : JFrame) : Prop := W p l e rm_X9_codeFor s m ([.int p0, .int p1] : List Value).toArray below meth c H locs 0 0 (MQ below (qc_X9_codeFor dC dI cI cJ cB  sz p0 p1) ([.int p0, .int p1] : List Value).toArray s 0 0 (va_A (ww_X9_codeFor dC dI cI cJ cB  sz p0 p1) sz)) g
set_option maxHeartbeats 4000000 in
set_option maxRecDepth 100000 in
theorem c_X9_codeFor (l : Launch) (dC : Nat → ClassId) (dI : Nat → Nat → Nat) (cI cJ cB : ClassId) (sz : Nat) (p0 : Int32) (p1 : Int32) : Met l yX9_codeFor wo_X9_codeFor rm_X9_codeFor (pc_X9_codeFor dC dI cI cJ cB  sz p0 p1) (qc_X9_codeFor dC dI cI cJ cB  sz p0 p1) 0 0 (va_A (ww_X9_codeFor dC dI cI cJ cB  sz p0 p1) sz) := by
  refine Met.ofW (cc := cX9_codeFor) (maxL := 2) (ret := (some .int)) (by decide) rfl ?_
  intro p e s m args below meth c s₁ B hml hv
  obtain ⟨rfl, hsz, hnw, hP, hK, hD0⟩ := hv
  have hx := B.exec
  have hb := B.bytes
  have hr := B.returns
  have hts := atoms_spec (ws := wo_X9_codeFor) B.pre
  have hown : s.vm.findClass RX9 = some m.cls := findClass_of_methodNamed B.named
  have hlocks := B.notSynchronized
  clear B
  subst hsz
  have hD := hD0.self (sz := s.heap.size)
  clear hD0
  have hA : ∀ q : Nat, s.heap.size ≤ q → (va_A (ww_X9_codeFor dC dI cI cJ cB  s.heap.size p0 p1) s.heap.size) q := fun q h => Or.inr h
  have hS : va_S (va_A (ww_X9_codeFor dC dI cI cJ cB  s.heap.size p0 p1) s.heap.size) s.heap s.heap [] := va_S.rf
  have hl := lv_entry ([.int p0, .int p1]) (n := 2) (Nat.le_of_ble_eq_true rfl)
  rw [lg_entry_eq]
  generalize (lg_sl ([.int p0, .int p1]) ++ List.replicate (2 - (lg_sl ([.int p0, .int p1])).length) Slot.unset).toArray = ls at hl ⊢
  have hl : lv_has ls 2 [(0, .int p0), (1, .int p1)] := hl
  have hP : va_P (dC, dI) vwCl [] s.heap := hP
  have hD : va_D (va_A (ww_X9_codeFor dC dI cI cJ cB  s.heap.size p0 p1) s.heap.size) [] := hD
  obtain ⟨H, hH⟩ : ∃ H, H = s.heap := ⟨_, rfl⟩
  obtain ⟨locs, hlc⟩ : ∃ L : List Loc, L = [] := ⟨_, rfl⟩
  have hS : va_S (va_A (ww_X9_codeFor dC dI cI cJ cB  s.heap.size p0 p1) s.heap.size) s.heap H locs := by rw [hH, hlc]; exact hS
  have hP : va_P (dC, dI) vwCl [] H := by rw [hH]; exact hP
  suffices hgo : WW_X9_codeFor p l e s m below meth c dC dI cI cJ cB  s.heap.size p0 p1 H locs (F0 m 0 ls []) by rw [hH, hlc] at hgo; exact hgo
  clear hH hlc
  refine lv_bipush (v := 8) hx hb dX9_codeFor_0 (by decide) ?_
  refine lv_iload_n hx hb dX9_codeFor_2 rfl (lv_at hl 0 rfl) ?_
  refine lv_iconst (v := 1) hx hb dX9_codeFor_3 (by decide) ?_
  refine lv_iadd hx hb dX9_codeFor_4 ?_
  refine lv_topi (fun y_1 ey_1 => ?_)
  refine lv_imul hx hb dX9_codeFor_5 ?_
  refine lv_topi (fun y_2 ey_2 => ?_)
  refine lv_iload_n hx hb dX9_codeFor_6 rfl (lv_at hl 1 rfl) ?_
  refine lv_iadd hx hb dX9_codeFor_7 ?_
  refine lv_topi (fun y_3 ey_3 => ?_)
  have hP9 := hP.sub (ws' := []) [] rfl
  have hD9 := hD.sub (ws' := []) [] (by decide) rfl
  exact W.iret (v := y_3) hx hb hr (fun t ht hW => ⟨⟨y_3, (), rfl, trivial, by rw [ht]; exact hP9, va_K.moved hW.alike hK, hD9⟩, hS.F ht⟩) hS.2.2 dX9_codeFor_8
def wo_X9_operatorIn : List Cond := .code yX9_operatorIn cX9_operatorIn 1 (some .int) :: (([] : List Cond))
abbrev ww_X9_operatorIn (dC : Nat → ClassId) (dI : Nat → Nat → Nat) (cI cJ cB : ClassId) (sz : Nat) (p0 : Int32) : va_W := []
abbrev at_X9_operatorIn (dC : Nat → ClassId) (dI : Nat → Nat → Nat) (cI cJ cB : ClassId) (sz : Nat) (p0 : Int32) (u : Unit) (t : State) : Prop := match u with
  | () => va_P (dC, dI) vwCl [] t.heap ∧ va_K (dC, dI) vwCl (tyL cI cJ cB) t ∧ va_D (va_A (ww_X9_operatorIn dC dI cI cJ cB  sz p0) sz) []
abbrev qc_X9_operatorIn (dC : Nat → ClassId) (dI : Nat → Nat → Nat) (cI cJ cB : ClassId) (sz : Nat) (p0 : Int32) : Array Value → State → Outcome → State → Prop := va_Qi (fun (r : Int32) (u : Unit) => match u with | () => True) (at_X9_operatorIn dC dI cI cJ cB  sz p0) (va_A (ww_X9_operatorIn dC dI cI cJ cB  sz p0) sz)
abbrev pc_X9_operatorIn (dC : Nat → ClassId) (dI : Nat → Nat → Nat) (cI cJ cB : ClassId) (sz : Nat) (p0 : Int32) : Array Value → State → Prop := va_Pc [.int p0] (fun U => U.heap.size = sz ∧ NW U ∧ va_P (dC, dI) vwCl (ww_X9_operatorIn dC dI cI cJ cB  sz p0) U.heap ∧ va_K (dC, dI) vwCl (tyL cI cJ cB) U ∧ va_D (fun _ => True) (ww_X9_operatorIn dC dI cI cJ cB  sz p0))
abbrev rm_X9_operatorIn : Room := { frames := 0, cells := 0, slots := 0, locals := 0 }
abbrev WW_X9_operatorIn (p : Program) (l : Launch) (e : Env) (s : State) (m : MethodId) (below : List Frame) (meth : Method) (c : Code) (dC : Nat → ClassId) (dI : Nat → Nat → Nat) (cI cJ cB : ClassId) (sz : Nat) (p0 : Int32) (H : Heap) (locs : List Loc) (g : JFrame) : Prop := W p l e rm_X9_operatorIn s m ([.int p0] : List Value).toArray below meth c H locs 0 0 (MQ below (qc_X9_operatorIn dC dI cI cJ cB  sz p0) ([.int p0] : List Value).toArray s 0 0 (va_A (ww_X9_operatorIn dC dI cI cJ cB  sz p0) sz)) g
set_option maxHeartbeats 4000000 in
set_option maxRecDepth 100000 in
theorem c_X9_operatorIn (l : Launch) (dC : Nat → ClassId) (dI : Nat → Nat → Nat) (cI cJ cB : ClassId) (sz : Nat) (p0 : Int32) : Met l yX9_operatorIn wo_X9_operatorIn rm_X9_operatorIn (pc_X9_operatorIn dC dI cI cJ cB  sz p0) (qc_X9_operatorIn dC dI cI cJ cB  sz p0) 0 0 (va_A (ww_X9_operatorIn dC dI cI cJ cB  sz p0) sz) := by
  refine Met.ofW (cc := cX9_operatorIn) (maxL := 1) (ret := (some .int)) (by decide) rfl ?_
  intro p e s m args below meth c s₁ B hml hv
  obtain ⟨rfl, hsz, hnw, hP, hK, hD0⟩ := hv
  have hx := B.exec
  have hb := B.bytes
  have hr := B.returns
  have hts := atoms_spec (ws := wo_X9_operatorIn) B.pre
  have hown : s.vm.findClass RX9 = some m.cls := findClass_of_methodNamed B.named
  have hlocks := B.notSynchronized
  clear B
  subst hsz
  have hD := hD0.self (sz := s.heap.size)
  clear hD0
  have hA : ∀ q : Nat, s.heap.size ≤ q → (va_A (ww_X9_operatorIn dC dI cI cJ cB  s.heap.size p0) s.heap.size) q := fun q h => Or.inr h
  have hS : va_S (va_A (ww_X9_operatorIn dC dI cI cJ cB  s.heap.size p0) s.heap.size) s.heap s.heap [] := va_S.rf
  have hl := lv_entry ([.int p0]) (n := 1) (Nat.le_of_ble_eq_true rfl)
  rw [lg_entry_eq]
  generalize (lg_sl ([.int p0]) ++ List.replicate (1 - (lg_sl ([.int p0])).length) Slot.unset).toArray = ls at hl ⊢
  have hl : lv_has ls 1 [(0, .int p0)] := hl
  have hP : va_P (dC, dI) vwCl [] s.heap := hP
  have hD : va_D (va_A (ww_X9_operatorIn dC dI cI cJ cB  s.heap.size p0) s.heap.size) [] := hD
  obtain ⟨H, hH⟩ : ∃ H, H = s.heap := ⟨_, rfl⟩
  obtain ⟨locs, hlc⟩ : ∃ L : List Loc, L = [] := ⟨_, rfl⟩
  have hS : va_S (va_A (ww_X9_operatorIn dC dI cI cJ cB  s.heap.size p0) s.heap.size) s.heap H locs := by rw [hH, hlc]; exact hS
  have hP : va_P (dC, dI) vwCl [] H := by rw [hH]; exact hP
  suffices hgo : WW_X9_operatorIn p l e s m below meth c dC dI cI cJ cB  s.heap.size p0 H locs (F0 m 0 ls []) by rw [hH, hlc] at hgo; exact hgo
  clear hH hlc
  refine lv_iload_n hx hb dX9_operatorIn_0 rfl (lv_at hl 0 rfl) ?_
  refine lv_bipush (v := 8) hx hb dX9_operatorIn_1 (by decide) ?_
  refine lv_icmp_ge (tgt := 10) hx hb dX9_operatorIn_3 (by decide) (fun c_1 => ?_) (fun c_1 => ?_)
  · have tc_1 : 8 ≤ p0.toInt := tb_ge_t c_1
    refine lv_iload_n hx hb dX9_operatorIn_10 rfl (lv_at hl 0 rfl) ?_
    refine lv_iconst (v := 3) hx hb dX9_operatorIn_11 (by decide) ?_
    refine lv_ishr hx hb dX9_operatorIn_12 ?_
    refine lv_topi (fun y_2 ey_2 => ?_)
    refine lv_iconst (v := 1) hx hb dX9_operatorIn_13 (by decide) ?_
    refine lv_isub hx hb dX9_operatorIn_14 ?_
    refine lv_topi (fun y_3 ey_3 => ?_)
    have hP9 := hP.sub (ws' := []) [] rfl
    have hD9 := hD.sub (ws' := []) [] (by decide) rfl
    exact W.iret (v := y_3) hx hb hr (fun t ht hW => ⟨⟨y_3, (), rfl, trivial, by rw [ht]; exact hP9, va_K.moved hW.alike hK, hD9⟩, hS.F ht⟩) hS.2.2 dX9_operatorIn_15
  · have tc_1 : p0.toInt < 8 := tb_ge_f c_1
    refine lv_iconst (v := -1) hx hb dX9_operatorIn_6 (by decide) ?_
    refine lv_goto (tgt := 15) hx hb dX9_operatorIn_7 (by decide) ?_
    have hP9 := hP.sub (ws' := []) [] rfl
    have hD9 := hD.sub (ws' := []) [] (by decide) rfl
    exact W.iret (v := (-1 : Int32)) hx hb hr (fun t ht hW => ⟨⟨(-1 : Int32), (), rfl, trivial, by rw [ht]; exact hP9, va_K.moved hW.alike hK, hD9⟩, hS.F ht⟩) hS.2.2 dX9_operatorIn_15
def wo_X9_partsIn : List Cond := .code yX9_partsIn cX9_partsIn 1 (some .int) :: (([] : List Cond))
abbrev ww_X9_partsIn (dC : Nat → ClassId) (dI : Nat → Nat → Nat) (cI cJ cB : ClassId) (sz : Nat) (p0 : Int32) : va_W := []
abbrev at_X9_partsIn (dC : Nat → ClassId) (dI : Nat → Nat → Nat) (cI cJ cB : ClassId) (sz : Nat) (p0 : Int32) (u : Unit) (t : State) : Prop := match u with
  | () => va_P (dC, dI) vwCl [] t.heap ∧ va_K (dC, dI) vwCl (tyL cI cJ cB) t ∧ va_D (va_A (ww_X9_partsIn dC dI cI cJ cB  sz p0) sz) []
abbrev qc_X9_partsIn (dC : Nat → ClassId) (dI : Nat → Nat → Nat) (cI cJ cB : ClassId) (sz : Nat) (p0 : Int32) : Array Value → State → Outcome → State → Prop := va_Qi (fun (r : Int32) (u : Unit) => match u with | () => (0 ≤ r.toInt ∧ r.toInt ≤ 7)) (at_X9_partsIn dC dI cI cJ cB  sz p0) (va_A (ww_X9_partsIn dC dI cI cJ cB  sz p0) sz)
abbrev pc_X9_partsIn (dC : Nat → ClassId) (dI : Nat → Nat → Nat) (cI cJ cB : ClassId) (sz : Nat) (p0 : Int32) : Array Value → State → Prop := va_Pc [.int p0] (fun U => U.heap.size = sz ∧ NW U ∧ va_P (dC, dI) vwCl (ww_X9_partsIn dC dI cI cJ cB  sz p0) U.heap ∧ va_K (dC, dI) vwCl (tyL cI cJ cB) U ∧ va_D (fun _ => True) (ww_X9_partsIn dC dI cI cJ cB  sz p0))
abbrev rm_X9_partsIn : Room := { frames := 0, cells := 0, slots := 0, locals := 0 }
abbrev WW_X9_partsIn (p : Program) (l : Launch) (e : Env) (s : State) (m : MethodId) (below : List Frame) (meth : Method) (c : Code) (dC : Nat → ClassId) (dI : Nat → Nat → Nat) (cI cJ cB : ClassId) (sz : Nat) (p0 : Int32) (H : Heap) (locs : List Loc) (g : JFrame) : Prop := W p l e rm_X9_partsIn s m ([.int p0] : List Value).toArray below meth c H locs 0 0 (MQ below (qc_X9_partsIn dC dI cI cJ cB  sz p0) ([.int p0] : List Value).toArray s 0 0 (va_A (ww_X9_partsIn dC dI cI cJ cB  sz p0) sz)) g
set_option maxHeartbeats 4000000 in
set_option maxRecDepth 100000 in
theorem c_X9_partsIn (l : Launch) (dC : Nat → ClassId) (dI : Nat → Nat → Nat) (cI cJ cB : ClassId) (sz : Nat) (p0 : Int32) : Met l yX9_partsIn wo_X9_partsIn rm_X9_partsIn (pc_X9_partsIn dC dI cI cJ cB  sz p0) (qc_X9_partsIn dC dI cI cJ cB  sz p0) 0 0 (va_A (ww_X9_partsIn dC dI cI cJ cB  sz p0) sz) := by
  refine Met.ofW (cc := cX9_partsIn) (maxL := 1) (ret := (some .int)) (by decide) rfl ?_
  intro p e s m args below meth c s₁ B hml hv
  obtain ⟨rfl, hsz, hnw, hP, hK, hD0⟩ := hv
  have hx := B.exec
  have hb := B.bytes
  have hr := B.returns
  have hts := atoms_spec (ws := wo_X9_partsIn) B.pre
  have hown : s.vm.findClass RX9 = some m.cls := findClass_of_methodNamed B.named
  have hlocks := B.notSynchronized
  clear B
  subst hsz
  have hD := hD0.self (sz := s.heap.size)
  clear hD0
  have hA : ∀ q : Nat, s.heap.size ≤ q → (va_A (ww_X9_partsIn dC dI cI cJ cB  s.heap.size p0) s.heap.size) q := fun q h => Or.inr h
  have hS : va_S (va_A (ww_X9_partsIn dC dI cI cJ cB  s.heap.size p0) s.heap.size) s.heap s.heap [] := va_S.rf
  have hl := lv_entry ([.int p0]) (n := 1) (Nat.le_of_ble_eq_true rfl)
  rw [lg_entry_eq]
  generalize (lg_sl ([.int p0]) ++ List.replicate (1 - (lg_sl ([.int p0])).length) Slot.unset).toArray = ls at hl ⊢
  have hl : lv_has ls 1 [(0, .int p0)] := hl
  have hP : va_P (dC, dI) vwCl [] s.heap := hP
  have hD : va_D (va_A (ww_X9_partsIn dC dI cI cJ cB  s.heap.size p0) s.heap.size) [] := hD
  obtain ⟨H, hH⟩ : ∃ H, H = s.heap := ⟨_, rfl⟩
  obtain ⟨locs, hlc⟩ : ∃ L : List Loc, L = [] := ⟨_, rfl⟩
  have hS : va_S (va_A (ww_X9_partsIn dC dI cI cJ cB  s.heap.size p0) s.heap.size) s.heap H locs := by rw [hH, hlc]; exact hS
  have hP : va_P (dC, dI) vwCl [] H := by rw [hH]; exact hP
  suffices hgo : WW_X9_partsIn p l e s m below meth c dC dI cI cJ cB  s.heap.size p0 H locs (F0 m 0 ls []) by rw [hH, hlc] at hgo; exact hgo
  clear hH hlc
  refine lv_iload_n hx hb dX9_partsIn_0 rfl (lv_at hl 0 rfl) ?_
  refine lv_bipush (v := 8) hx hb dX9_partsIn_1 (by decide) ?_
  refine lv_icmp_ge (tgt := 10) hx hb dX9_partsIn_3 (by decide) (fun c_1 => ?_) (fun c_1 => ?_)
  · have tc_1 : 8 ≤ p0.toInt := tb_ge_t c_1
    refine lv_iload_n hx hb dX9_partsIn_10 rfl (lv_at hl 0 rfl) ?_
    refine lv_bipush (v := 7) hx hb dX9_partsIn_11 (by decide) ?_
    refine lv_iand hx hb dX9_partsIn_13 ?_
    refine lv_topi (fun y_2 ey_2 => ?_)
    have tey_2 := ti_mask (n := 7) ey_2 (by decide)
    have hP9 := hP.sub (ws' := []) [] rfl
    have hD9 := hD.sub (ws' := []) [] (by decide) rfl
    have r9_0 : 0 ≤ y_2.toInt ∧ y_2.toInt ≤ 7 := by first | omega | (exact ⟨by decide, by decide⟩)
    exact W.iret (v := y_2) hx hb hr (fun t ht hW => ⟨⟨y_2, (), rfl, r9_0, by rw [ht]; exact hP9, va_K.moved hW.alike hK, hD9⟩, hS.F ht⟩) hS.2.2 dX9_partsIn_14
  · have tc_1 : p0.toInt < 8 := tb_ge_f c_1
    refine lv_iconst (v := 0) hx hb dX9_partsIn_6 (by decide) ?_
    refine lv_goto (tgt := 14) hx hb dX9_partsIn_7 (by decide) ?_
    have hP9 := hP.sub (ws' := []) [] rfl
    have hD9 := hD.sub (ws' := []) [] (by decide) rfl
    have r9_0 : 0 ≤ ((0 : Int32)).toInt ∧ ((0 : Int32)).toInt ≤ 7 := by first | omega | (exact ⟨by decide, by decide⟩)
    exact W.iret (v := (0 : Int32)) hx hb hr (fun t ht hW => ⟨⟨(0 : Int32), (), rfl, r9_0, by rw [ht]; exact hP9, va_K.moved hW.alike hK, hD9⟩, hS.F ht⟩) hS.2.2 dX9_partsIn_14
