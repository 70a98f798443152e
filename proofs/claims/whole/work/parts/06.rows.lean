def wo_X2_clear : List Cond := .code yX2_clear cX2_clear 1 none :: (([.fieldLink RX2 30 "SumRewriter$Rows" "used" "I"] : List Cond) ++ ((wsX20)))
abbrev ww_X2_clear (dC : Nat → ClassId) (dI : Nat → Nat → Nat) (cI cJ cB : ClassId) (ra ra1 ra2 ra3 : Nat) (sz : Nat) (ra_n : Nat) (ra_u0 : Int32) (ra_c : Nat → Int32) (ra_l : Nat → Int32) (ra_o : Nat → Int32) : va_W := [(ra, .inr (2, [.ref ra1, .ref ra2, .ref ra3, .int ra_u0])), (ra1, .inl (cI, ra_n * 20, .inl ra_c)), (ra2, .inl (cI, ra_n, .inl ra_l)), (ra3, .inl (cI, 21, .inl ra_o))]
abbrev at_X2_clear (dC : Nat → ClassId) (dI : Nat → Nat → Nat) (cI cJ cB : ClassId) (ra ra1 ra2 ra3 : Nat) (sz : Nat) (ra_n : Nat) (ra_u0 : Int32) (ra_c : Nat → Int32) (ra_l : Nat → Int32) (ra_o : Nat → Int32) (u : Int32) (t : State) : Prop := match u with
  | ra_u => va_P (dC, dI) vwCl [(ra, .inr (2, [.ref ra1, .ref ra2, .ref ra3, .int ra_u])), (ra1, .inl (cI, ra_n * 20, .inl ra_c)), (ra2, .inl (cI, ra_n, .inl ra_l)), (ra3, .inl (cI, 21, .inl ra_o))] t.heap ∧ va_K (dC, dI) vwCl (tyL cI cJ cB) t ∧ va_D (va_A (ww_X2_clear dC dI cI cJ cB ra ra1 ra2 ra3 sz ra_n ra_u0 ra_c ra_l ra_o) sz) [(ra, .inr (2, [.ref ra1, .ref ra2, .ref ra3, .int ra_u])), (ra1, .inl (cI, ra_n * 20, .inl ra_c)), (ra2, .inl (cI, ra_n, .inl ra_l)), (ra3, .inl (cI, 21, .inl ra_o))]
abbrev qc_X2_clear (dC : Nat → ClassId) (dI : Nat → Nat → Nat) (cI cJ cB : ClassId) (ra ra1 ra2 ra3 : Nat) (sz : Nat) (ra_n : Nat) (ra_u0 : Int32) (ra_c : Nat → Int32) (ra_l : Nat → Int32) (ra_o : Nat → Int32) : Array Value → State → Outcome → State → Prop := va_Qv (fun (u : Int32) => match u with | ra_u => (ra_u = 0)) (at_X2_clear dC dI cI cJ cB ra ra1 ra2 ra3 sz ra_n ra_u0 ra_c ra_l ra_o) (va_A (ww_X2_clear dC dI cI cJ cB ra ra1 ra2 ra3 sz ra_n ra_u0 ra_c ra_l ra_o) sz)
abbrev pc_X2_clear (dC : Nat → ClassId) (dI : Nat → Nat → Nat) (cI cJ cB : ClassId) (ra ra1 ra2 ra3 : Nat) (sz : Nat) (ra_n : Nat) (ra_u0 : Int32) (ra_c : Nat → Int32) (ra_l : Nat → Int32) (ra_o : Nat → Int32) : Array Value → State → Prop := va_Pc [.ref ra] (fun U => U.heap.size = sz ∧ NW U ∧ va_P (dC, dI) vwCl (ww_X2_clear dC dI cI cJ cB ra ra1 ra2 ra3 sz ra_n ra_u0 ra_c ra_l ra_o) U.heap ∧ va_K (dC, dI) vwCl (tyL cI cJ cB) U ∧ va_D (fun _ => True) (ww_X2_clear dC dI cI cJ cB ra ra1 ra2 ra3 sz ra_n ra_u0 ra_c ra_l ra_o))
abbrev rm_X2_clear : Room := { frames := 0, cells := 0, slots := 0, locals := 0 }
abbrev WW_X2_clear (p : Program) (l : Launch) (e : Env) (s : State) (m : MethodId) (below : List Frame) (meth : Method) (c : Code) (dC : Nat → ClassId) (dI : Nat → Nat → Nat) (cI cJ cB : ClassId) (ra ra1 ra2 ra3 : Nat) (sz : Nat) (ra_n : Nat) (ra_u0 : Int32) (ra_c : Nat → Int32) (ra_l : Nat → Int32) (ra_o : Nat → Int32) (H : Heap) (locs : List Loc) (g : JFrame) : Prop := W p l e rm_X2_clear s m ([.ref ra] : List Value).toArray below meth c H locs 0 0 (MQ below (qc_X2_clear dC dI cI cJ cB ra ra1 ra2 ra3 sz ra_n ra_u0 ra_c ra_l ra_o) ([.ref ra] : List Value).toArray s 0 0 (va_A (ww_X2_clear dC dI cI cJ cB ra ra1 ra2 ra3 sz ra_n ra_u0 ra_c ra_l ra_o) sz)) g
set_option maxHeartbeats 4000000 in
set_option maxRecDepth 100000 in
theorem c_X2_clear (l : Launch) (dC : Nat → ClassId) (dI : Nat → Nat → Nat) (cI cJ cB : ClassId) (ra ra1 ra2 ra3 : Nat) (sz : Nat) (ra_n : Nat) (ra_u0 : Int32) (ra_c : Nat → Int32) (ra_l : Nat → Int32) (ra_o : Nat → Int32) : Met l yX2_clear wo_X2_clear rm_X2_clear (pc_X2_clear dC dI cI cJ cB ra ra1 ra2 ra3 sz ra_n ra_u0 ra_c ra_l ra_o) (qc_X2_clear dC dI cI cJ cB ra ra1 ra2 ra3 sz ra_n ra_u0 ra_c ra_l ra_o) 0 0 (va_A (ww_X2_clear dC dI cI cJ cB ra ra1 ra2 ra3 sz ra_n ra_u0 ra_c ra_l ra_o) sz) := by
  refine Met.ofW (cc := cX2_clear) (maxL := 1) (ret := none) (by decide) rfl ?_
  intro p e s m args below meth c s₁ B hml hv
  obtain ⟨rfl, hsz, hnw, hP, hK, hD0⟩ := hv
  have hx := B.exec
  have hb := B.bytes
  have hr := B.returns
  have hts := atoms_spec (ws := wo_X2_clear) B.pre
  have hown : s.vm.findClass RX2 = some m.cls := findClass_of_methodNamed B.named
  have hlocks := B.notSynchronized
  clear B
  subst hsz
  have hD := hD0.self (sz := s.heap.size)
  clear hD0
  have kk0_ := hts (.fieldLink RX2 30 "SumRewriter$Rows" "used" "I") (by decide +kernel)
  have kk1_ : ∀ w ∈ wsX20, w ∈ wo_X2_clear := fun _ h => (List.mem_cons_of_mem _ (List.mem_append_right _ h))
  have hA : ∀ q : Nat, s.heap.size ≤ q → (va_A (ww_X2_clear dC dI cI cJ cB ra ra1 ra2 ra3 s.heap.size ra_n ra_u0 ra_c ra_l ra_o) s.heap.size) q := fun q h => Or.inr h
  have hS : va_S (va_A (ww_X2_clear dC dI cI cJ cB ra ra1 ra2 ra3 s.heap.size ra_n ra_u0 ra_c ra_l ra_o) s.heap.size) s.heap s.heap [] := va_S.rf
  have hl := lv_entry ([.ref ra]) (n := 1) (Nat.le_of_ble_eq_true rfl)
  rw [lg_entry_eq]
  generalize (lg_sl ([.ref ra]) ++ List.replicate (1 - (lg_sl ([.ref ra])).length) Slot.unset).toArray = ls at hl ⊢
  have hl : lv_has ls 1 [(0, .ref ra)] := hl
  have hP : va_P (dC, dI) vwCl [(ra, .inr (2, [.ref ra1, .ref ra2, .ref ra3, .int ra_u0])), (ra1, .inl (cI, ra_n * 20, .inl ra_c)), (ra2, .inl (cI, ra_n, .inl ra_l)), (ra3, .inl (cI, 21, .inl ra_o))] s.heap := hP
  have hD : va_D (va_A (ww_X2_clear dC dI cI cJ cB ra ra1 ra2 ra3 s.heap.size ra_n ra_u0 ra_c ra_l ra_o) s.heap.size) [(ra, .inr (2, [.ref ra1, .ref ra2, .ref ra3, .int ra_u0])), (ra1, .inl (cI, ra_n * 20, .inl ra_c)), (ra2, .inl (cI, ra_n, .inl ra_l)), (ra3, .inl (cI, 21, .inl ra_o))] := hD
  obtain ⟨H, hH⟩ : ∃ H, H = s.heap := ⟨_, rfl⟩
  obtain ⟨locs, hlc⟩ : ∃ L : List Loc, L = [] := ⟨_, rfl⟩
  have hS : va_S (va_A (ww_X2_clear dC dI cI cJ cB ra ra1 ra2 ra3 s.heap.size ra_n ra_u0 ra_c ra_l ra_o) s.heap.size) s.heap H locs := by rw [hH, hlc]; exact hS
  have hP : va_P (dC, dI) vwCl [(ra, .inr (2, [.ref ra1, .ref ra2, .ref ra3, .int ra_u0])), (ra1, .inl (cI, ra_n * 20, .inl ra_c)), (ra2, .inl (cI, ra_n, .inl ra_l)), (ra3, .inl (cI, 21, .inl ra_o))] H := by rw [hH]; exact hP
  suffices hgo : WW_X2_clear p l e s m below meth c dC dI cI cJ cB ra ra1 ra2 ra3 s.heap.size ra_n ra_u0 ra_c ra_l ra_o H locs (F0 m 0 ls []) by rw [hH, hlc] at hgo; exact hgo
  clear hH hlc
  refine lv_aload_n hx hb dX2_clear_0 rfl (lv_at hl 0 rfl) ?_
  refine lv_iconst (v := 0) hx hb dX2_clear_1 (by decide) ?_
  refine va_put (D := (dC, dI)) (ci := 2) (v := .int ((0 : Int32))) (ty := .int) (C := RX2) (T := TX2) (N := 4) hx hb hts kk1_ tyX2 tyX2_ok nmX2 hown hK hP hD hS 0 rfl rfl 3 (by decide) kk0_ (fun _ h9 => h9) rfl (by decide +kernel) rfl rfl (Nat.le_of_ble_eq_true rfl) dX2_clear_2 (fun H locs hP hD hS => ?_)
  have hP : va_P (dC, dI) vwCl [(ra, .inr (2, [.ref ra1, .ref ra2, .ref ra3, .int ((0 : Int32))])), (ra1, .inl (cI, ra_n * 20, .inl ra_c)), (ra2, .inl (cI, ra_n, .inl ra_l)), (ra3, .inl (cI, 21, .inl ra_o))] H := hP
  have hD : va_D (va_A (ww_X2_clear dC dI cI cJ cB ra ra1 ra2 ra3 s.heap.size ra_n ra_u0 ra_c ra_l ra_o) s.heap.size) [(ra, .inr (2, [.ref ra1, .ref ra2, .ref ra3, .int ((0 : Int32))])), (ra1, .inl (cI, ra_n * 20, .inl ra_c)), (ra2, .inl (cI, ra_n, .inl ra_l)), (ra3, .inl (cI, 21, .inl ra_o))] := hD
  have hP9 := hP.sub (ws' := [(ra, .inr (2, [.ref ra1, .ref ra2, .ref ra3, .int ((0 : Int32))])), (ra1, .inl (cI, ra_n * 20, .inl ra_c)), (ra2, .inl (cI, ra_n, .inl ra_l)), (ra3, .inl (cI, 21, .inl ra_o))]) [0, 1, 2, 3] rfl
  have hD9 := hD.sub (ws' := [(ra, .inr (2, [.ref ra1, .ref ra2, .ref ra3, .int ((0 : Int32))])), (ra1, .inl (cI, ra_n * 20, .inl ra_c)), (ra2, .inl (cI, ra_n, .inl ra_l)), (ra3, .inl (cI, 21, .inl ra_o))]) [0, 1, 2, 3] (by decide) rfl
  have r9_0 : (0 : Int32) = 0 := rfl
  exact W.vret hx hb hr (fun t ht hW => ⟨⟨(0 : Int32), rfl, r9_0, by rw [ht]; exact hP9, va_K.moved hW.alike hK, hD9⟩, hS.F ht⟩) hS.2.2 dX2_clear_5
def wo_X2_dropLast : List Cond := .code yX2_dropLast cX2_dropLast 1 none :: (([.fieldLink RX2 30 "SumRewriter$Rows" "used" "I", .methodLink RX2 15 Lib.Math.max.name, .static Lib.Math.max.name, .initialized "java/lang/Math", .code Lib.Math.max.name Lib.Math.max.code 2 (some .int)] : List Cond) ++ ((wsX20)))
abbrev ww_X2_dropLast (dC : Nat → ClassId) (dI : Nat → Nat → Nat) (cI cJ cB : ClassId) (ra ra1 ra2 ra3 : Nat) (sz : Nat) (ra_n : Nat) (ra_u0 : Int32) (ra_c : Nat → Int32) (ra_l : Nat → Int32) (ra_o : Nat → Int32) : va_W := [(ra, .inr (2, [.ref ra1, .ref ra2, .ref ra3, .int ra_u0])), (ra1, .inl (cI, ra_n * 20, .inl ra_c)), (ra2, .inl (cI, ra_n, .inl ra_l)), (ra3, .inl (cI, 21, .inl ra_o))]
abbrev at_X2_dropLast (dC : Nat → ClassId) (dI : Nat → Nat → Nat) (cI cJ cB : ClassId) (ra ra1 ra2 ra3 : Nat) (sz : Nat) (ra_n : Nat) (ra_u0 : Int32) (ra_c : Nat → Int32) (ra_l : Nat → Int32) (ra_o : Nat → Int32) (u : Int32) (t : State) : Prop := match u with
  | ra_u => va_P (dC, dI) vwCl [(ra, .inr (2, [.ref ra1, .ref ra2, .ref ra3, .int ra_u])), (ra1, .inl (cI, ra_n * 20, .inl ra_c)), (ra2, .inl (cI, ra_n, .inl ra_l)), (ra3, .inl (cI, 21, .inl ra_o))] t.heap ∧ va_K (dC, dI) vwCl (tyL cI cJ cB) t ∧ va_D (va_A (ww_X2_dropLast dC dI cI cJ cB ra ra1 ra2 ra3 sz ra_n ra_u0 ra_c ra_l ra_o) sz) [(ra, .inr (2, [.ref ra1, .ref ra2, .ref ra3, .int ra_u])), (ra1, .inl (cI, ra_n * 20, .inl ra_c)), (ra2, .inl (cI, ra_n, .inl ra_l)), (ra3, .inl (cI, 21, .inl ra_o))]
abbrev qc_X2_dropLast (dC : Nat → ClassId) (dI : Nat → Nat → Nat) (cI cJ cB : ClassId) (ra ra1 ra2 ra3 : Nat) (sz : Nat) (ra_n : Nat) (ra_u0 : Int32) (ra_c : Nat → Int32) (ra_l : Nat → Int32) (ra_o : Nat → Int32) : Array Value → State → Outcome → State → Prop := va_Qv (fun (u : Int32) => match u with | ra_u => True) (at_X2_dropLast dC dI cI cJ cB ra ra1 ra2 ra3 sz ra_n ra_u0 ra_c ra_l ra_o) (va_A (ww_X2_dropLast dC dI cI cJ cB ra ra1 ra2 ra3 sz ra_n ra_u0 ra_c ra_l ra_o) sz)
abbrev pc_X2_dropLast (dC : Nat → ClassId) (dI : Nat → Nat → Nat) (cI cJ cB : ClassId) (ra ra1 ra2 ra3 : Nat) (sz : Nat) (ra_n : Nat) (ra_u0 : Int32) (ra_c : Nat → Int32) (ra_l : Nat → Int32) (ra_o : Nat → Int32) : Array Value → State → Prop := va_Pc [.ref ra] (fun U => U.heap.size = sz ∧ NW U ∧ va_P (dC, dI) vwCl (ww_X2_dropLast dC dI cI cJ cB ra ra1 ra2 ra3 sz ra_n ra_u0 ra_c ra_l ra_o) U.heap ∧ va_K (dC, dI) vwCl (tyL cI cJ cB) U ∧ va_D (fun _ => True) (ww_X2_dropLast dC dI cI cJ cB ra ra1 ra2 ra3 sz ra_n ra_u0 ra_c ra_l ra_o))
abbrev rm_X2_dropLast : Room := { frames := 2, cells := 0, slots := 0, locals := 60 }
abbrev WW_X2_dropLast (p : Program) (l : Launch) (e : Env) (s : State) (m : MethodId) (below : List Frame) (meth : Method) (c : Code) (dC : Nat → ClassId) (dI : Nat → Nat → Nat) (cI cJ cB : ClassId) (ra ra1 ra2 ra3 : Nat) (sz : Nat) (ra_n : Nat) (ra_u0 : Int32) (ra_c : Nat → Int32) (ra_l : Nat → Int32) (ra_o : Nat → Int32) (H : Heap) (locs : List Loc) (g : JFrame) : Prop := W p l e rm_X2_dropLast s m ([.ref ra] : List Value).toArray below meth c H locs 0 0 (MQ below (qc_X2_dropLast dC dI cI cJ cB ra ra1 ra2 ra3 sz ra_n ra_u0 ra_c ra_l ra_o) ([.ref ra] : List Value).toArray s 0 0 (va_A (ww_X2_dropLast dC dI cI cJ cB ra ra1 ra2 ra3 sz ra_n ra_u0 ra_c ra_l ra_o) sz)) g
set_option maxHeartbeats 4000000 in
set_option maxRecDepth 100000 in
theorem c_X2_dropLast (l : Launch) (dC : Nat → ClassId) (dI : Nat → Nat → Nat) (cI cJ cB : ClassId) (ra ra1 ra2 ra3 : Nat) (sz : Nat) (ra_n : Nat) (ra_u0 : Int32) (ra_c : Nat → Int32) (ra_l : Nat → Int32) (ra_o : Nat → Int32) : Met l yX2_dropLast wo_X2_dropLast rm_X2_dropLast (pc_X2_dropLast dC dI cI cJ cB ra ra1 ra2 ra3 sz ra_n ra_u0 ra_c ra_l ra_o) (qc_X2_dropLast dC dI cI cJ cB ra ra1 ra2 ra3 sz ra_n ra_u0 ra_c ra_l ra_o) 0 0 (va_A (ww_X2_dropLast dC dI cI cJ cB ra ra1 ra2 ra3 sz ra_n ra_u0 ra_c ra_l ra_o) sz) := by
  refine Met.ofW (cc := cX2_dropLast) (maxL := 1) (ret := none) (by decide) rfl ?_
  intro p e s m args below meth c s₁ B hml hv
  obtain ⟨rfl, hsz, hnw, hP, hK, hD0⟩ := hv
  have hx := B.exec
  have hb := B.bytes
  have hr := B.returns
  have hts := atoms_spec (ws := wo_X2_dropLast) B.pre
  have hown : s.vm.findClass RX2 = some m.cls := findClass_of_methodNamed B.named
  have hlocks := B.notSynchronized
  clear B
  subst hsz
  have hD := hD0.self (sz := s.heap.size)
  clear hD0
  have kk0_ := hts (.fieldLink RX2 30 "SumRewriter$Rows" "used" "I") (by decide +kernel)
  have kk1_ : ∀ w ∈ wsX20, w ∈ wo_X2_dropLast := fun _ h => (List.mem_cons_of_mem _ (List.mem_append_right _ h))
  have kk2_ := hts (.methodLink RX2 15 Lib.Math.max.name) (by decide +kernel)
  have kk3_ := hts (.static Lib.Math.max.name) (by decide +kernel)
  have kk4_ := hts (.initialized "java/lang/Math") (by decide +kernel)
  have kk5_ := hts (.code Lib.Math.max.name Lib.Math.max.code 2 (some .int)) (by decide +kernel)
  have hA : ∀ q : Nat, s.heap.size ≤ q → (va_A (ww_X2_dropLast dC dI cI cJ cB ra ra1 ra2 ra3 s.heap.size ra_n ra_u0 ra_c ra_l ra_o) s.heap.size) q := fun q h => Or.inr h
  have hS : va_S (va_A (ww_X2_dropLast dC dI cI cJ cB ra ra1 ra2 ra3 s.heap.size ra_n ra_u0 ra_c ra_l ra_o) s.heap.size) s.heap s.heap [] := va_S.rf
  have hl := lv_entry ([.ref ra]) (n := 1) (Nat.le_of_ble_eq_true rfl)
  rw [lg_entry_eq]
  generalize (lg_sl ([.ref ra]) ++ List.replicate (1 - (lg_sl ([.ref ra])).length) Slot.unset).toArray = ls at hl ⊢
  have hl : lv_has ls 1 [(0, .ref ra)] := hl
  have hP : va_P (dC, dI) vwCl [(ra, .inr (2, [.ref ra1, .ref ra2, .ref ra3, .int ra_u0])), (ra1, .inl (cI, ra_n * 20, .inl ra_c)), (ra2, .inl (cI, ra_n, .inl ra_l)), (ra3, .inl (cI, 21, .inl ra_o))] s.heap := hP
  have hD : va_D (va_A (ww_X2_dropLast dC dI cI cJ cB ra ra1 ra2 ra3 s.heap.size ra_n ra_u0 ra_c ra_l ra_o) s.heap.size) [(ra, .inr (2, [.ref ra1, .ref ra2, .ref ra3, .int ra_u0])), (ra1, .inl (cI, ra_n * 20, .inl ra_c)), (ra2, .inl (cI, ra_n, .inl ra_l)), (ra3, .inl (cI, 21, .inl ra_o))] := hD
  obtain ⟨H, hH⟩ : ∃ H, H = s.heap := ⟨_, rfl⟩
  obtain ⟨locs, hlc⟩ : ∃ L : List Loc, L = [] := ⟨_, rfl⟩
  have hS : va_S (va_A (ww_X2_dropLast dC dI cI cJ cB ra ra1 ra2 ra3 s.heap.size ra_n ra_u0 ra_c ra_l ra_o) s.heap.size) s.heap H locs := by rw [hH, hlc]; exact hS
  have hP : va_P (dC, dI) vwCl [(ra, .inr (2, [.ref ra1, .ref ra2, .ref ra3, .int ra_u0])), (ra1, .inl (cI, ra_n * 20, .inl ra_c)), (ra2, .inl (cI, ra_n, .inl ra_l)), (ra3, .inl (cI, 21, .inl ra_o))] H := by rw [hH]; exact hP
  suffices hgo : WW_X2_dropLast p l e s m below meth c dC dI cI cJ cB ra ra1 ra2 ra3 s.heap.size ra_n ra_u0 ra_c ra_l ra_o H locs (F0 m 0 ls []) by rw [hH, hlc] at hgo; exact hgo
  clear hH hlc
  refine lv_aload_n hx hb dX2_dropLast_0 rfl (lv_at hl 0 rfl) ?_
  refine lv_iconst (v := 0) hx hb dX2_dropLast_1 (by decide) ?_
  refine lv_aload_n hx hb dX2_dropLast_2 rfl (lv_at hl 0 rfl) ?_
  refine va_get (D := (dC, dI)) (ci := 2) (v := .int ra_u0) (C := RX2) (T := TX2) (N := 4) hx hb hts kk1_ hown hK hP 0 rfl rfl 3 (by decide) kk0_ (fun _ h9 => h9) rfl dX2_dropLast_3 ?_
  refine lv_iconst (v := 1) hx hb dX2_dropLast_6 (by decide) ?_
  refine lv_isub hx hb dX2_dropLast_7 ?_
  refine lv_topi (fun y_1 ey_1 => ?_)
  refine va_mmax hx hb (by rw [hml]; exact hl.1.symm) hown kk2_ kk3_ kk4_ kk5_ (Nat.le_of_ble_eq_true rfl) (Nat.le_of_ble_eq_true rfl) (Nat.zero_le _) (Nat.zero_le _) dX2_dropLast_8 ?_
  refine lv_topi (fun y_2 ey_2 => ?_)
  have tey_2 := ti_mmax ey_2 (show ((0 : Int32)).toInt = 0 from rfl) (show y_1.toInt = y_1.toInt from rfl)
  refine va_put (D := (dC, dI)) (ci := 2) (v := .int y_2) (ty := .int) (C := RX2) (T := TX2) (N := 4) hx hb hts kk1_ tyX2 tyX2_ok nmX2 hown hK hP hD hS 0 rfl rfl 3 (by decide) kk0_ (fun _ h9 => h9) rfl (by decide +kernel) rfl rfl (Nat.le_of_ble_eq_true rfl) dX2_dropLast_11 (fun H locs hP hD hS => ?_)
  have hP : va_P (dC, dI) vwCl [(ra, .inr (2, [.ref ra1, .ref ra2, .ref ra3, .int y_2])), (ra1, .inl (cI, ra_n * 20, .inl ra_c)), (ra2, .inl (cI, ra_n, .inl ra_l)), (ra3, .inl (cI, 21, .inl ra_o))] H := hP
  have hD : va_D (va_A (ww_X2_dropLast dC dI cI cJ cB ra ra1 ra2 ra3 s.heap.size ra_n ra_u0 ra_c ra_l ra_o) s.heap.size) [(ra, .inr (2, [.ref ra1, .ref ra2, .ref ra3, .int y_2])), (ra1, .inl (cI, ra_n * 20, .inl ra_c)), (ra2, .inl (cI, ra_n, .inl ra_l)), (ra3, .inl (cI, 21, .inl ra_o))] := hD
  have hP9 := hP.sub (ws' := [(ra, .inr (2, [.ref ra1, .ref ra2, .ref ra3, .int y_2])), (ra1, .inl (cI, ra_n * 20, .inl ra_c)), (ra2, .inl (cI, ra_n, .inl ra_l)), (ra3, .inl (cI, 21, .inl ra_o))]) [0, 1, 2, 3] rfl
  have hD9 := hD.sub (ws' := [(ra, .inr (2, [.ref ra1, .ref ra2, .ref ra3, .int y_2])), (ra1, .inl (cI, ra_n * 20, .inl ra_c)), (ra2, .inl (cI, ra_n, .inl ra_l)), (ra3, .inl (cI, 21, .inl ra_o))]) [0, 1, 2, 3] (by decide) rfl
  exact W.vret hx hb hr (fun t ht hW => ⟨⟨y_2, rfl, trivial, by rw [ht]; exact hP9, va_K.moved hW.alike hK, hD9⟩, hS.F ht⟩) hS.2.2 dX2_dropLast_14
def wo_X2_start : List Cond := .code yX2_start cX2_start 1 (some .boolean) :: (([.fieldLink RX2 30 "SumRewriter$Rows" "used" "I", .fieldLink RX2 24 "SumRewriter$Rows" "lengths" "[I"] : List Cond) ++ ((wsX20)))
abbrev ww_X2_start (dC : Nat → ClassId) (dI : Nat → Nat → Nat) (cI cJ cB : ClassId) (ra ra1 ra2 ra3 : Nat) (sz : Nat) (ra_n : Nat) (ra_u0 : Int32) (ra_c : Nat → Int32) (ra_l0 : Nat → Int32) (ra_o : Nat → Int32) : va_W := [(ra, .inr (2, [.ref ra1, .ref ra2, .ref ra3, .int ra_u0])), (ra1, .inl (cI, ra_n * 20, .inl ra_c)), (ra2, .inl (cI, ra_n, .inl ra_l0)), (ra3, .inl (cI, 21, .inl ra_o))]
abbrev at_X2_start (dC : Nat → ClassId) (dI : Nat → Nat → Nat) (cI cJ cB : ClassId) (ra ra1 ra2 ra3 : Nat) (sz : Nat) (ra_n : Nat) (ra_u0 : Int32) (ra_c : Nat → Int32) (ra_l0 : Nat → Int32) (ra_o : Nat → Int32) (u : Int32 × (Nat → Int32)) (t : State) : Prop := match u with
  | (ra_u, ra_l) => va_P (dC, dI) vwCl [(ra, .inr (2, [.ref ra1, .ref ra2, .ref ra3, .int ra_u])), (ra1, .inl (cI, ra_n * 20, .inl ra_c)), (ra2, .inl (cI, ra_n, .inl ra_l)), (ra3, .inl (cI, 21, .inl ra_o))] t.heap ∧ va_K (dC, dI) vwCl (tyL cI cJ cB) t ∧ va_D (va_A (ww_X2_start dC dI cI cJ cB ra ra1 ra2 ra3 sz ra_n ra_u0 ra_c ra_l0 ra_o) sz) [(ra, .inr (2, [.ref ra1, .ref ra2, .ref ra3, .int ra_u])), (ra1, .inl (cI, ra_n * 20, .inl ra_c)), (ra2, .inl (cI, ra_n, .inl ra_l)), (ra3, .inl (cI, 21, .inl ra_o))]
abbrev qc_X2_start (dC : Nat → ClassId) (dI : Nat → Nat → Nat) (cI cJ cB : ClassId) (ra ra1 ra2 ra3 : Nat) (sz : Nat) (ra_n : Nat) (ra_u0 : Int32) (ra_c : Nat → Int32) (ra_l0 : Nat → Int32) (ra_o : Nat → Int32) : Array Value → State → Outcome → State → Prop := va_Qi (fun (r : Int32) (u : Int32 × (Nat → Int32)) => match u with | (ra_u, ra_l) => (r = 0 ∨ r = 1)) (at_X2_start dC dI cI cJ cB ra ra1 ra2 ra3 sz ra_n ra_u0 ra_c ra_l0 ra_o) (va_A (ww_X2_start dC dI cI cJ cB ra ra1 ra2 ra3 sz ra_n ra_u0 ra_c ra_l0 ra_o) sz)
abbrev pc_X2_start (dC : Nat → ClassId) (dI : Nat → Nat → Nat) (cI cJ cB : ClassId) (ra ra1 ra2 ra3 : Nat) (sz : Nat) (ra_n : Nat) (ra_u0 : Int32) (ra_c : Nat → Int32) (ra_l0 : Nat → Int32) (ra_o : Nat → Int32) : Array Value → State → Prop := va_Pc [.ref ra] (fun U => U.heap.size = sz ∧ NW U ∧ va_P (dC, dI) vwCl (ww_X2_start dC dI cI cJ cB ra ra1 ra2 ra3 sz ra_n ra_u0 ra_c ra_l0 ra_o) U.heap ∧ va_K (dC, dI) vwCl (tyL cI cJ cB) U ∧ va_D (fun _ => True) (ww_X2_start dC dI cI cJ cB ra ra1 ra2 ra3 sz ra_n ra_u0 ra_c ra_l0 ra_o))
abbrev rm_X2_start : Room := { frames := 0, cells := 0, slots := 0, locals := 0 }
abbrev WW_X2_start (p : Program) (l : Launch) (e : Env) (s : State) (m : MethodId) (below : List Frame) (meth : Method) (c : Code) (dC : Nat → ClassId) (dI : Nat → Nat → Nat) (cI cJ cB : ClassId) (ra ra1 ra2 ra3 : Nat) (sz : Nat) (ra_n : Nat) (ra_u0 : Int32) (ra_c : Nat → Int32) (ra_l0 : Nat → Int32) (ra_o : Nat → Int32) (H : Heap) (locs : List Loc) (g : JFrame) : Prop := W p l e rm_X2_start s m ([.ref ra] : List Value).toArray below meth c H locs 0 0 (MQ below (qc_X2_start dC dI cI cJ cB ra ra1 ra2 ra3 sz ra_n ra_u0 ra_c ra_l0 ra_o) ([.ref ra] : List Value).toArray s 0 0 (va_A (ww_X2_start dC dI cI cJ cB ra ra1 ra2 ra3 sz ra_n ra_u0 ra_c ra_l0 ra_o) sz)) g
set_option maxHeartbeats 4000000 in
set_option maxRecDepth 100000 in
theorem c_X2_start (l : Launch) (dC : Nat → ClassId) (dI : Nat → Nat → Nat) (cI cJ cB : ClassId) (ra ra1 ra2 ra3 : Nat) (sz : Nat) (ra_n : Nat) (ra_u0 : Int32) (ra_c : Nat → Int32) (ra_l0 : Nat → Int32) (ra_o : Nat → Int32) (hn_ra : 1 ≤ ra_n ∧ ra_n ≤ 201) : Met l yX2_start wo_X2_start rm_X2_start (pc_X2_start dC dI cI cJ cB ra ra1 ra2 ra3 sz ra_n ra_u0 ra_c ra_l0 ra_o) (qc_X2_start dC dI cI cJ cB ra ra1 ra2 ra3 sz ra_n ra_u0 ra_c ra_l0 ra_o) 0 0 (va_A (ww_X2_start dC dI cI cJ cB ra ra1 ra2 ra3 sz ra_n ra_u0 ra_c ra_l0 ra_o) sz) := by
  refine Met.ofW (cc := cX2_start) (maxL := 1) (ret := (some .boolean)) (by decide) rfl ?_
  intro p e s m args below meth c s₁ B hml hv
  obtain ⟨rfl, hsz, hnw, hP, hK, hD0⟩ := hv
  have hx := B.exec
  have hb := B.bytes
  have hr := B.returns
  have hts := atoms_spec (ws := wo_X2_start) B.pre
  have hown : s.vm.findClass RX2 = some m.cls := findClass_of_methodNamed B.named
  have hlocks := B.notSynchronized
  clear B
  subst hsz
  have hD := hD0.self (sz := s.heap.size)
  clear hD0
  have kk0_ := hts (.fieldLink RX2 30 "SumRewriter$Rows" "used" "I") (by decide +kernel)
  have kk1_ : ∀ w ∈ wsX20, w ∈ wo_X2_start := fun _ h => (List.mem_cons_of_mem _ (List.mem_append_right _ h))
  have kk2_ := hts (.fieldLink RX2 24 "SumRewriter$Rows" "lengths" "[I") (by decide +kernel)
  have hA : ∀ q : Nat, s.heap.size ≤ q → (va_A (ww_X2_start dC dI cI cJ cB ra ra1 ra2 ra3 s.heap.size ra_n ra_u0 ra_c ra_l0 ra_o) s.heap.size) q := fun q h => Or.inr h
  have hS : va_S (va_A (ww_X2_start dC dI cI cJ cB ra ra1 ra2 ra3 s.heap.size ra_n ra_u0 ra_c ra_l0 ra_o) s.heap.size) s.heap s.heap [] := va_S.rf
  have hl := lv_entry ([.ref ra]) (n := 1) (Nat.le_of_ble_eq_true rfl)
  rw [lg_entry_eq]
  generalize (lg_sl ([.ref ra]) ++ List.replicate (1 - (lg_sl ([.ref ra])).length) Slot.unset).toArray = ls at hl ⊢
  have hl : lv_has ls 1 [(0, .ref ra)] := hl
  have hP : va_P (dC, dI) vwCl [(ra, .inr (2, [.ref ra1, .ref ra2, .ref ra3, .int ra_u0])), (ra1, .inl (cI, ra_n * 20, .inl ra_c)), (ra2, .inl (cI, ra_n, .inl ra_l0)), (ra3, .inl (cI, 21, .inl ra_o))] s.heap := hP
  have hD : va_D (va_A (ww_X2_start dC dI cI cJ cB ra ra1 ra2 ra3 s.heap.size ra_n ra_u0 ra_c ra_l0 ra_o) s.heap.size) [(ra, .inr (2, [.ref ra1, .ref ra2, .ref ra3, .int ra_u0])), (ra1, .inl (cI, ra_n * 20, .inl ra_c)), (ra2, .inl (cI, ra_n, .inl ra_l0)), (ra3, .inl (cI, 21, .inl ra_o))] := hD
  obtain ⟨H, hH⟩ : ∃ H, H = s.heap := ⟨_, rfl⟩
  obtain ⟨locs, hlc⟩ : ∃ L : List Loc, L = [] := ⟨_, rfl⟩
  have hS : va_S (va_A (ww_X2_start dC dI cI cJ cB ra ra1 ra2 ra3 s.heap.size ra_n ra_u0 ra_c ra_l0 ra_o) s.heap.size) s.heap H locs := by rw [hH, hlc]; exact hS
  have hP : va_P (dC, dI) vwCl [(ra, .inr (2, [.ref ra1, .ref ra2, .ref ra3, .int ra_u0])), (ra1, .inl (cI, ra_n * 20, .inl ra_c)), (ra2, .inl (cI, ra_n, .inl ra_l0)), (ra3, .inl (cI, 21, .inl ra_o))] H := by rw [hH]; exact hP
  suffices hgo : WW_X2_start p l e s m below meth c dC dI cI cJ cB ra ra1 ra2 ra3 s.heap.size ra_n ra_u0 ra_c ra_l0 ra_o H locs (F0 m 0 ls []) by rw [hH, hlc] at hgo; exact hgo
  clear hH hlc
  refine lv_aload_n hx hb dX2_start_0 rfl (lv_at hl 0 rfl) ?_
  refine va_get (D := (dC, dI)) (ci := 2) (v := .int ra_u0) (C := RX2) (T := TX2) (N := 4) hx hb hts kk1_ hown hK hP 0 rfl rfl 3 (by decide) kk0_ (fun _ h9 => h9) rfl dX2_start_1 ?_
  refine lv_if_lt (tgt := 19) hx hb dX2_start_4 (by decide) (fun c_1 => ?_) (fun c_1 => ?_)
  · have tc_1 : ra_u0.toInt < 0 := tb_lt_t c_1
    refine lv_iconst (v := 0) hx hb dX2_start_19 (by decide) ?_
    have hP9 := hP.sub (ws' := [(ra, .inr (2, [.ref ra1, .ref ra2, .ref ra3, .int ra_u0])), (ra1, .inl (cI, ra_n * 20, .inl ra_c)), (ra2, .inl (cI, ra_n, .inl ra_l0)), (ra3, .inl (cI, 21, .inl ra_o))]) [0, 1, 2, 3] rfl
    have hD9 := hD.sub (ws' := [(ra, .inr (2, [.ref ra1, .ref ra2, .ref ra3, .int ra_u0])), (ra1, .inl (cI, ra_n * 20, .inl ra_c)), (ra2, .inl (cI, ra_n, .inl ra_l0)), (ra3, .inl (cI, 21, .inl ra_o))]) [0, 1, 2, 3] (by decide) rfl
    have r9_0 : (0 : Int32) = 0 ∨ (0 : Int32) = 1 := Or.inl rfl
    exact W.zret (v := (0 : Int32)) hx hb hr rfl (fun t ht hW => ⟨⟨(0 : Int32), (ra_u0, ra_l0), rfl, r9_0, by rw [ht]; exact hP9, va_K.moved hW.alike hK, hD9⟩, hS.F ht⟩) hS.2.2 dX2_start_20
  · have tc_1 : 0 ≤ ra_u0.toInt := tb_lt_f c_1
    refine lv_aload_n hx hb dX2_start_7 rfl (lv_at hl 0 rfl) ?_
    refine va_get (D := (dC, dI)) (ci := 2) (v := .int ra_u0) (C := RX2) (T := TX2) (N := 4) hx hb hts kk1_ hown hK hP 0 rfl rfl 3 (by decide) kk0_ (fun _ h9 => h9) rfl dX2_start_8 ?_
    refine lv_aload_n hx hb dX2_start_11 rfl (lv_at hl 0 rfl) ?_
    refine va_get (D := (dC, dI)) (ci := 2) (v := .ref ra2) (C := RX2) (T := TX2) (N := 4) hx hb hts kk1_ hown hK hP 0 rfl rfl 1 (by decide) kk2_ (fun _ h9 => h9) rfl dX2_start_12 ?_
    refine va_alen (v := nI ra_n) hx hb hK hP 2 0 rfl rfl rfl dX2_start_15 ?_
    refine lv_topi (fun y_2 ey_2 => ?_)
    have tey_2 : y_2.toInt = ((ra_n : Nat) : Int) := by rw [ey_2]; exact nI_toInt (by omega)
    refine lv_icmp_lt (tgt := 21) hx hb dX2_start_16 (by decide) (fun c_3 => ?_) (fun c_3 => ?_)
    · have tc_3 : ra_u0.toInt < y_2.toInt := tb_lt_t c_3
      refine lv_aload_n hx hb dX2_start_21 rfl (lv_at hl 0 rfl) ?_
      refine va_get (D := (dC, dI)) (ci := 2) (v := .ref ra2) (C := RX2) (T := TX2) (N := 4) hx hb hts kk1_ hown hK hP 0 rfl rfl 1 (by decide) kk2_ (fun _ h9 => h9) rfl dX2_start_22 ?_
      refine lv_aload_n hx hb dX2_start_25 rfl (lv_at hl 0 rfl) ?_
      refine va_get (D := (dC, dI)) (ci := 2) (v := .int ra_u0) (C := RX2) (T := TX2) (N := 4) hx hb hts kk1_ hown hK hP 0 rfl rfl 3 (by decide) kk0_ (fun _ h9 => h9) rfl dX2_start_26 ?_
      refine lv_iconst (v := 0) hx hb dX2_start_29 (by decide) ?_
      refine va_iast hx hb hK hP hD hS 2 0 rfl rfl (vp_in_iff.mpr ⟨by omega, by omega⟩) dX2_start_30 (fun H locs hP hD hS => ?_)
      have hP : va_P (dC, dI) vwCl [(ra, .inr (2, [.ref ra1, .ref ra2, .ref ra3, .int ra_u0])), (ra1, .inl (cI, ra_n * 20, .inl ra_c)), (ra2, .inl (cI, ra_n, .inl (upd ra_l0 (ra_u0).toNatClampNeg ((0 : Int32))))), (ra3, .inl (cI, 21, .inl ra_o))] H := hP
      have hD : va_D (va_A (ww_X2_start dC dI cI cJ cB ra ra1 ra2 ra3 s.heap.size ra_n ra_u0 ra_c ra_l0 ra_o) s.heap.size) [(ra, .inr (2, [.ref ra1, .ref ra2, .ref ra3, .int ra_u0])), (ra1, .inl (cI, ra_n * 20, .inl ra_c)), (ra2, .inl (cI, ra_n, .inl (upd ra_l0 (ra_u0).toNatClampNeg ((0 : Int32))))), (ra3, .inl (cI, 21, .inl ra_o))] := hD
      obtain ⟨f_4, ef_4⟩ : ∃ z, z = upd ra_l0 (ra_u0).toNatClampNeg ((0 : Int32)) := ⟨_, rfl⟩
      rw [← ef_4] at hP hD
      refine lv_aload_n hx hb dX2_start_31 rfl (lv_at hl 0 rfl) ?_
      refine lv_dup hx hb dX2_start_32 rfl ?_
      refine va_get (D := (dC, dI)) (ci := 2) (v := .int ra_u0) (C := RX2) (T := TX2) (N := 4) hx hb hts kk1_ hown hK hP 0 rfl rfl 3 (by decide) kk0_ (fun _ h9 => h9) rfl dX2_start_33 ?_
      refine lv_iconst (v := 1) hx hb dX2_start_36 (by decide) ?_
      refine lv_iadd hx hb dX2_start_37 ?_
      refine lv_topi (fun y_5 ey_5 => ?_)
      have tey_5 : y_5.toInt = ra_u0.toInt + 1 := ti_add2 ey_5 rfl (by decide) (by omega) (by omega)
      refine va_put (D := (dC, dI)) (ci := 2) (v := .int y_5) (ty := .int) (C := RX2) (T := TX2) (N := 4) hx hb hts kk1_ tyX2 tyX2_ok nmX2 hown hK hP hD hS 0 rfl rfl 3 (by decide) kk0_ (fun _ h9 => h9) rfl (by decide +kernel) rfl rfl (Nat.le_of_ble_eq_true rfl) dX2_start_38 (fun H locs hP hD hS => ?_)
      have hP : va_P (dC, dI) vwCl [(ra, .inr (2, [.ref ra1, .ref ra2, .ref ra3, .int y_5])), (ra1, .inl (cI, ra_n * 20, .inl ra_c)), (ra2, .inl (cI, ra_n, .inl f_4)), (ra3, .inl (cI, 21, .inl ra_o))] H := hP
      have hD : va_D (va_A (ww_X2_start dC dI cI cJ cB ra ra1 ra2 ra3 s.heap.size ra_n ra_u0 ra_c ra_l0 ra_o) s.heap.size) [(ra, .inr (2, [.ref ra1, .ref ra2, .ref ra3, .int y_5])), (ra1, .inl (cI, ra_n * 20, .inl ra_c)), (ra2, .inl (cI, ra_n, .inl f_4)), (ra3, .inl (cI, 21, .inl ra_o))] := hD
      refine lv_iconst (v := 1) hx hb dX2_start_41 (by decide) ?_
      have hP9 := hP.sub (ws' := [(ra, .inr (2, [.ref ra1, .ref ra2, .ref ra3, .int y_5])), (ra1, .inl (cI, ra_n * 20, .inl ra_c)), (ra2, .inl (cI, ra_n, .inl f_4)), (ra3, .inl (cI, 21, .inl ra_o))]) [0, 1, 2, 3] rfl
      have hD9 := hD.sub (ws' := [(ra, .inr (2, [.ref ra1, .ref ra2, .ref ra3, .int y_5])), (ra1, .inl (cI, ra_n * 20, .inl ra_c)), (ra2, .inl (cI, ra_n, .inl f_4)), (ra3, .inl (cI, 21, .inl ra_o))]) [0, 1, 2, 3] (by decide) rfl
      have r9_0 : (1 : Int32) = 0 ∨ (1 : Int32) = 1 := Or.inr rfl
      exact W.zret (v := (1 : Int32)) hx hb hr rfl (fun t ht hW => ⟨⟨(1 : Int32), (y_5, f_4), rfl, r9_0, by rw [ht]; exact hP9, va_K.moved hW.alike hK, hD9⟩, hS.F ht⟩) hS.2.2 dX2_start_42
    · have tc_3 : y_2.toInt ≤ ra_u0.toInt := tb_lt_f c_3
      refine lv_iconst (v := 0) hx hb dX2_start_19 (by decide) ?_
      have hP9 := hP.sub (ws' := [(ra, .inr (2, [.ref ra1, .ref ra2, .ref ra3, .int ra_u0])), (ra1, .inl (cI, ra_n * 20, .inl ra_c)), (ra2, .inl (cI, ra_n, .inl ra_l0)), (ra3, .inl (cI, 21, .inl ra_o))]) [0, 1, 2, 3] rfl
      have hD9 := hD.sub (ws' := [(ra, .inr (2, [.ref ra1, .ref ra2, .ref ra3, .int ra_u0])), (ra1, .inl (cI, ra_n * 20, .inl ra_c)), (ra2, .inl (cI, ra_n, .inl ra_l0)), (ra3, .inl (cI, 21, .inl ra_o))]) [0, 1, 2, 3] (by decide) rfl
      have r9_0 : (0 : Int32) = 0 ∨ (0 : Int32) = 1 := Or.inl rfl
      exact W.zret (v := (0 : Int32)) hx hb hr rfl (fun t ht hW => ⟨⟨(0 : Int32), (ra_u0, ra_l0), rfl, r9_0, by rw [ht]; exact hP9, va_K.moved hW.alike hK, hD9⟩, hS.F ht⟩) hS.2.2 dX2_start_20
def wo_X2_put : List Cond := .code yX2_put cX2_put 4 none :: (([.fieldLink RX2 30 "SumRewriter$Rows" "used" "I", .fieldLink RX2 24 "SumRewriter$Rows" "lengths" "[I", .fieldLink RX2 18 "SumRewriter$Rows" "cells" "[I"] : List Cond) ++ ((wsX20)))
abbrev ww_X2_put (dC : Nat → ClassId) (dI : Nat → Nat → Nat) (cI cJ cB : ClassId) (ra ra1 ra2 ra3 : Nat) (sz : Nat) (ra_n : Nat) (ra_u : Int32) (ra_c0 : Nat → Int32) (ra_l0 : Nat → Int32) (ra_o : Nat → Int32) (p0 : Int32) : va_W := [(ra, .inr (2, [.ref ra1, .ref ra2, .ref ra3, .int ra_u])), (ra1, .inl (cI, ra_n * 20, .inl ra_c0)), (ra2, .inl (cI, ra_n, .inl ra_l0)), (ra3, .inl (cI, 21, .inl ra_o))]
abbrev at_X2_put (dC : Nat → ClassId) (dI : Nat → Nat → Nat) (cI cJ cB : ClassId) (ra ra1 ra2 ra3 : Nat) (sz : Nat) (ra_n : Nat) (ra_u : Int32) (ra_c0 : Nat → Int32) (ra_l0 : Nat → Int32) (ra_o : Nat → Int32) (p0 : Int32) (u : (Nat → Int32) × (Nat → Int32)) (t : State) : Prop := match u with
  | (ra_c, ra_l) => va_P (dC, dI) vwCl [(ra, .inr (2, [.ref ra1, .ref ra2, .ref ra3, .int ra_u])), (ra1, .inl (cI, ra_n * 20, .inl ra_c)), (ra2, .inl (cI, ra_n, .inl ra_l)), (ra3, .inl (cI, 21, .inl ra_o))] t.heap ∧ va_K (dC, dI) vwCl (tyL cI cJ cB) t ∧ va_D (va_A (ww_X2_put dC dI cI cJ cB ra ra1 ra2 ra3 sz ra_n ra_u ra_c0 ra_l0 ra_o p0) sz) [(ra, .inr (2, [.ref ra1, .ref ra2, .ref ra3, .int ra_u])), (ra1, .inl (cI, ra_n * 20, .inl ra_c)), (ra2, .inl (cI, ra_n, .inl ra_l)), (ra3, .inl (cI, 21, .inl ra_o))]
abbrev qc_X2_put (dC : Nat → ClassId) (dI : Nat → Nat → Nat) (cI cJ cB : ClassId) (ra ra1 ra2 ra3 : Nat) (sz : Nat) (ra_n : Nat) (ra_u : Int32) (ra_c0 : Nat → Int32) (ra_l0 : Nat → Int32) (ra_o : Nat → Int32) (p0 : Int32) : Array Value → State → Outcome → State → Prop := va_Qv (fun (u : (Nat → Int32) × (Nat → Int32)) => match u with | (ra_c, ra_l) => True) (at_X2_put dC dI cI cJ cB ra ra1 ra2 ra3 sz ra_n ra_u ra_c0 ra_l0 ra_o p0) (va_A (ww_X2_put dC dI cI cJ cB ra ra1 ra2 ra3 sz ra_n ra_u ra_c0 ra_l0 ra_o p0) sz)
abbrev pc_X2_put (dC : Nat → ClassId) (dI : Nat → Nat → Nat) (cI cJ cB : ClassId) (ra ra1 ra2 ra3 : Nat) (sz : Nat) (ra_n : Nat) (ra_u : Int32) (ra_c0 : Nat → Int32) (ra_l0 : Nat → Int32) (ra_o : Nat → Int32) (p0 : Int32) : Array Value → State → Prop := va_Pc [.ref ra, .int p0] (fun U => U.heap.size = sz ∧ NW U ∧ va_P (dC, dI) vwCl (ww_X2_put dC dI cI cJ cB ra ra1 ra2 ra3 sz ra_n ra_u ra_c0 ra_l0 ra_o p0) U.heap ∧ va_K (dC, dI) vwCl (tyL cI cJ cB) U ∧ va_D (fun _ => True) (ww_X2_put dC dI cI cJ cB ra ra1 ra2 ra3 sz ra_n ra_u ra_c0 ra_l0 ra_o p0))
abbrev rm_X2_put : Room := { frames := 0, cells := 0, slots := 0, locals := 0 }
abbrev WW_X2_put (p : Program) (l : Launch) (e : Env) (s : State) (m : MethodId) (below : List Frame) (meth : Method) (c : Code) (dC : Nat → ClassId) (dI : Nat → Nat → Nat) (cI cJ cB : ClassId) (ra ra1 ra2 ra3 : Nat) (sz : Nat) (ra_n : Nat) (ra_u : Int32) (ra_c0 : Nat → Int32) (ra_l0 : Nat → Int32) (ra_o : Nat → Int32) (p0 : Int32) (H : Heap) (locs : List Loc) (g : JFrame) : Prop := W p l e rm_X2_put s m ([.ref ra, .int p0] : List Value).toArray below meth c H locs 0 0 (MQ below (qc_X2_put dC dI cI cJ cB ra ra1 ra2 ra3 sz ra_n ra_u ra_c0 ra_l0 ra_o p0) ([.ref ra, .int p0] : List Value).toArray s 0 0 (va_A (ww_X2_put dC dI cI cJ cB ra ra1 ra2 ra3 sz ra_n ra_u ra_c0 ra_l0 ra_o p0) sz)) g
set_option maxHeartbeats 4000000 in
set_option maxRecDepth 100000 in
theorem c_X2_put (l : Launch) (dC : Nat → ClassId) (dI : Nat → Nat → Nat) (cI cJ cB : ClassId) (ra ra1 ra2 ra3 : Nat) (sz : Nat) (ra_n : Nat) (ra_u : Int32) (ra_c0 : Nat → Int32) (ra_l0 : Nat → Int32) (ra_o : Nat → Int32) (p0 : Int32) (hn_ra : 1 ≤ ra_n ∧ ra_n ≤ 201) : Met l yX2_put wo_X2_put rm_X2_put (pc_X2_put dC dI cI cJ cB ra ra1 ra2 ra3 sz ra_n ra_u ra_c0 ra_l0 ra_o p0) (qc_X2_put dC dI cI cJ cB ra ra1 ra2 ra3 sz ra_n ra_u ra_c0 ra_l0 ra_o p0) 0 0 (va_A (ww_X2_put dC dI cI cJ cB ra ra1 ra2 ra3 sz ra_n ra_u ra_c0 ra_l0 ra_o p0) sz) := by
  refine Met.ofW (cc := cX2_put) (maxL := 4) (ret := none) (by decide) rfl ?_
  intro p e s m args below meth c s₁ B hml hv
  obtain ⟨rfl, hsz, hnw, hP, hK, hD0⟩ := hv
  have hx := B.exec
  have hb := B.bytes
  have hr := B.returns
  have hts := atoms_spec (ws := wo_X2_put) B.pre
  have hown : s.vm.findClass RX2 = some m.cls := findClass_of_methodNamed B.named
  have hlocks := B.notSynchronized
  clear B
  subst hsz
  have hD := hD0.self (sz := s.heap.size)
  clear hD0
  have kk0_ := hts (.fieldLink RX2 30 "SumRewriter$Rows" "used" "I") (by decide +kernel)
  have kk1_ : ∀ w ∈ wsX20, w ∈ wo_X2_put := fun _ h => (List.mem_cons_of_mem _ (List.mem_append_right _ h))
  have kk2_ := hts (.fieldLink RX2 24 "SumRewriter$Rows" "lengths" "[I") (by decide +kernel)
  have kk3_ := hts (.fieldLink RX2 18 "SumRewriter$Rows" "cells" "[I") (by decide +kernel)
  have hA : ∀ q : Nat, s.heap.size ≤ q → (va_A (ww_X2_put dC dI cI cJ cB ra ra1 ra2 ra3 s.heap.size ra_n ra_u ra_c0 ra_l0 ra_o p0) s.heap.size) q := fun q h => Or.inr h
  have hS : va_S (va_A (ww_X2_put dC dI cI cJ cB ra ra1 ra2 ra3 s.heap.size ra_n ra_u ra_c0 ra_l0 ra_o p0) s.heap.size) s.heap s.heap [] := va_S.rf
  have hl := lv_entry ([.ref ra, .int p0]) (n := 4) (Nat.le_of_ble_eq_true rfl)
  rw [lg_entry_eq]
  generalize (lg_sl ([.ref ra, .int p0]) ++ List.replicate (4 - (lg_sl ([.ref ra, .int p0])).length) Slot.unset).toArray = ls at hl ⊢
  have hl : lv_has ls 4 [(0, .ref ra), (1, .int p0)] := hl
  have hP : va_P (dC, dI) vwCl [(ra, .inr (2, [.ref ra1, .ref ra2, .ref ra3, .int ra_u])), (ra1, .inl (cI, ra_n * 20, .inl ra_c0)), (ra2, .inl (cI, ra_n, .inl ra_l0)), (ra3, .inl (cI, 21, .inl ra_o))] s.heap := hP
  have hD : va_D (va_A (ww_X2_put dC dI cI cJ cB ra ra1 ra2 ra3 s.heap.size ra_n ra_u ra_c0 ra_l0 ra_o p0) s.heap.size) [(ra, .inr (2, [.ref ra1, .ref ra2, .ref ra3, .int ra_u])), (ra1, .inl (cI, ra_n * 20, .inl ra_c0)), (ra2, .inl (cI, ra_n, .inl ra_l0)), (ra3, .inl (cI, 21, .inl ra_o))] := hD
  obtain ⟨H, hH⟩ : ∃ H, H = s.heap := ⟨_, rfl⟩
  obtain ⟨locs, hlc⟩ : ∃ L : List Loc, L = [] := ⟨_, rfl⟩
  have hS : va_S (va_A (ww_X2_put dC dI cI cJ cB ra ra1 ra2 ra3 s.heap.size ra_n ra_u ra_c0 ra_l0 ra_o p0) s.heap.size) s.heap H locs := by rw [hH, hlc]; exact hS
  have hP : va_P (dC, dI) vwCl [(ra, .inr (2, [.ref ra1, .ref ra2, .ref ra3, .int ra_u])), (ra1, .inl (cI, ra_n * 20, .inl ra_c0)), (ra2, .inl (cI, ra_n, .inl ra_l0)), (ra3, .inl (cI, 21, .inl ra_o))] H := by rw [hH]; exact hP
  suffices hgo : WW_X2_put p l e s m below meth c dC dI cI cJ cB ra ra1 ra2 ra3 s.heap.size ra_n ra_u ra_c0 ra_l0 ra_o p0 H locs (F0 m 0 ls []) by rw [hH, hlc] at hgo; exact hgo
  clear hH hlc
  refine lv_aload_n hx hb dX2_put_0 rfl (lv_at hl 0 rfl) ?_
  refine va_get (D := (dC, dI)) (ci := 2) (v := .int ra_u) (C := RX2) (T := TX2) (N := 4) hx hb hts kk1_ hown hK hP 0 rfl rfl 3 (by decide) kk0_ (fun _ h9 => h9) rfl dX2_put_1 ?_
  refine lv_iconst (v := 1) hx hb dX2_put_4 (by decide) ?_
  refine lv_isub hx hb dX2_put_5 ?_
  refine lv_topi (fun y_1 ey_1 => ?_)
  refine lv_istore_n (lv' := [(2, .int y_1), (0, .ref ra), (1, .int p0)]) hx hb dX2_put_6 rfl hl (by decide) rfl (fun ls hl => ?_)
  refine lv_iload_n hx hb dX2_put_7 rfl (lv_at hl 0 rfl) ?_
  refine lv_if_lt (tgt := 78) hx hb dX2_put_8 (by decide) (fun c_2 => ?_) (fun c_2 => ?_)
  · have tc_2 : y_1.toInt < 0 := tb_lt_t c_2
    have hP9 := hP.sub (ws' := [(ra, .inr (2, [.ref ra1, .ref ra2, .ref ra3, .int ra_u])), (ra1, .inl (cI, ra_n * 20, .inl ra_c0)), (ra2, .inl (cI, ra_n, .inl ra_l0)), (ra3, .inl (cI, 21, .inl ra_o))]) [0, 1, 2, 3] rfl
    have hD9 := hD.sub (ws' := [(ra, .inr (2, [.ref ra1, .ref ra2, .ref ra3, .int ra_u])), (ra1, .inl (cI, ra_n * 20, .inl ra_c0)), (ra2, .inl (cI, ra_n, .inl ra_l0)), (ra3, .inl (cI, 21, .inl ra_o))]) [0, 1, 2, 3] (by decide) rfl
    exact W.vret hx hb hr (fun t ht hW => ⟨⟨(ra_c0, ra_l0), rfl, trivial, by rw [ht]; exact hP9, va_K.moved hW.alike hK, hD9⟩, hS.F ht⟩) hS.2.2 dX2_put_78
  · have tc_2 : 0 ≤ y_1.toInt := tb_lt_f c_2
    refine lv_iload_n hx hb dX2_put_11 rfl (lv_at hl 0 rfl) ?_
    refine lv_aload_n hx hb dX2_put_12 rfl (lv_at hl 1 rfl) ?_
    refine va_get (D := (dC, dI)) (ci := 2) (v := .ref ra2) (C := RX2) (T := TX2) (N := 4) hx hb hts kk1_ hown hK hP 0 rfl rfl 1 (by decide) kk2_ (fun _ h9 => h9) rfl dX2_put_13 ?_
    refine va_alen (v := nI ra_n) hx hb hK hP 2 0 rfl rfl rfl dX2_put_16 ?_
    refine lv_topi (fun y_3 ey_3 => ?_)
    have tey_3 : y_3.toInt = ((ra_n : Nat) : Int) := by rw [ey_3]; exact nI_toInt (by omega)
    refine lv_icmp_ge (tgt := 78) hx hb dX2_put_17 (by decide) (fun c_4 => ?_) (fun c_4 => ?_)
    · have tc_4 : y_3.toInt ≤ y_1.toInt := tb_ge_t c_4
      have hP9 := hP.sub (ws' := [(ra, .inr (2, [.ref ra1, .ref ra2, .ref ra3, .int ra_u])), (ra1, .inl (cI, ra_n * 20, .inl ra_c0)), (ra2, .inl (cI, ra_n, .inl ra_l0)), (ra3, .inl (cI, 21, .inl ra_o))]) [0, 1, 2, 3] rfl
      have hD9 := hD.sub (ws' := [(ra, .inr (2, [.ref ra1, .ref ra2, .ref ra3, .int ra_u])), (ra1, .inl (cI, ra_n * 20, .inl ra_c0)), (ra2, .inl (cI, ra_n, .inl ra_l0)), (ra3, .inl (cI, 21, .inl ra_o))]) [0, 1, 2, 3] (by decide) rfl
      exact W.vret hx hb hr (fun t ht hW => ⟨⟨(ra_c0, ra_l0), rfl, trivial, by rw [ht]; exact hP9, va_K.moved hW.alike hK, hD9⟩, hS.F ht⟩) hS.2.2 dX2_put_78
    · have tc_4 : y_1.toInt < y_3.toInt := tb_ge_f c_4
      refine lv_aload_n hx hb dX2_put_20 rfl (lv_at hl 1 rfl) ?_
      refine va_get (D := (dC, dI)) (ci := 2) (v := .ref ra2) (C := RX2) (T := TX2) (N := 4) hx hb hts kk1_ hown hK hP 0 rfl rfl 1 (by decide) kk2_ (fun _ h9 => h9) rfl dX2_put_21 ?_
      refine lv_iload_n hx hb dX2_put_24 rfl (lv_at hl 0 rfl) ?_
      refine va_iald hx hb hK hP 2 0 rfl rfl (vp_in_iff.mpr ⟨by omega, by omega⟩) dX2_put_25 ?_
      refine lv_topi (fun y_5 ey_5 => ?_)
      refine lv_if_lt (tgt := 78) hx hb dX2_put_26 (by decide) (fun c_6 => ?_) (fun c_6 => ?_)
      · have tc_6 : y_5.toInt < 0 := tb_lt_t c_6
        have hP9 := hP.sub (ws' := [(ra, .inr (2, [.ref ra1, .ref ra2, .ref ra3, .int ra_u])), (ra1, .inl (cI, ra_n * 20, .inl ra_c0)), (ra2, .inl (cI, ra_n, .inl ra_l0)), (ra3, .inl (cI, 21, .inl ra_o))]) [0, 1, 2, 3] rfl
        have hD9 := hD.sub (ws' := [(ra, .inr (2, [.ref ra1, .ref ra2, .ref ra3, .int ra_u])), (ra1, .inl (cI, ra_n * 20, .inl ra_c0)), (ra2, .inl (cI, ra_n, .inl ra_l0)), (ra3, .inl (cI, 21, .inl ra_o))]) [0, 1, 2, 3] (by decide) rfl
        exact W.vret hx hb hr (fun t ht hW => ⟨⟨(ra_c0, ra_l0), rfl, trivial, by rw [ht]; exact hP9, va_K.moved hW.alike hK, hD9⟩, hS.F ht⟩) hS.2.2 dX2_put_78
      · have tc_6 : 0 ≤ y_5.toInt := tb_lt_f c_6
        refine lv_aload_n hx hb dX2_put_29 rfl (lv_at hl 1 rfl) ?_
        refine va_get (D := (dC, dI)) (ci := 2) (v := .ref ra2) (C := RX2) (T := TX2) (N := 4) hx hb hts kk1_ hown hK hP 0 rfl rfl 1 (by decide) kk2_ (fun _ h9 => h9) rfl dX2_put_30 ?_
        refine lv_iload_n hx hb dX2_put_33 rfl (lv_at hl 0 rfl) ?_
        refine va_iald hx hb hK hP 2 0 rfl rfl (vp_in_iff.mpr ⟨by omega, by omega⟩) dX2_put_34 ?_
        refine lv_topi (fun y_7 ey_7 => ?_)
        have : y_5 = y_7 := ey_5.trans ey_7.symm
        subst this
        refine lv_bipush (v := 20) hx hb dX2_put_35 (by decide) ?_
        refine lv_icmp_ge (tgt := 78) hx hb dX2_put_37 (by decide) (fun c_8 => ?_) (fun c_8 => ?_)
        · have tc_8 : 20 ≤ y_5.toInt := tb_ge_t c_8
          have hP9 := hP.sub (ws' := [(ra, .inr (2, [.ref ra1, .ref ra2, .ref ra3, .int ra_u])), (ra1, .inl (cI, ra_n * 20, .inl ra_c0)), (ra2, .inl (cI, ra_n, .inl ra_l0)), (ra3, .inl (cI, 21, .inl ra_o))]) [0, 1, 2, 3] rfl
          have hD9 := hD.sub (ws' := [(ra, .inr (2, [.ref ra1, .ref ra2, .ref ra3, .int ra_u])), (ra1, .inl (cI, ra_n * 20, .inl ra_c0)), (ra2, .inl (cI, ra_n, .inl ra_l0)), (ra3, .inl (cI, 21, .inl ra_o))]) [0, 1, 2, 3] (by decide) rfl
          exact W.vret hx hb hr (fun t ht hW => ⟨⟨(ra_c0, ra_l0), rfl, trivial, by rw [ht]; exact hP9, va_K.moved hW.alike hK, hD9⟩, hS.F ht⟩) hS.2.2 dX2_put_78
        · have tc_8 : y_5.toInt < 20 := tb_ge_f c_8
          refine lv_iload_n hx hb dX2_put_40 rfl (lv_at hl 0 rfl) ?_
          refine lv_bipush (v := 20) hx hb dX2_put_41 (by decide) ?_
          refine lv_imul hx hb dX2_put_43 ?_
          refine lv_topi (fun y_9 ey_9 => ?_)
          have tey_9 : y_9.toInt = y_1.toInt * 20 := ti_mul2 ey_9 rfl (by decide) (by omega) (by omega)
          refine lv_aload_n hx hb dX2_put_44 rfl (lv_at hl 1 rfl) ?_
          refine va_get (D := (dC, dI)) (ci := 2) (v := .ref ra2) (C := RX2) (T := TX2) (N := 4) hx hb hts kk1_ hown hK hP 0 rfl rfl 1 (by decide) kk2_ (fun _ h9 => h9) rfl dX2_put_45 ?_
          refine lv_iload_n hx hb dX2_put_48 rfl (lv_at hl 0 rfl) ?_
          refine va_iald hx hb hK hP 2 0 rfl rfl (vp_in_iff.mpr ⟨by omega, by omega⟩) dX2_put_49 ?_
          refine lv_topi (fun y_10 ey_10 => ?_)
          have : y_5 = y_10 := ey_5.trans ey_10.symm
          subst this
          refine lv_iadd hx hb dX2_put_50 ?_
          refine lv_topi (fun y_11 ey_11 => ?_)
          have tey_11 : y_11.toInt = y_9.toInt + y_5.toInt := ti_add2 ey_11 rfl rfl (by omega) (by omega)
          refine lv_istore_n (lv' := [(3, .int y_11), (2, .int y_1), (0, .ref ra), (1, .int p0)]) hx hb dX2_put_51 rfl hl (by decide) rfl (fun ls hl => ?_)
          refine lv_iload_n hx hb dX2_put_52 rfl (lv_at hl 0 rfl) ?_
          refine lv_aload_n hx hb dX2_put_53 rfl (lv_at hl 2 rfl) ?_
          refine va_get (D := (dC, dI)) (ci := 2) (v := .ref ra1) (C := RX2) (T := TX2) (N := 4) hx hb hts kk1_ hown hK hP 0 rfl rfl 0 (by decide) kk3_ (fun _ h9 => h9) rfl dX2_put_54 ?_
          refine va_alen (v := nI (ra_n * 20)) hx hb hK hP 1 0 rfl rfl rfl dX2_put_57 ?_
          refine lv_topi (fun y_12 ey_12 => ?_)
          have tey_12 : y_12.toInt = ((ra_n * 20 : Nat) : Int) := by rw [ey_12]; exact nI_toInt (by omega)
          refine lv_icmp_ge (tgt := 78) hx hb dX2_put_58 (by decide) (fun c_13 => ?_) (fun c_13 => ?_)
          · have tc_13 : y_12.toInt ≤ y_11.toInt := tb_ge_t c_13
            have hP9 := hP.sub (ws' := [(ra, .inr (2, [.ref ra1, .ref ra2, .ref ra3, .int ra_u])), (ra1, .inl (cI, ra_n * 20, .inl ra_c0)), (ra2, .inl (cI, ra_n, .inl ra_l0)), (ra3, .inl (cI, 21, .inl ra_o))]) [0, 1, 2, 3] rfl
            have hD9 := hD.sub (ws' := [(ra, .inr (2, [.ref ra1, .ref ra2, .ref ra3, .int ra_u])), (ra1, .inl (cI, ra_n * 20, .inl ra_c0)), (ra2, .inl (cI, ra_n, .inl ra_l0)), (ra3, .inl (cI, 21, .inl ra_o))]) [0, 1, 2, 3] (by decide) rfl
            exact W.vret hx hb hr (fun t ht hW => ⟨⟨(ra_c0, ra_l0), rfl, trivial, by rw [ht]; exact hP9, va_K.moved hW.alike hK, hD9⟩, hS.F ht⟩) hS.2.2 dX2_put_78
          · have tc_13 : y_11.toInt < y_12.toInt := tb_ge_f c_13
            refine lv_aload_n hx hb dX2_put_61 rfl (lv_at hl 2 rfl) ?_
            refine va_get (D := (dC, dI)) (ci := 2) (v := .ref ra1) (C := RX2) (T := TX2) (N := 4) hx hb hts kk1_ hown hK hP 0 rfl rfl 0 (by decide) kk3_ (fun _ h9 => h9) rfl dX2_put_62 ?_
            refine lv_iload_n hx hb dX2_put_65 rfl (lv_at hl 0 rfl) ?_
            refine lv_iload_n hx hb dX2_put_66 rfl (lv_at hl 3 rfl) ?_
            refine va_iast hx hb hK hP hD hS 1 0 rfl rfl (vp_in_iff.mpr ⟨by omega, by omega⟩) dX2_put_67 (fun H locs hP hD hS => ?_)
            have hP : va_P (dC, dI) vwCl [(ra, .inr (2, [.ref ra1, .ref ra2, .ref ra3, .int ra_u])), (ra1, .inl (cI, ra_n * 20, .inl (upd ra_c0 (y_11).toNatClampNeg p0))), (ra2, .inl (cI, ra_n, .inl ra_l0)), (ra3, .inl (cI, 21, .inl ra_o))] H := hP
            have hD : va_D (va_A (ww_X2_put dC dI cI cJ cB ra ra1 ra2 ra3 s.heap.size ra_n ra_u ra_c0 ra_l0 ra_o p0) s.heap.size) [(ra, .inr (2, [.ref ra1, .ref ra2, .ref ra3, .int ra_u])), (ra1, .inl (cI, ra_n * 20, .inl (upd ra_c0 (y_11).toNatClampNeg p0))), (ra2, .inl (cI, ra_n, .inl ra_l0)), (ra3, .inl (cI, 21, .inl ra_o))] := hD
            obtain ⟨f_14, ef_14⟩ : ∃ z, z = upd ra_c0 (y_11).toNatClampNeg p0 := ⟨_, rfl⟩
            rw [← ef_14] at hP hD
            refine lv_aload_n hx hb dX2_put_68 rfl (lv_at hl 2 rfl) ?_
            refine va_get (D := (dC, dI)) (ci := 2) (v := .ref ra2) (C := RX2) (T := TX2) (N := 4) hx hb hts kk1_ hown hK hP 0 rfl rfl 1 (by decide) kk2_ (fun _ h9 => h9) rfl dX2_put_69 ?_
            refine lv_iload_n hx hb dX2_put_72 rfl (lv_at hl 1 rfl) ?_
            refine lv_dup2_11 hx hb dX2_put_73 rfl rfl ?_
            refine va_iald hx hb hK hP 2 0 rfl rfl (vp_in_iff.mpr ⟨by omega, by omega⟩) dX2_put_74 ?_
            refine lv_topi (fun y_15 ey_15 => ?_)
            have : y_5 = y_15 := ey_5.trans ey_15.symm
            subst this
            refine lv_iconst (v := 1) hx hb dX2_put_75 (by decide) ?_
            refine lv_iadd hx hb dX2_put_76 ?_
            refine lv_topi (fun y_16 ey_16 => ?_)
            have tey_16 : y_16.toInt = y_5.toInt + 1 := ti_add2 ey_16 rfl (by decide) (by omega) (by omega)
            refine va_iast hx hb hK hP hD hS 2 0 rfl rfl (vp_in_iff.mpr ⟨by omega, by omega⟩) dX2_put_77 (fun H locs hP hD hS => ?_)
            have hP : va_P (dC, dI) vwCl [(ra, .inr (2, [.ref ra1, .ref ra2, .ref ra3, .int ra_u])), (ra1, .inl (cI, ra_n * 20, .inl f_14)), (ra2, .inl (cI, ra_n, .inl (upd ra_l0 (y_1).toNatClampNeg y_16))), (ra3, .inl (cI, 21, .inl ra_o))] H := hP
            have hD : va_D (va_A (ww_X2_put dC dI cI cJ cB ra ra1 ra2 ra3 s.heap.size ra_n ra_u ra_c0 ra_l0 ra_o p0) s.heap.size) [(ra, .inr (2, [.ref ra1, .ref ra2, .ref ra3, .int ra_u])), (ra1, .inl (cI, ra_n * 20, .inl f_14)), (ra2, .inl (cI, ra_n, .inl (upd ra_l0 (y_1).toNatClampNeg y_16))), (ra3, .inl (cI, 21, .inl ra_o))] := hD
            obtain ⟨f_17, ef_17⟩ : ∃ z, z = upd ra_l0 (y_1).toNatClampNeg y_16 := ⟨_, rfl⟩
            rw [← ef_17] at hP hD
            have hP9 := hP.sub (ws' := [(ra, .inr (2, [.ref ra1, .ref ra2, .ref ra3, .int ra_u])), (ra1, .inl (cI, ra_n * 20, .inl f_14)), (ra2, .inl (cI, ra_n, .inl f_17)), (ra3, .inl (cI, 21, .inl ra_o))]) [0, 1, 2, 3] rfl
            have hD9 := hD.sub (ws' := [(ra, .inr (2, [.ref ra1, .ref ra2, .ref ra3, .int ra_u])), (ra1, .inl (cI, ra_n * 20, .inl f_14)), (ra2, .inl (cI, ra_n, .inl f_17)), (ra3, .inl (cI, 21, .inl ra_o))]) [0, 1, 2, 3] (by decide) rfl
            exact W.vret hx hb hr (fun t ht hW => ⟨⟨(f_14, f_17), rfl, trivial, by rw [ht]; exact hP9, va_K.moved hW.alike hK, hD9⟩, hS.F ht⟩) hS.2.2 dX2_put_78
def wo_X2_lengthOf : List Cond := .code yX2_lengthOf cX2_lengthOf 2 (some .int) :: (([.fieldLink RX2 30 "SumRewriter$Rows" "used" "I", .fieldLink RX2 24 "SumRewriter$Rows" "lengths" "[I"] : List Cond) ++ ((wsX20)))
abbrev ww_X2_lengthOf (dC : Nat → ClassId) (dI : Nat → Nat → Nat) (cI cJ cB : ClassId) (ra ra1 ra2 ra3 : Nat) (sz : Nat) (ra_n : Nat) (ra_u : Int32) (ra_c : Nat → Int32) (ra_l : Nat → Int32) (ra_o : Nat → Int32) (p0 : Int32) : va_W := [(ra, .inr (2, [.ref ra1, .ref ra2, .ref ra3, .int ra_u])), (ra1, .inl (cI, ra_n * 20, .inl ra_c)), (ra2, .inl (cI, ra_n, .inl ra_l)), (ra3, .inl (cI, 21, .inl ra_o))]
abbrev at_X2_lengthOf (dC : Nat → ClassId) (dI : Nat → Nat → Nat) (cI cJ cB : ClassId) (ra ra1 ra2 ra3 : Nat) (sz : Nat) (ra_n : Nat) (ra_u : Int32) (ra_c : Nat → Int32) (ra_l : Nat → Int32) (ra_o : Nat → Int32) (p0 : Int32) (u : Unit) (t : State) : Prop := match u with
  | () => va_P (dC, dI) vwCl [(ra, .inr (2, [.ref ra1, .ref ra2, .ref ra3, .int ra_u])), (ra1, .inl (cI, ra_n * 20, .inl ra_c)), (ra2, .inl (cI, ra_n, .inl ra_l)), (ra3, .inl (cI, 21, .inl ra_o))] t.heap ∧ va_K (dC, dI) vwCl (tyL cI cJ cB) t ∧ va_D (va_A (ww_X2_lengthOf dC dI cI cJ cB ra ra1 ra2 ra3 sz ra_n ra_u ra_c ra_l ra_o p0) sz) [(ra, .inr (2, [.ref ra1, .ref ra2, .ref ra3, .int ra_u])), (ra1, .inl (cI, ra_n * 20, .inl ra_c)), (ra2, .inl (cI, ra_n, .inl ra_l)), (ra3, .inl (cI, 21, .inl ra_o))]
abbrev qc_X2_lengthOf (dC : Nat → ClassId) (dI : Nat → Nat → Nat) (cI cJ cB : ClassId) (ra ra1 ra2 ra3 : Nat) (sz : Nat) (ra_n : Nat) (ra_u : Int32) (ra_c : Nat → Int32) (ra_l : Nat → Int32) (ra_o : Nat → Int32) (p0 : Int32) : Array Value → State → Outcome → State → Prop := va_Qi (fun (r : Int32) (u : Unit) => match u with | () => True) (at_X2_lengthOf dC dI cI cJ cB ra ra1 ra2 ra3 sz ra_n ra_u ra_c ra_l ra_o p0) (va_A (ww_X2_lengthOf dC dI cI cJ cB ra ra1 ra2 ra3 sz ra_n ra_u ra_c ra_l ra_o p0) sz)
abbrev pc_X2_lengthOf (dC : Nat → ClassId) (dI : Nat → Nat → Nat) (cI cJ cB : ClassId) (ra ra1 ra2 ra3 : Nat) (sz : Nat) (ra_n : Nat) (ra_u : Int32) (ra_c : Nat → Int32) (ra_l : Nat → Int32) (ra_o : Nat → Int32) (p0 : Int32) : Array Value → State → Prop := va_Pc [.ref ra, .int p0] (fun U => U.heap.size = sz ∧ NW U ∧ va_P (dC, dI) vwCl (ww_X2_lengthOf dC dI cI cJ cB ra ra1 ra2 ra3 sz ra_n ra_u ra_c ra_l ra_o p0) U.heap ∧ va_K (dC, dI) vwCl (tyL cI cJ cB) U ∧ va_D (fun _ => True) (ww_X2_lengthOf dC dI cI cJ cB ra ra1 ra2 ra3 sz ra_n ra_u ra_c ra_l ra_o p0))
abbrev rm_X2_lengthOf : Room := { frames := 0, cells := 0, slots := 0, locals := 0 }
abbrev WW_X2_lengthOf (p : Program) (l : Launch) (e : Env) (s : State) (m : MethodId) (below : List Frame) (meth : Method) (c : Code) (dC : Nat → ClassId) (dI : Nat → Nat → Nat) (cI cJ cB : ClassId) (ra ra1 ra2 ra3 : Nat) (sz : Nat) (ra_n : Nat) (ra_u : Int32) (ra_c : Nat → Int32) (ra_l : Nat → Int32) (ra_o : Nat → Int32) (p0 : Int32) (H : Heap) (locs : List Loc) (g : JFrame) : Prop := W p l e rm_X2_lengthOf s m ([.ref ra, .int p0] : List Value).toArray below meth c H locs 0 0 (MQ below (qc_X2_lengthOf dC dI cI cJ cB ra ra1 ra2 ra3 sz ra_n ra_u ra_c ra_l ra_o p0) ([.ref ra, .int p0] : List Value).toArray s 0 0 (va_A (ww_X2_lengthOf dC dI cI cJ cB ra ra1 ra2 ra3 sz ra_n ra_u ra_c ra_l ra_o p0) sz)) g
set_option maxHeartbeats 4000000 in
set_option maxRecDepth 100000 in
theorem c_X2_lengthOf (l : Launch) (dC : Nat → ClassId) (dI : Nat → Nat → Nat) (cI cJ cB : ClassId) (ra ra1 ra2 ra3 : Nat) (sz : Nat) (ra_n : Nat) (ra_u : Int32) (ra_c : Nat → Int32) (ra_l : Nat → Int32) (ra_o : Nat → Int32) (p0 : Int32) (hn_ra : 1 ≤ ra_n ∧ ra_n ≤ 201) : Met l yX2_lengthOf wo_X2_lengthOf rm_X2_lengthOf (pc_X2_lengthOf dC dI cI cJ cB ra ra1 ra2 ra3 sz ra_n ra_u ra_c ra_l ra_o p0) (qc_X2_lengthOf dC dI cI cJ cB ra ra1 ra2 ra3 sz ra_n ra_u ra_c ra_l ra_o p0) 0 0 (va_A (ww_X2_lengthOf dC dI cI cJ cB ra ra1 ra2 ra3 sz ra_n ra_u ra_c ra_l ra_o p0) sz) := by
  refine Met.ofW (cc := cX2_lengthOf) (maxL := 2) (ret := (some .int)) (by decide) rfl ?_
  intro p e s m args below meth c s₁ B hml hv
  obtain ⟨rfl, hsz, hnw, hP, hK, hD0⟩ := hv
  have hx := B.exec
  have hb := B.bytes
  have hr := B.returns
  have hts := atoms_spec (ws := wo_X2_lengthOf) B.pre
  have hown : s.vm.findClass RX2 = some m.cls := findClass_of_methodNamed B.named
  have hlocks := B.notSynchronized
  clear B
  subst hsz
  have hD := hD0.self (sz := s.heap.size)
  clear hD0
  have kk0_ := hts (.fieldLink RX2 30 "SumRewriter$Rows" "used" "I") (by decide +kernel)
  have kk1_ : ∀ w ∈ wsX20, w ∈ wo_X2_lengthOf := fun _ h => (List.mem_cons_of_mem _ (List.mem_append_right _ h))
  have kk2_ := hts (.fieldLink RX2 24 "SumRewriter$Rows" "lengths" "[I") (by decide +kernel)
  have hA : ∀ q : Nat, s.heap.size ≤ q → (va_A (ww_X2_lengthOf dC dI cI cJ cB ra ra1 ra2 ra3 s.heap.size ra_n ra_u ra_c ra_l ra_o p0) s.heap.size) q := fun q h => Or.inr h
  have hS : va_S (va_A (ww_X2_lengthOf dC dI cI cJ cB ra ra1 ra2 ra3 s.heap.size ra_n ra_u ra_c ra_l ra_o p0) s.heap.size) s.heap s.heap [] := va_S.rf
  have hl := lv_entry ([.ref ra, .int p0]) (n := 2) (Nat.le_of_ble_eq_true rfl)
  rw [lg_entry_eq]
  generalize (lg_sl ([.ref ra, .int p0]) ++ List.replicate (2 - (lg_sl ([.ref ra, .int p0])).length) Slot.unset).toArray = ls at hl ⊢
  have hl : lv_has ls 2 [(0, .ref ra), (1, .int p0)] := hl
  have hP : va_P (dC, dI) vwCl [(ra, .inr (2, [.ref ra1, .ref ra2, .ref ra3, .int ra_u])), (ra1, .inl (cI, ra_n * 20, .inl ra_c)), (ra2, .inl (cI, ra_n, .inl ra_l)), (ra3, .inl (cI, 21, .inl ra_o))] s.heap := hP
  have hD : va_D (va_A (ww_X2_lengthOf dC dI cI cJ cB ra ra1 ra2 ra3 s.heap.size ra_n ra_u ra_c ra_l ra_o p0) s.heap.size) [(ra, .inr (2, [.ref ra1, .ref ra2, .ref ra3, .int ra_u])), (ra1, .inl (cI, ra_n * 20, .inl ra_c)), (ra2, .inl (cI, ra_n, .inl ra_l)), (ra3, .inl (cI, 21, .inl ra_o))] := hD
  obtain ⟨H, hH⟩ : ∃ H, H = s.heap := ⟨_, rfl⟩
  obtain ⟨locs, hlc⟩ : ∃ L : List Loc, L = [] := ⟨_, rfl⟩
  have hS : va_S (va_A (ww_X2_lengthOf dC dI cI cJ cB ra ra1 ra2 ra3 s.heap.size ra_n ra_u ra_c ra_l ra_o p0) s.heap.size) s.heap H locs := by rw [hH, hlc]; exact hS
  have hP : va_P (dC, dI) vwCl [(ra, .inr (2, [.ref ra1, .ref ra2, .ref ra3, .int ra_u])), (ra1, .inl (cI, ra_n * 20, .inl ra_c)), (ra2, .inl (cI, ra_n, .inl ra_l)), (ra3, .inl (cI, 21, .inl ra_o))] H := by rw [hH]; exact hP
  suffices hgo : WW_X2_lengthOf p l e s m below meth c dC dI cI cJ cB ra ra1 ra2 ra3 s.heap.size ra_n ra_u ra_c ra_l ra_o p0 H locs (F0 m 0 ls []) by rw [hH, hlc] at hgo; exact hgo
  clear hH hlc
  refine lv_iload_n hx hb dX2_lengthOf_0 rfl (lv_at hl 1 rfl) ?_
  refine lv_if_lt (tgt := 30) hx hb dX2_lengthOf_1 (by decide) (fun c_1 => ?_) (fun c_1 => ?_)
  · have tc_1 : p0.toInt < 0 := tb_lt_t c_1
    refine lv_iconst (v := 0) hx hb dX2_lengthOf_30 (by decide) ?_
    have hP9 := hP.sub (ws' := [(ra, .inr (2, [.ref ra1, .ref ra2, .ref ra3, .int ra_u])), (ra1, .inl (cI, ra_n * 20, .inl ra_c)), (ra2, .inl (cI, ra_n, .inl ra_l)), (ra3, .inl (cI, 21, .inl ra_o))]) [0, 1, 2, 3] rfl
    have hD9 := hD.sub (ws' := [(ra, .inr (2, [.ref ra1, .ref ra2, .ref ra3, .int ra_u])), (ra1, .inl (cI, ra_n * 20, .inl ra_c)), (ra2, .inl (cI, ra_n, .inl ra_l)), (ra3, .inl (cI, 21, .inl ra_o))]) [0, 1, 2, 3] (by decide) rfl
    exact W.iret (v := (0 : Int32)) hx hb hr (fun t ht hW => ⟨⟨(0 : Int32), (), rfl, trivial, by rw [ht]; exact hP9, va_K.moved hW.alike hK, hD9⟩, hS.F ht⟩) hS.2.2 dX2_lengthOf_31
  · have tc_1 : 0 ≤ p0.toInt := tb_lt_f c_1
    refine lv_iload_n hx hb dX2_lengthOf_4 rfl (lv_at hl 1 rfl) ?_
    refine lv_aload_n hx hb dX2_lengthOf_5 rfl (lv_at hl 0 rfl) ?_
    refine va_get (D := (dC, dI)) (ci := 2) (v := .int ra_u) (C := RX2) (T := TX2) (N := 4) hx hb hts kk1_ hown hK hP 0 rfl rfl 3 (by decide) kk0_ (fun _ h9 => h9) rfl dX2_lengthOf_6 ?_
    refine lv_icmp_ge (tgt := 30) hx hb dX2_lengthOf_9 (by decide) (fun c_2 => ?_) (fun c_2 => ?_)
    · have tc_2 : ra_u.toInt ≤ p0.toInt := tb_ge_t c_2
      have := ti_rng ra_u
      refine lv_iconst (v := 0) hx hb dX2_lengthOf_30 (by decide) ?_
      have hP9 := hP.sub (ws' := [(ra, .inr (2, [.ref ra1, .ref ra2, .ref ra3, .int ra_u])), (ra1, .inl (cI, ra_n * 20, .inl ra_c)), (ra2, .inl (cI, ra_n, .inl ra_l)), (ra3, .inl (cI, 21, .inl ra_o))]) [0, 1, 2, 3] rfl
      have hD9 := hD.sub (ws' := [(ra, .inr (2, [.ref ra1, .ref ra2, .ref ra3, .int ra_u])), (ra1, .inl (cI, ra_n * 20, .inl ra_c)), (ra2, .inl (cI, ra_n, .inl ra_l)), (ra3, .inl (cI, 21, .inl ra_o))]) [0, 1, 2, 3] (by decide) rfl
      exact W.iret (v := (0 : Int32)) hx hb hr (fun t ht hW => ⟨⟨(0 : Int32), (), rfl, trivial, by rw [ht]; exact hP9, va_K.moved hW.alike hK, hD9⟩, hS.F ht⟩) hS.2.2 dX2_lengthOf_31
    · have tc_2 : p0.toInt < ra_u.toInt := tb_ge_f c_2
      have := ti_rng ra_u
      refine lv_iload_n hx hb dX2_lengthOf_12 rfl (lv_at hl 1 rfl) ?_
      refine lv_aload_n hx hb dX2_lengthOf_13 rfl (lv_at hl 0 rfl) ?_
      refine va_get (D := (dC, dI)) (ci := 2) (v := .ref ra2) (C := RX2) (T := TX2) (N := 4) hx hb hts kk1_ hown hK hP 0 rfl rfl 1 (by decide) kk2_ (fun _ h9 => h9) rfl dX2_lengthOf_14 ?_
      refine va_alen (v := nI ra_n) hx hb hK hP 2 0 rfl rfl rfl dX2_lengthOf_17 ?_
      refine lv_topi (fun y_3 ey_3 => ?_)
      have tey_3 : y_3.toInt = ((ra_n : Nat) : Int) := by rw [ey_3]; exact nI_toInt (by omega)
      refine lv_icmp_ge (tgt := 30) hx hb dX2_lengthOf_18 (by decide) (fun c_4 => ?_) (fun c_4 => ?_)
      · have tc_4 : y_3.toInt ≤ p0.toInt := tb_ge_t c_4
        refine lv_iconst (v := 0) hx hb dX2_lengthOf_30 (by decide) ?_
        have hP9 := hP.sub (ws' := [(ra, .inr (2, [.ref ra1, .ref ra2, .ref ra3, .int ra_u])), (ra1, .inl (cI, ra_n * 20, .inl ra_c)), (ra2, .inl (cI, ra_n, .inl ra_l)), (ra3, .inl (cI, 21, .inl ra_o))]) [0, 1, 2, 3] rfl
        have hD9 := hD.sub (ws' := [(ra, .inr (2, [.ref ra1, .ref ra2, .ref ra3, .int ra_u])), (ra1, .inl (cI, ra_n * 20, .inl ra_c)), (ra2, .inl (cI, ra_n, .inl ra_l)), (ra3, .inl (cI, 21, .inl ra_o))]) [0, 1, 2, 3] (by decide) rfl
        exact W.iret (v := (0 : Int32)) hx hb hr (fun t ht hW => ⟨⟨(0 : Int32), (), rfl, trivial, by rw [ht]; exact hP9, va_K.moved hW.alike hK, hD9⟩, hS.F ht⟩) hS.2.2 dX2_lengthOf_31
      · have tc_4 : p0.toInt < y_3.toInt := tb_ge_f c_4
        refine lv_aload_n hx hb dX2_lengthOf_21 rfl (lv_at hl 0 rfl) ?_
        refine va_get (D := (dC, dI)) (ci := 2) (v := .ref ra2) (C := RX2) (T := TX2) (N := 4) hx hb hts kk1_ hown hK hP 0 rfl rfl 1 (by decide) kk2_ (fun _ h9 => h9) rfl dX2_lengthOf_22 ?_
        refine lv_iload_n hx hb dX2_lengthOf_25 rfl (lv_at hl 1 rfl) ?_
        refine va_iald hx hb hK hP 2 0 rfl rfl (vp_in_iff.mpr ⟨by omega, by omega⟩) dX2_lengthOf_26 ?_
        refine lv_topi (fun y_5 ey_5 => ?_)
        refine lv_goto (tgt := 31) hx hb dX2_lengthOf_27 (by decide) ?_
        have hP9 := hP.sub (ws' := [(ra, .inr (2, [.ref ra1, .ref ra2, .ref ra3, .int ra_u])), (ra1, .inl (cI, ra_n * 20, .inl ra_c)), (ra2, .inl (cI, ra_n, .inl ra_l)), (ra3, .inl (cI, 21, .inl ra_o))]) [0, 1, 2, 3] rfl
        have hD9 := hD.sub (ws' := [(ra, .inr (2, [.ref ra1, .ref ra2, .ref ra3, .int ra_u])), (ra1, .inl (cI, ra_n * 20, .inl ra_c)), (ra2, .inl (cI, ra_n, .inl ra_l)), (ra3, .inl (cI, 21, .inl ra_o))]) [0, 1, 2, 3] (by decide) rfl
        exact W.iret (v := y_5) hx hb hr (fun t ht hW => ⟨⟨y_5, (), rfl, trivial, by rw [ht]; exact hP9, va_K.moved hW.alike hK, hD9⟩, hS.F ht⟩) hS.2.2 dX2_lengthOf_31
def wo_X2_cellAt : List Cond := .code yX2_cellAt cX2_cellAt 4 (some .int) :: (([.fieldLink RX2 24 "SumRewriter$Rows" "lengths" "[I", .fieldLink RX2 18 "SumRewriter$Rows" "cells" "[I"] : List Cond) ++ ((wsX20)))
abbrev ww_X2_cellAt (dC : Nat → ClassId) (dI : Nat → Nat → Nat) (cI cJ cB : ClassId) (ra ra1 ra2 ra3 : Nat) (sz : Nat) (ra_n : Nat) (ra_u : Int32) (ra_c : Nat → Int32) (ra_l : Nat → Int32) (ra_o : Nat → Int32) (p0 : Int32) (p1 : Int32) : va_W := [(ra, .inr (2, [.ref ra1, .ref ra2, .ref ra3, .int ra_u])), (ra1, .inl (cI, ra_n * 20, .inl ra_c)), (ra2, .inl (cI, ra_n, .inl ra_l)), (ra3, .inl (cI, 21, .inl ra_o))]
abbrev at_X2_cellAt (dC : Nat → ClassId) (dI : Nat → Nat → Nat) (cI cJ cB : ClassId) (ra ra1 ra2 ra3 : Nat) (sz : Nat) (ra_n : Nat) (ra_u : Int32) (ra_c : Nat → Int32) (ra_l : Nat → Int32) (ra_o : Nat → Int32) (p0 : Int32) (p1 : Int32) (u : Unit) (t : State) : Prop := match u with
  | () => va_P (dC, dI) vwCl [(ra, .inr (2, [.ref ra1, .ref ra2, .ref ra3, .int ra_u])), (ra1, .inl (cI, ra_n * 20, .inl ra_c)), (ra2, .inl (cI, ra_n, .inl ra_l)), (ra3, .inl (cI, 21, .inl ra_o))] t.heap ∧ va_K (dC, dI) vwCl (tyL cI cJ cB) t ∧ va_D (va_A (ww_X2_cellAt dC dI cI cJ cB ra ra1 ra2 ra3 sz ra_n ra_u ra_c ra_l ra_o p0 p1) sz) [(ra, .inr (2, [.ref ra1, .ref ra2, .ref ra3, .int ra_u])), (ra1, .inl (cI, ra_n * 20, .inl ra_c)), (ra2, .inl (cI, ra_n, .inl ra_l)), (ra3, .inl (cI, 21, .inl ra_o))]
abbrev qc_X2_cellAt (dC : Nat → ClassId) (dI : Nat → Nat → Nat) (cI cJ cB : ClassId) (ra ra1 ra2 ra3 : Nat) (sz : Nat) (ra_n : Nat) (ra_u : Int32) (ra_c : Nat → Int32) (ra_l : Nat → Int32) (ra_o : Nat → Int32) (p0 : Int32) (p1 : Int32) : Array Value → State → Outcome → State → Prop := va_Qi (fun (r : Int32) (u : Unit) => match u with | () => True) (at_X2_cellAt dC dI cI cJ cB ra ra1 ra2 ra3 sz ra_n ra_u ra_c ra_l ra_o p0 p1) (va_A (ww_X2_cellAt dC dI cI cJ cB ra ra1 ra2 ra3 sz ra_n ra_u ra_c ra_l ra_o p0 p1) sz)
abbrev pc_X2_cellAt (dC : Nat → ClassId) (dI : Nat → Nat → Nat) (cI cJ cB : ClassId) (ra ra1 ra2 ra3 : Nat) (sz : Nat) (ra_n : Nat) (ra_u : Int32) (ra_c : Nat → Int32) (ra_l : Nat → Int32) (ra_o : Nat → Int32) (p0 : Int32) (p1 : Int32) : Array Value → State → Prop := va_Pc [.ref ra, .int p0, .int p1] (fun U => U.heap.size = sz ∧ NW U ∧ va_P (dC, dI) vwCl (ww_X2_cellAt dC dI cI cJ cB ra ra1 ra2 ra3 sz ra_n ra_u ra_c ra_l ra_o p0 p1) U.heap ∧ va_K (dC, dI) vwCl (tyL cI cJ cB) U ∧ va_D (fun _ => True) (ww_X2_cellAt dC dI cI cJ cB ra ra1 ra2 ra3 sz ra_n ra_u ra_c ra_l ra_o p0 p1))
abbrev rm_X2_cellAt : Room := { frames := 0, cells := 0, slots := 0, locals := 0 }
abbrev WW_X2_cellAt (p : Program) (l : Launch) (e : Env) (s : State) (m : MethodId) (below : List Frame) (meth : Method) (c : Code) (dC : Nat → ClassId) (dI : Nat → Nat → Nat) (cI cJ cB : ClassId) (ra ra1 ra2 ra3 : Nat) (sz : Nat) (ra_n : Nat) (ra_u : Int32) (ra_c : Nat → Int32) (ra_l : Nat → Int32) (ra_o : Nat → Int32) (p0 : Int32) (p1 : Int32) (H : Heap) (locs : List Loc) (g : JFrame) : Prop := W p l e rm_X2_cellAt s m ([.ref ra, .int p0, .int p1] : List Value).toArray below meth c H locs 0 0 (MQ below (qc_X2_cellAt dC dI cI cJ cB ra ra1 ra2 ra3 sz ra_n ra_u ra_c ra_l ra_o p0 p1) ([.ref ra, .int p0, .int p1] : List Value).toArray s 0 0 (va_A (ww_X2_cellAt dC dI cI cJ cB ra ra1 ra2 ra3 sz ra_n ra_u ra_c ra_l ra_o p0 p1) sz)) g
set_option maxHeartbeats 4000000 in
set_option maxRecDepth 100000 in
theorem c_X2_cellAt (l : Launch) (dC : Nat → ClassId) (dI : Nat → Nat → Nat) (cI cJ cB : ClassId) (ra ra1 ra2 ra3 : Nat) (sz : Nat) (ra_n : Nat) (ra_u : Int32) (ra_c : Nat → Int32) (ra_l : Nat → Int32) (ra_o : Nat → Int32) (p0 : Int32) (p1 : Int32) (hn_ra : 1 ≤ ra_n ∧ ra_n ≤ 201) : Met l yX2_cellAt wo_X2_cellAt rm_X2_cellAt (pc_X2_cellAt dC dI cI cJ cB ra ra1 ra2 ra3 sz ra_n ra_u ra_c ra_l ra_o p0 p1) (qc_X2_cellAt dC dI cI cJ cB ra ra1 ra2 ra3 sz ra_n ra_u ra_c ra_l ra_o p0 p1) 0 0 (va_A (ww_X2_cellAt dC dI cI cJ cB ra ra1 ra2 ra3 sz ra_n ra_u ra_c ra_l ra_o p0 p1) sz) := by
  refine Met.ofW (cc := cX2_cellAt) (maxL := 4) (ret := (some .int)) (by decide) rfl ?_
  intro p e s m args below meth c s₁ B hml hv
  obtain ⟨rfl, hsz, hnw, hP, hK, hD0⟩ := hv
  have hx := B.exec
  have hb := B.bytes
  have hr := B.returns
  have hts := atoms_spec (ws := wo_X2_cellAt) B.pre
  have hown : s.vm.findClass RX2 = some m.cls := findClass_of_methodNamed B.named
  have hlocks := B.notSynchronized
  clear B
  subst hsz
  have hD := hD0.self (sz := s.heap.size)
  clear hD0
  have kk0_ := hts (.fieldLink RX2 24 "SumRewriter$Rows" "lengths" "[I") (by decide +kernel)
  have kk1_ : ∀ w ∈ wsX20, w ∈ wo_X2_cellAt := fun _ h => (List.mem_cons_of_mem _ (List.mem_append_right _ h))
  have kk2_ := hts (.fieldLink RX2 18 "SumRewriter$Rows" "cells" "[I") (by decide +kernel)
  have hA : ∀ q : Nat, s.heap.size ≤ q → (va_A (ww_X2_cellAt dC dI cI cJ cB ra ra1 ra2 ra3 s.heap.size ra_n ra_u ra_c ra_l ra_o p0 p1) s.heap.size) q := fun q h => Or.inr h
  have hS : va_S (va_A (ww_X2_cellAt dC dI cI cJ cB ra ra1 ra2 ra3 s.heap.size ra_n ra_u ra_c ra_l ra_o p0 p1) s.heap.size) s.heap s.heap [] := va_S.rf
  have hl := lv_entry ([.ref ra, .int p0, .int p1]) (n := 4) (Nat.le_of_ble_eq_true rfl)
  rw [lg_entry_eq]
  generalize (lg_sl ([.ref ra, .int p0, .int p1]) ++ List.replicate (4 - (lg_sl ([.ref ra, .int p0, .int p1])).length) Slot.unset).toArray = ls at hl ⊢
  have hl : lv_has ls 4 [(0, .ref ra), (1, .int p0), (2, .int p1)] := hl
  have hP : va_P (dC, dI) vwCl [(ra, .inr (2, [.ref ra1, .ref ra2, .ref ra3, .int ra_u])), (ra1, .inl (cI, ra_n * 20, .inl ra_c)), (ra2, .inl (cI, ra_n, .inl ra_l)), (ra3, .inl (cI, 21, .inl ra_o))] s.heap := hP
  have hD : va_D (va_A (ww_X2_cellAt dC dI cI cJ cB ra ra1 ra2 ra3 s.heap.size ra_n ra_u ra_c ra_l ra_o p0 p1) s.heap.size) [(ra, .inr (2, [.ref ra1, .ref ra2, .ref ra3, .int ra_u])), (ra1, .inl (cI, ra_n * 20, .inl ra_c)), (ra2, .inl (cI, ra_n, .inl ra_l)), (ra3, .inl (cI, 21, .inl ra_o))] := hD
  obtain ⟨H, hH⟩ : ∃ H, H = s.heap := ⟨_, rfl⟩
  obtain ⟨locs, hlc⟩ : ∃ L : List Loc, L = [] := ⟨_, rfl⟩
  have hS : va_S (va_A (ww_X2_cellAt dC dI cI cJ cB ra ra1 ra2 ra3 s.heap.size ra_n ra_u ra_c ra_l ra_o p0 p1) s.heap.size) s.heap H locs := by rw [hH, hlc]; exact hS
  have hP : va_P (dC, dI) vwCl [(ra, .inr (2, [.ref ra1, .ref ra2, .ref ra3, .int ra_u])), (ra1, .inl (cI, ra_n * 20, .inl ra_c)), (ra2, .inl (cI, ra_n, .inl ra_l)), (ra3, .inl (cI, 21, .inl ra_o))] H := by rw [hH]; exact hP
  suffices hgo : WW_X2_cellAt p l e s m below meth c dC dI cI cJ cB ra ra1 ra2 ra3 s.heap.size ra_n ra_u ra_c ra_l ra_o p0 p1 H locs (F0 m 0 ls []) by rw [hH, hlc] at hgo; exact hgo
  clear hH hlc
  refine lv_iload_n hx hb dX2_cellAt_0 rfl (lv_at hl 1 rfl) ?_
  refine lv_if_lt (tgt := 23) hx hb dX2_cellAt_1 (by decide) (fun c_1 => ?_) (fun c_1 => ?_)
  · have tc_1 : p0.toInt < 0 := tb_lt_t c_1
    refine lv_iconst (v := 0) hx hb dX2_cellAt_23 (by decide) ?_
    have hP9 := hP.sub (ws' := [(ra, .inr (2, [.ref ra1, .ref ra2, .ref ra3, .int ra_u])), (ra1, .inl (cI, ra_n * 20, .inl ra_c)), (ra2, .inl (cI, ra_n, .inl ra_l)), (ra3, .inl (cI, 21, .inl ra_o))]) [0, 1, 2, 3] rfl
    have hD9 := hD.sub (ws' := [(ra, .inr (2, [.ref ra1, .ref ra2, .ref ra3, .int ra_u])), (ra1, .inl (cI, ra_n * 20, .inl ra_c)), (ra2, .inl (cI, ra_n, .inl ra_l)), (ra3, .inl (cI, 21, .inl ra_o))]) [0, 1, 2, 3] (by decide) rfl
    exact W.iret (v := (0 : Int32)) hx hb hr (fun t ht hW => ⟨⟨(0 : Int32), (), rfl, trivial, by rw [ht]; exact hP9, va_K.moved hW.alike hK, hD9⟩, hS.F ht⟩) hS.2.2 dX2_cellAt_24
  · have tc_1 : 0 ≤ p0.toInt := tb_lt_f c_1
    refine lv_iload_n hx hb dX2_cellAt_4 rfl (lv_at hl 1 rfl) ?_
    refine lv_aload_n hx hb dX2_cellAt_5 rfl (lv_at hl 0 rfl) ?_
    refine va_get (D := (dC, dI)) (ci := 2) (v := .ref ra2) (C := RX2) (T := TX2) (N := 4) hx hb hts kk1_ hown hK hP 0 rfl rfl 1 (by decide) kk0_ (fun _ h9 => h9) rfl dX2_cellAt_6 ?_
    refine va_alen (v := nI ra_n) hx hb hK hP 2 0 rfl rfl rfl dX2_cellAt_9 ?_
    refine lv_topi (fun y_2 ey_2 => ?_)
    have tey_2 : y_2.toInt = ((ra_n : Nat) : Int) := by rw [ey_2]; exact nI_toInt (by omega)
    refine lv_icmp_ge (tgt := 23) hx hb dX2_cellAt_10 (by decide) (fun c_3 => ?_) (fun c_3 => ?_)
    · have tc_3 : y_2.toInt ≤ p0.toInt := tb_ge_t c_3
      refine lv_iconst (v := 0) hx hb dX2_cellAt_23 (by decide) ?_
      have hP9 := hP.sub (ws' := [(ra, .inr (2, [.ref ra1, .ref ra2, .ref ra3, .int ra_u])), (ra1, .inl (cI, ra_n * 20, .inl ra_c)), (ra2, .inl (cI, ra_n, .inl ra_l)), (ra3, .inl (cI, 21, .inl ra_o))]) [0, 1, 2, 3] rfl
      have hD9 := hD.sub (ws' := [(ra, .inr (2, [.ref ra1, .ref ra2, .ref ra3, .int ra_u])), (ra1, .inl (cI, ra_n * 20, .inl ra_c)), (ra2, .inl (cI, ra_n, .inl ra_l)), (ra3, .inl (cI, 21, .inl ra_o))]) [0, 1, 2, 3] (by decide) rfl
      exact W.iret (v := (0 : Int32)) hx hb hr (fun t ht hW => ⟨⟨(0 : Int32), (), rfl, trivial, by rw [ht]; exact hP9, va_K.moved hW.alike hK, hD9⟩, hS.F ht⟩) hS.2.2 dX2_cellAt_24
    · have tc_3 : p0.toInt < y_2.toInt := tb_ge_f c_3
      refine lv_iload_n hx hb dX2_cellAt_13 rfl (lv_at hl 2 rfl) ?_
      refine lv_if_lt (tgt := 23) hx hb dX2_cellAt_14 (by decide) (fun c_4 => ?_) (fun c_4 => ?_)
      · have tc_4 : p1.toInt < 0 := tb_lt_t c_4
        refine lv_iconst (v := 0) hx hb dX2_cellAt_23 (by decide) ?_
        have hP9 := hP.sub (ws' := [(ra, .inr (2, [.ref ra1, .ref ra2, .ref ra3, .int ra_u])), (ra1, .inl (cI, ra_n * 20, .inl ra_c)), (ra2, .inl (cI, ra_n, .inl ra_l)), (ra3, .inl (cI, 21, .inl ra_o))]) [0, 1, 2, 3] rfl
        have hD9 := hD.sub (ws' := [(ra, .inr (2, [.ref ra1, .ref ra2, .ref ra3, .int ra_u])), (ra1, .inl (cI, ra_n * 20, .inl ra_c)), (ra2, .inl (cI, ra_n, .inl ra_l)), (ra3, .inl (cI, 21, .inl ra_o))]) [0, 1, 2, 3] (by decide) rfl
        exact W.iret (v := (0 : Int32)) hx hb hr (fun t ht hW => ⟨⟨(0 : Int32), (), rfl, trivial, by rw [ht]; exact hP9, va_K.moved hW.alike hK, hD9⟩, hS.F ht⟩) hS.2.2 dX2_cellAt_24
      · have tc_4 : 0 ≤ p1.toInt := tb_lt_f c_4
        refine lv_iload_n hx hb dX2_cellAt_17 rfl (lv_at hl 2 rfl) ?_
        refine lv_bipush (v := 20) hx hb dX2_cellAt_18 (by decide) ?_
        refine lv_icmp_lt (tgt := 25) hx hb dX2_cellAt_20 (by decide) (fun c_5 => ?_) (fun c_5 => ?_)
        · have tc_5 : p1.toInt < 20 := tb_lt_t c_5
          refine lv_iload_n hx hb dX2_cellAt_25 rfl (lv_at hl 1 rfl) ?_
          refine lv_bipush (v := 20) hx hb dX2_cellAt_26 (by decide) ?_
          refine lv_imul hx hb dX2_cellAt_28 ?_
          refine lv_topi (fun y_6 ey_6 => ?_)
          have tey_6 : y_6.toInt = p0.toInt * 20 := ti_mul2 ey_6 rfl (by decide) (by omega) (by omega)
          refine lv_iload_n hx hb dX2_cellAt_29 rfl (lv_at hl 2 rfl) ?_
          refine lv_iadd hx hb dX2_cellAt_30 ?_
          refine lv_topi (fun y_7 ey_7 => ?_)
          have tey_7 : y_7.toInt = y_6.toInt + p1.toInt := ti_add2 ey_7 rfl rfl (by omega) (by omega)
          refine lv_istore_n (lv' := [(3, .int y_7), (0, .ref ra), (1, .int p0), (2, .int p1)]) hx hb dX2_cellAt_31 rfl hl (by decide) rfl (fun ls hl => ?_)
          refine lv_iload_n hx hb dX2_cellAt_32 rfl (lv_at hl 0 rfl) ?_
          refine lv_aload_n hx hb dX2_cellAt_33 rfl (lv_at hl 1 rfl) ?_
          refine va_get (D := (dC, dI)) (ci := 2) (v := .ref ra1) (C := RX2) (T := TX2) (N := 4) hx hb hts kk1_ hown hK hP 0 rfl rfl 0 (by decide) kk2_ (fun _ h9 => h9) rfl dX2_cellAt_34 ?_
          refine va_alen (v := nI (ra_n * 20)) hx hb hK hP 1 0 rfl rfl rfl dX2_cellAt_37 ?_
          refine lv_topi (fun y_8 ey_8 => ?_)
          have tey_8 : y_8.toInt = ((ra_n * 20 : Nat) : Int) := by rw [ey_8]; exact nI_toInt (by omega)
          refine lv_icmp_ge (tgt := 50) hx hb dX2_cellAt_38 (by decide) (fun c_9 => ?_) (fun c_9 => ?_)
          · have tc_9 : y_8.toInt ≤ y_7.toInt := tb_ge_t c_9
            refine lv_iconst (v := 0) hx hb dX2_cellAt_50 (by decide) ?_
            have hP9 := hP.sub (ws' := [(ra, .inr (2, [.ref ra1, .ref ra2, .ref ra3, .int ra_u])), (ra1, .inl (cI, ra_n * 20, .inl ra_c)), (ra2, .inl (cI, ra_n, .inl ra_l)), (ra3, .inl (cI, 21, .inl ra_o))]) [0, 1, 2, 3] rfl
            have hD9 := hD.sub (ws' := [(ra, .inr (2, [.ref ra1, .ref ra2, .ref ra3, .int ra_u])), (ra1, .inl (cI, ra_n * 20, .inl ra_c)), (ra2, .inl (cI, ra_n, .inl ra_l)), (ra3, .inl (cI, 21, .inl ra_o))]) [0, 1, 2, 3] (by decide) rfl
            exact W.iret (v := (0 : Int32)) hx hb hr (fun t ht hW => ⟨⟨(0 : Int32), (), rfl, trivial, by rw [ht]; exact hP9, va_K.moved hW.alike hK, hD9⟩, hS.F ht⟩) hS.2.2 dX2_cellAt_51
          · have tc_9 : y_7.toInt < y_8.toInt := tb_ge_f c_9
            refine lv_aload_n hx hb dX2_cellAt_41 rfl (lv_at hl 1 rfl) ?_
            refine va_get (D := (dC, dI)) (ci := 2) (v := .ref ra1) (C := RX2) (T := TX2) (N := 4) hx hb hts kk1_ hown hK hP 0 rfl rfl 0 (by decide) kk2_ (fun _ h9 => h9) rfl dX2_cellAt_42 ?_
            refine lv_iload_n hx hb dX2_cellAt_45 rfl (lv_at hl 0 rfl) ?_
            refine va_iald hx hb hK hP 1 0 rfl rfl (vp_in_iff.mpr ⟨by omega, by omega⟩) dX2_cellAt_46 ?_
            refine lv_topi (fun y_10 ey_10 => ?_)
            refine lv_goto (tgt := 51) hx hb dX2_cellAt_47 (by decide) ?_
            have hP9 := hP.sub (ws' := [(ra, .inr (2, [.ref ra1, .ref ra2, .ref ra3, .int ra_u])), (ra1, .inl (cI, ra_n * 20, .inl ra_c)), (ra2, .inl (cI, ra_n, .inl ra_l)), (ra3, .inl (cI, 21, .inl ra_o))]) [0, 1, 2, 3] rfl
            have hD9 := hD.sub (ws' := [(ra, .inr (2, [.ref ra1, .ref ra2, .ref ra3, .int ra_u])), (ra1, .inl (cI, ra_n * 20, .inl ra_c)), (ra2, .inl (cI, ra_n, .inl ra_l)), (ra3, .inl (cI, 21, .inl ra_o))]) [0, 1, 2, 3] (by decide) rfl
            exact W.iret (v := y_10) hx hb hr (fun t ht hW => ⟨⟨y_10, (), rfl, trivial, by rw [ht]; exact hP9, va_K.moved hW.alike hK, hD9⟩, hS.F ht⟩) hS.2.2 dX2_cellAt_51
        · have tc_5 : 20 ≤ p1.toInt := tb_lt_f c_5
          refine lv_iconst (v := 0) hx hb dX2_cellAt_23 (by decide) ?_
          have hP9 := hP.sub (ws' := [(ra, .inr (2, [.ref ra1, .ref ra2, .ref ra3, .int ra_u])), (ra1, .inl (cI, ra_n * 20, .inl ra_c)), (ra2, .inl (cI, ra_n, .inl ra_l)), (ra3, .inl (cI, 21, .inl ra_o))]) [0, 1, 2, 3] rfl
          have hD9 := hD.sub (ws' := [(ra, .inr (2, [.ref ra1, .ref ra2, .ref ra3, .int ra_u])), (ra1, .inl (cI, ra_n * 20, .inl ra_c)), (ra2, .inl (cI, ra_n, .inl ra_l)), (ra3, .inl (cI, 21, .inl ra_o))]) [0, 1, 2, 3] (by decide) rfl
          exact W.iret (v := (0 : Int32)) hx hb hr (fun t ht hW => ⟨⟨(0 : Int32), (), rfl, trivial, by rw [ht]; exact hP9, va_K.moved hW.alike hK, hD9⟩, hS.F ht⟩) hS.2.2 dX2_cellAt_24
def wo_X2_copyCells : List Cond := .code yX2_copyCells cX2_copyCells 6 none :: (([] : List Cond) ++ ((wsV RX2 46 RX2 yX2_cellAt wo_X2_cellAt) ++ ((wsV RX2 49 RX2 yX2_put wo_X2_put) ++ ((wsV RX2 42 RX2 yX2_start wo_X2_start)))))
set_option maxRecDepth 20000 in
theorem go_wo_X2_copyCells_0 : GoodIn wo_X2_copyCells (wsV RX2 46 RX2 yX2_cellAt wo_X2_cellAt) := goodIn_sub (fun _ h => (List.mem_cons_of_mem _ (List.mem_append_right _ (List.mem_append_left _ h)))) (by decide +kernel)
set_option maxRecDepth 20000 in
theorem go_wo_X2_copyCells_1 : GoodIn wo_X2_copyCells (wsV RX2 49 RX2 yX2_put wo_X2_put) := goodIn_sub (fun _ h => (List.mem_cons_of_mem _ (List.mem_append_right _ (List.mem_append_right _ (List.mem_append_left _ h))))) (by decide +kernel)
set_option maxRecDepth 20000 in
theorem go_wo_X2_copyCells_2 : GoodIn wo_X2_copyCells (wsV RX2 42 RX2 yX2_start wo_X2_start) := goodIn_sub (fun _ h => (List.mem_cons_of_mem _ (List.mem_append_right _ (List.mem_append_right _ (List.mem_append_right _ h))))) (by decide +kernel)
abbrev ww_X2_copyCells (dC : Nat → ClassId) (dI : Nat → Nat → Nat) (cI cJ cB : ClassId) (ra ra1 ra2 ra3 rb rb1 rb2 rb3 : Nat) (sz : Nat) (ra_n : Nat) (ra_u0 : Int32) (ra_c0 : Nat → Int32) (ra_l0 : Nat → Int32) (ra_o : Nat → Int32) (rb_n : Nat) (rb_u : Int32) (rb_c : Nat → Int32) (rb_l : Nat → Int32) (rb_o : Nat → Int32) (p0 : Int32) (p1 : Int32) (p2 : Int32) : va_W := [(ra, .inr (2, [.ref ra1, .ref ra2, .ref ra3, .int ra_u0])), (ra1, .inl (cI, ra_n * 20, .inl ra_c0)), (ra2, .inl (cI, ra_n, .inl ra_l0)), (ra3, .inl (cI, 21, .inl ra_o)), (rb, .inr (2, [.ref rb1, .ref rb2, .ref rb3, .int rb_u])), (rb1, .inl (cI, rb_n * 20, .inl rb_c)), (rb2, .inl (cI, rb_n, .inl rb_l)), (rb3, .inl (cI, 21, .inl rb_o))]
abbrev at_X2_copyCells (dC : Nat → ClassId) (dI : Nat → Nat → Nat) (cI cJ cB : ClassId) (ra ra1 ra2 ra3 rb rb1 rb2 rb3 : Nat) (sz : Nat) (ra_n : Nat) (ra_u0 : Int32) (ra_c0 : Nat → Int32) (ra_l0 : Nat → Int32) (ra_o : Nat → Int32) (rb_n : Nat) (rb_u : Int32) (rb_c : Nat → Int32) (rb_l : Nat → Int32) (rb_o : Nat → Int32) (p0 : Int32) (p1 : Int32) (p2 : Int32) (u : Int32 × (Nat → Int32) × (Nat → Int32)) (t : State) : Prop := match u with
  | (ra_u, ra_c, ra_l) => va_P (dC, dI) vwCl [(ra, .inr (2, [.ref ra1, .ref ra2, .ref ra3, .int ra_u])), (ra1, .inl (cI, ra_n * 20, .inl ra_c)), (ra2, .inl (cI, ra_n, .inl ra_l)), (ra3, .inl (cI, 21, .inl ra_o)), (rb, .inr (2, [.ref rb1, .ref rb2, .ref rb3, .int rb_u])), (rb1, .inl (cI, rb_n * 20, .inl rb_c)), (rb2, .inl (cI, rb_n, .inl rb_l)), (rb3, .inl (cI, 21, .inl rb_o))] t.heap ∧ va_K (dC, dI) vwCl (tyL cI cJ cB) t ∧ va_D (va_A (ww_X2_copyCells dC dI cI cJ cB ra ra1 ra2 ra3 rb rb1 rb2 rb3 sz ra_n ra_u0 ra_c0 ra_l0 ra_o rb_n rb_u rb_c rb_l rb_o p0 p1 p2) sz) [(ra, .inr (2, [.ref ra1, .ref ra2, .ref ra3, .int ra_u])), (ra1, .inl (cI, ra_n * 20, .inl ra_c)), (ra2, .inl (cI, ra_n, .inl ra_l)), (ra3, .inl (cI, 21, .inl ra_o)), (rb, .inr (2, [.ref rb1, .ref rb2, .ref rb3, .int rb_u])), (rb1, .inl (cI, rb_n * 20, .inl rb_c)), (rb2, .inl (cI, rb_n, .inl rb_l)), (rb3, .inl (cI, 21, .inl rb_o))]
abbrev qc_X2_copyCells (dC : Nat → ClassId) (dI : Nat → Nat → Nat) (cI cJ cB : ClassId) (ra ra1 ra2 ra3 rb rb1 rb2 rb3 : Nat) (sz : Nat) (ra_n : Nat) (ra_u0 : Int32) (ra_c0 : Nat → Int32) (ra_l0 : Nat → Int32) (ra_o : Nat → Int32) (rb_n : Nat) (rb_u : Int32) (rb_c : Nat → Int32) (rb_l : Nat → Int32) (rb_o : Nat → Int32) (p0 : Int32) (p1 : Int32) (p2 : Int32) : Array Value → State → Outcome → State → Prop := va_Qv (fun (u : Int32 × (Nat → Int32) × (Nat → Int32)) => match u with | (ra_u, ra_c, ra_l) => True) (at_X2_copyCells dC dI cI cJ cB ra ra1 ra2 ra3 rb rb1 rb2 rb3 sz ra_n ra_u0 ra_c0 ra_l0 ra_o rb_n rb_u rb_c rb_l rb_o p0 p1 p2) (va_A (ww_X2_copyCells dC dI cI cJ cB ra ra1 ra2 ra3 rb rb1 rb2 rb3 sz ra_n ra_u0 ra_c0 ra_l0 ra_o rb_n rb_u rb_c rb_l rb_o p0 p1 p2) sz)
abbrev pc_X2_copyCells (dC : Nat → ClassId) (dI : Nat → Nat → Nat) (cI cJ cB : ClassId) (ra ra1 ra2 ra3 rb rb1 rb2 rb3 : Nat) (sz : Nat) (ra_n : Nat) (ra_u0 : Int32) (ra_c0 : Nat → Int32) (ra_l0 : Nat → Int32) (ra_o : Nat → Int32) (rb_n : Nat) (rb_u : Int32) (rb_c : Nat → Int32) (rb_l : Nat → Int32) (rb_o : Nat → Int32) (p0 : Int32) (p1 : Int32) (p2 : Int32) : Array Value → State → Prop := va_Pc [.ref ra, .ref rb, .int p0, .int p1, .int p2] (fun U => U.heap.size = sz ∧ NW U ∧ va_P (dC, dI) vwCl (ww_X2_copyCells dC dI cI cJ cB ra ra1 ra2 ra3 rb rb1 rb2 rb3 sz ra_n ra_u0 ra_c0 ra_l0 ra_o rb_n rb_u rb_c rb_l rb_o p0 p1 p2) U.heap ∧ va_K (dC, dI) vwCl (tyL cI cJ cB) U ∧ va_D (fun _ => True) (ww_X2_copyCells dC dI cI cJ cB ra ra1 ra2 ra3 rb rb1 rb2 rb3 sz ra_n ra_u0 ra_c0 ra_l0 ra_o rb_n rb_u rb_c rb_l rb_o p0 p1 p2))
abbrev rm_X2_copyCells : Room := { frames := 1, cells := 0, slots := 0, locals := 23 }
abbrev WW_X2_copyCells (p : Program) (l : Launch) (e : Env) (s : State) (m : MethodId) (below : List Frame) (meth : Method) (c : Code) (dC : Nat → ClassId) (dI : Nat → Nat → Nat) (cI cJ cB : ClassId) (ra ra1 ra2 ra3 rb rb1 rb2 rb3 : Nat) (sz : Nat) (ra_n : Nat) (ra_u0 : Int32) (ra_c0 : Nat → Int32) (ra_l0 : Nat → Int32) (ra_o : Nat → Int32) (rb_n : Nat) (rb_u : Int32) (rb_c : Nat → Int32) (rb_l : Nat → Int32) (rb_o : Nat → Int32) (p0 : Int32) (p1 : Int32) (p2 : Int32) (H : Heap) (locs : List Loc) (g : JFrame) : Prop := W p l e rm_X2_copyCells s m ([.ref ra, .ref rb, .int p0, .int p1, .int p2] : List Value).toArray below meth c H locs 0 0 (MQ below (qc_X2_copyCells dC dI cI cJ cB ra ra1 ra2 ra3 rb rb1 rb2 rb3 sz ra_n ra_u0 ra_c0 ra_l0 ra_o rb_n rb_u rb_c rb_l rb_o p0 p1 p2) ([.ref ra, .ref rb, .int p0, .int p1, .int p2] : List Value).toArray s 0 0 (va_A (ww_X2_copyCells dC dI cI cJ cB ra ra1 ra2 ra3 rb rb1 rb2 rb3 sz ra_n ra_u0 ra_c0 ra_l0 ra_o rb_n rb_u rb_c rb_l rb_o p0 p1 p2) sz)) g
set_option maxHeartbeats 4000000 in
set_option maxRecDepth 100000 in
theorem c_X2_copyCells (l : Launch) (dC : Nat → ClassId) (dI : Nat → Nat → Nat) (cI cJ cB : ClassId) (ra ra1 ra2 ra3 rb rb1 rb2 rb3 : Nat) (sz : Nat) (ra_n : Nat) (ra_u0 : Int32) (ra_c0 : Nat → Int32) (ra_l0 : Nat → Int32) (ra_o : Nat → Int32) (rb_n : Nat) (rb_u : Int32) (rb_c : Nat → Int32) (rb_l : Nat → Int32) (rb_o : Nat → Int32) (p0 : Int32) (p1 : Int32) (p2 : Int32) (hn_ra : 1 ≤ ra_n ∧ ra_n ≤ 201) (hn_rb : 1 ≤ rb_n ∧ rb_n ≤ 201) : Met l yX2_copyCells wo_X2_copyCells rm_X2_copyCells (pc_X2_copyCells dC dI cI cJ cB ra ra1 ra2 ra3 rb rb1 rb2 rb3 sz ra_n ra_u0 ra_c0 ra_l0 ra_o rb_n rb_u rb_c rb_l rb_o p0 p1 p2) (qc_X2_copyCells dC dI cI cJ cB ra ra1 ra2 ra3 rb rb1 rb2 rb3 sz ra_n ra_u0 ra_c0 ra_l0 ra_o rb_n rb_u rb_c rb_l rb_o p0 p1 p2) 0 0 (va_A (ww_X2_copyCells dC dI cI cJ cB ra ra1 ra2 ra3 rb rb1 rb2 rb3 sz ra_n ra_u0 ra_c0 ra_l0 ra_o rb_n rb_u rb_c rb_l rb_o p0 p1 p2) sz) := by
  refine Met.ofW (cc := cX2_copyCells) (maxL := 6) (ret := none) (by decide) rfl ?_
  intro p e s m args below meth c s₁ B hml hv
  obtain ⟨rfl, hsz, hnw, hP, hK, hD0⟩ := hv
  have hx := B.exec
  have hb := B.bytes
  have hr := B.returns
  have hts := atoms_spec (ws := wo_X2_copyCells) B.pre
  have hown : s.vm.findClass RX2 = some m.cls := findClass_of_methodNamed B.named
  have hlocks := B.notSynchronized
  clear B
  subst hsz
  have hD := hD0.self (sz := s.heap.size)
  clear hD0
  have hA : ∀ q : Nat, s.heap.size ≤ q → (va_A (ww_X2_copyCells dC dI cI cJ cB ra ra1 ra2 ra3 rb rb1 rb2 rb3 s.heap.size ra_n ra_u0 ra_c0 ra_l0 ra_o rb_n rb_u rb_c rb_l rb_o p0 p1 p2) s.heap.size) q := fun q h => Or.inr h
  have hS : va_S (va_A (ww_X2_copyCells dC dI cI cJ cB ra ra1 ra2 ra3 rb rb1 rb2 rb3 s.heap.size ra_n ra_u0 ra_c0 ra_l0 ra_o rb_n rb_u rb_c rb_l rb_o p0 p1 p2) s.heap.size) s.heap s.heap [] := va_S.rf
  have hl := lv_entry ([.ref ra, .ref rb, .int p0, .int p1, .int p2]) (n := 6) (Nat.le_of_ble_eq_true rfl)
  rw [lg_entry_eq]
  generalize (lg_sl ([.ref ra, .ref rb, .int p0, .int p1, .int p2]) ++ List.replicate (6 - (lg_sl ([.ref ra, .ref rb, .int p0, .int p1, .int p2])).length) Slot.unset).toArray = ls at hl ⊢
  have hl : lv_has ls 6 [(0, .ref ra), (1, .ref rb), (2, .int p0), (3, .int p1), (4, .int p2)] := hl
  have hP : va_P (dC, dI) vwCl [(ra, .inr (2, [.ref ra1, .ref ra2, .ref ra3, .int ra_u0])), (ra1, .inl (cI, ra_n * 20, .inl ra_c0)), (ra2, .inl (cI, ra_n, .inl ra_l0)), (ra3, .inl (cI, 21, .inl ra_o)), (rb, .inr (2, [.ref rb1, .ref rb2, .ref rb3, .int rb_u])), (rb1, .inl (cI, rb_n * 20, .inl rb_c)), (rb2, .inl (cI, rb_n, .inl rb_l)), (rb3, .inl (cI, 21, .inl rb_o))] s.heap := hP
  have hD : va_D (va_A (ww_X2_copyCells dC dI cI cJ cB ra ra1 ra2 ra3 rb rb1 rb2 rb3 s.heap.size ra_n ra_u0 ra_c0 ra_l0 ra_o rb_n rb_u rb_c rb_l rb_o p0 p1 p2) s.heap.size) [(ra, .inr (2, [.ref ra1, .ref ra2, .ref ra3, .int ra_u0])), (ra1, .inl (cI, ra_n * 20, .inl ra_c0)), (ra2, .inl (cI, ra_n, .inl ra_l0)), (ra3, .inl (cI, 21, .inl ra_o)), (rb, .inr (2, [.ref rb1, .ref rb2, .ref rb3, .int rb_u])), (rb1, .inl (cI, rb_n * 20, .inl rb_c)), (rb2, .inl (cI, rb_n, .inl rb_l)), (rb3, .inl (cI, 21, .inl rb_o))] := hD
  obtain ⟨H, hH⟩ : ∃ H, H = s.heap := ⟨_, rfl⟩
  obtain ⟨locs, hlc⟩ : ∃ L : List Loc, L = [] := ⟨_, rfl⟩
  have hS : va_S (va_A (ww_X2_copyCells dC dI cI cJ cB ra ra1 ra2 ra3 rb rb1 rb2 rb3 s.heap.size ra_n ra_u0 ra_c0 ra_l0 ra_o rb_n rb_u rb_c rb_l rb_o p0 p1 p2) s.heap.size) s.heap H locs := by rw [hH, hlc]; exact hS
  have hP : va_P (dC, dI) vwCl [(ra, .inr (2, [.ref ra1, .ref ra2, .ref ra3, .int ra_u0])), (ra1, .inl (cI, ra_n * 20, .inl ra_c0)), (ra2, .inl (cI, ra_n, .inl ra_l0)), (ra3, .inl (cI, 21, .inl ra_o)), (rb, .inr (2, [.ref rb1, .ref rb2, .ref rb3, .int rb_u])), (rb1, .inl (cI, rb_n * 20, .inl rb_c)), (rb2, .inl (cI, rb_n, .inl rb_l)), (rb3, .inl (cI, 21, .inl rb_o))] H := by rw [hH]; exact hP
  suffices hgo : WW_X2_copyCells p l e s m below meth c dC dI cI cJ cB ra ra1 ra2 ra3 rb rb1 rb2 rb3 s.heap.size ra_n ra_u0 ra_c0 ra_l0 ra_o rb_n rb_u rb_c rb_l rb_o p0 p1 p2 H locs (F0 m 0 ls []) by rw [hH, hlc] at hgo; exact hgo
  clear hH hlc
  have L_10 : ∀ (N_10 : Nat), ∀ (x5 : Int32) (ra_u : Int32) (ra_c : Nat → Int32) (ra_l : Nat → Int32), ((2147483647 - x5.toInt).toNat) < N_10 → ∀ (H : Heap) (locs : List Loc), va_P (dC, dI) vwCl [(ra, .inr (2, [.ref ra1, .ref ra2, .ref ra3, .int ra_u])), (ra1, .inl (cI, ra_n * 20, .inl ra_c)), (ra2, .inl (cI, ra_n, .inl ra_l)), (ra3, .inl (cI, 21, .inl ra_o)), (rb, .inr (2, [.ref rb1, .ref rb2, .ref rb3, .int rb_u])), (rb1, .inl (cI, rb_n * 20, .inl rb_c)), (rb2, .inl (cI, rb_n, .inl rb_l)), (rb3, .inl (cI, 21, .inl rb_o))] H → va_D (va_A (ww_X2_copyCells dC dI cI cJ cB ra ra1 ra2 ra3 rb rb1 rb2 rb3 s.heap.size ra_n ra_u0 ra_c0 ra_l0 ra_o rb_n rb_u rb_c rb_l rb_o p0 p1 p2) s.heap.size) [(ra, .inr (2, [.ref ra1, .ref ra2, .ref ra3, .int ra_u])), (ra1, .inl (cI, ra_n * 20, .inl ra_c)), (ra2, .inl (cI, ra_n, .inl ra_l)), (ra3, .inl (cI, 21, .inl ra_o)), (rb, .inr (2, [.ref rb1, .ref rb2, .ref rb3, .int rb_u])), (rb1, .inl (cI, rb_n * 20, .inl rb_c)), (rb2, .inl (cI, rb_n, .inl rb_l)), (rb3, .inl (cI, 21, .inl rb_o))] → va_S (va_A (ww_X2_copyCells dC dI cI cJ cB ra ra1 ra2 ra3 rb rb1 rb2 rb3 s.heap.size ra_n ra_u0 ra_c0 ra_l0 ra_o rb_n rb_u rb_c rb_l rb_o p0 p1 p2) s.heap.size) s.heap H locs → ∀ ls : Array Slot, lv_has ls 6 [(0, .ref ra), (1, .ref rb), (2, .int p0), (3, .int p1), (4, .int p2), (5, .int x5)] → WW_X2_copyCells p l e s m below meth c dC dI cI cJ cB ra ra1 ra2 ra3 rb rb1 rb2 rb3 s.heap.size ra_n ra_u0 ra_c0 ra_l0 ra_o rb_n rb_u rb_c rb_l rb_o p0 p1 p2 H locs (F0 m 10 ls []) := by
    intro N_10
    induction N_10 with
    | zero => intro x5 ra_u ra_c ra_l  hm; exact absurd hm (Nat.not_lt_zero _)
    | succ N_10 ih_10 =>
      intro x5 ra_u ra_c ra_l  hm_10 H locs hP hD hS ls hl
      refine lv_iload hx hb dX2_copyCells_10 (lv_at hl 5 rfl) ?_
      refine lv_iload hx hb dX2_copyCells_12 (lv_at hl 4 rfl) ?_
      refine lv_icmp_ge (tgt := 43) hx hb dX2_copyCells_14 (by decide) (fun c_1 => ?_) (fun c_1 => ?_)
      · have tc_1 : p2.toInt ≤ x5.toInt := tb_ge_t c_1
        have := ti_rng x5
        have := ti_rng p2
        have hP9 := hP.sub (ws' := [(ra, .inr (2, [.ref ra1, .ref ra2, .ref ra3, .int ra_u])), (ra1, .inl (cI, ra_n * 20, .inl ra_c)), (ra2, .inl (cI, ra_n, .inl ra_l)), (ra3, .inl (cI, 21, .inl ra_o)), (rb, .inr (2, [.ref rb1, .ref rb2, .ref rb3, .int rb_u])), (rb1, .inl (cI, rb_n * 20, .inl rb_c)), (rb2, .inl (cI, rb_n, .inl rb_l)), (rb3, .inl (cI, 21, .inl rb_o))]) [0, 1, 2, 3, 4, 5, 6, 7] rfl
        have hD9 := hD.sub (ws' := [(ra, .inr (2, [.ref ra1, .ref ra2, .ref ra3, .int ra_u])), (ra1, .inl (cI, ra_n * 20, .inl ra_c)), (ra2, .inl (cI, ra_n, .inl ra_l)), (ra3, .inl (cI, 21, .inl ra_o)), (rb, .inr (2, [.ref rb1, .ref rb2, .ref rb3, .int rb_u])), (rb1, .inl (cI, rb_n * 20, .inl rb_c)), (rb2, .inl (cI, rb_n, .inl rb_l)), (rb3, .inl (cI, 21, .inl rb_o))]) [0, 1, 2, 3, 4, 5, 6, 7] (by decide) rfl
        exact W.vret hx hb hr (fun t ht hW => ⟨⟨(ra_u, ra_c, ra_l), rfl, trivial, by rw [ht]; exact hP9, va_K.moved hW.alike hK, hD9⟩, hS.F ht⟩) hS.2.2 dX2_copyCells_43
      · have tc_1 : x5.toInt < p2.toInt := tb_ge_f c_1
        have := ti_rng x5
        have := ti_rng p2
        refine lv_iload hx hb dX2_copyCells_17 (lv_at hl 5 rfl) ?_
        refine lv_bipush (v := 20) hx hb dX2_copyCells_19 (by decide) ?_
        refine lv_icmp_ge (tgt := 43) hx hb dX2_copyCells_21 (by decide) (fun c_2 => ?_) (fun c_2 => ?_)
        · have tc_2 : 20 ≤ x5.toInt := tb_ge_t c_2
          have hP9 := hP.sub (ws' := [(ra, .inr (2, [.ref ra1, .ref ra2, .ref ra3, .int ra_u])), (ra1, .inl (cI, ra_n * 20, .inl ra_c)), (ra2, .inl (cI, ra_n, .inl ra_l)), (ra3, .inl (cI, 21, .inl ra_o)), (rb, .inr (2, [.ref rb1, .ref rb2, .ref rb3, .int rb_u])), (rb1, .inl (cI, rb_n * 20, .inl rb_c)), (rb2, .inl (cI, rb_n, .inl rb_l)), (rb3, .inl (cI, 21, .inl rb_o))]) [0, 1, 2, 3, 4, 5, 6, 7] rfl
          have hD9 := hD.sub (ws' := [(ra, .inr (2, [.ref ra1, .ref ra2, .ref ra3, .int ra_u])), (ra1, .inl (cI, ra_n * 20, .inl ra_c)), (ra2, .inl (cI, ra_n, .inl ra_l)), (ra3, .inl (cI, 21, .inl ra_o)), (rb, .inr (2, [.ref rb1, .ref rb2, .ref rb3, .int rb_u])), (rb1, .inl (cI, rb_n * 20, .inl rb_c)), (rb2, .inl (cI, rb_n, .inl rb_l)), (rb3, .inl (cI, 21, .inl rb_o))]) [0, 1, 2, 3, 4, 5, 6, 7] (by decide) rfl
          exact W.vret hx hb hr (fun t ht hW => ⟨⟨(ra_u, ra_c, ra_l), rfl, trivial, by rw [ht]; exact hP9, va_K.moved hW.alike hK, hD9⟩, hS.F ht⟩) hS.2.2 dX2_copyCells_43
        · have tc_2 : x5.toInt < 20 := tb_ge_f c_2
          refine lv_aload_n hx hb dX2_copyCells_24 rfl (lv_at hl 0 rfl) ?_
          refine lv_aload_n hx hb dX2_copyCells_25 rfl (lv_at hl 1 rfl) ?_
          refine lv_iload_n hx hb dX2_copyCells_26 rfl (lv_at hl 2 rfl) ?_
          refine lv_iload_n hx hb dX2_copyCells_27 rfl (lv_at hl 3 rfl) ?_
          refine lv_iload hx hb dX2_copyCells_28 (lv_at hl 5 rfl) ?_
          refine lv_iadd hx hb dX2_copyCells_30 ?_
          refine lv_topi (fun y_3 ey_3 => ?_)
          have hPc := hP.sub (ws' := [(rb, .inr (2, [.ref rb1, .ref rb2, .ref rb3, .int rb_u])), (rb1, .inl (cI, rb_n * 20, .inl rb_c)), (rb2, .inl (cI, rb_n, .inl rb_l)), (rb3, .inl (cI, 21, .inl rb_o))]) [4, 5, 6, 7] rfl
          have hDc := hD.sub (ws' := [(rb, .inr (2, [.ref rb1, .ref rb2, .ref rb3, .int rb_u])), (rb1, .inl (cI, rb_n * 20, .inl rb_c)), (rb2, .inl (cI, rb_n, .inl rb_l)), (rb3, .inl (cI, 21, .inl rb_o))]) [4, 5, 6, 7] (by decide) rfl
          have hFc := va_free (wc := [(rb, .inr (2, [.ref rb1, .ref rb2, .ref rb3, .int rb_u])), (rb1, .inl (cI, rb_n * 20, .inl rb_c)), (rb2, .inl (cI, rb_n, .inl rb_l)), (rb3, .inl (cI, 21, .inl rb_o))]) hD hS hA [4, 5, 6, 7] rfl
          refine va_calli (va_runV (As := [.int p0, .int y_3]) (rest := [.ref ra]) ⟨hx, hb, hml, hown, hts⟩ (c_X2_cellAt l dC dI cI cJ cB rb rb1 rb2 rb3 H.size rb_n rb_u rb_c rb_l rb_o p0 y_3 (by first | assumption | omega | decide | (simp only [lt0, lt1, ltm1, lt400] at *; omega))) (cwV 2 hts go_wo_X2_copyCells_0 rfl rfl rfl (by decide +kernel) ⟨Nat.le_of_ble_eq_true rfl, Nat.le_of_ble_eq_true rfl⟩) ⟨fun a U g mk q => by obtain ⟨q0, q1, qN, qP, qK, qD⟩ := q; exact ⟨q0, q1, NW.calling qN, qP, va_K.moved (u := U) (U := U.calling g mk a) (Vm.Alike.refl U.vm) qK, qD⟩, va_recv hK hPc (ci := 2) (q0 := 0) rfl rfl, fun U hU hW => ⟨rfl, by rw [hU], NW.warm hW hnw, by rw [hU]; exact hPc, va_K.moved hW.alike hK, hDc.weaken (fun _ _ _ _ => trivial)⟩⟩ rfl rfl hl.1 rfl (lv_room (Nat.le_of_ble_eq_true rfl)) dX2_copyCells_31 ⟨Nat.zero_le _, Nat.zero_le _⟩) hS (fun q _ h => hFc q h) hFc (fun r_4 u t H1 locs ht hvm hw hB hz1 hk1 hS => ?_)
          cases u
          obtain ⟨hP1, hK1, hD1⟩ := hB
          rw [ht] at hP1
          clear hw
          obtain ⟨hP, hD⟩ := va_join (wr := [(ra, .inr (2, [.ref ra1, .ref ra2, .ref ra3, .int ra_u])), (ra1, .inl (cI, ra_n * 20, .inl ra_c)), (ra2, .inl (cI, ra_n, .inl ra_l)), (ra3, .inl (cI, 21, .inl ra_o))]) (w1 := [(rb, .inr (2, [.ref rb1, .ref rb2, .ref rb3, .int rb_u])), (rb1, .inl (cI, rb_n * 20, .inl rb_c)), (rb2, .inl (cI, rb_n, .inl rb_l)), (rb3, .inl (cI, 21, .inl rb_o))]) hP hD [4, 5, 6, 7] [0, 1, 2, 3] rfl rfl (by decide) (by decide) hk1 hFc hP1 hD1
          generalize H1 = H at hP hS ⊢
          have hP : va_P (dC, dI) vwCl [(ra, .inr (2, [.ref ra1, .ref ra2, .ref ra3, .int ra_u])), (ra1, .inl (cI, ra_n * 20, .inl ra_c)), (ra2, .inl (cI, ra_n, .inl ra_l)), (ra3, .inl (cI, 21, .inl ra_o)), (rb, .inr (2, [.ref rb1, .ref rb2, .ref rb3, .int rb_u])), (rb1, .inl (cI, rb_n * 20, .inl rb_c)), (rb2, .inl (cI, rb_n, .inl rb_l)), (rb3, .inl (cI, 21, .inl rb_o))] H := hP
          have hD : va_D (va_A (ww_X2_copyCells dC dI cI cJ cB ra ra1 ra2 ra3 rb rb1 rb2 rb3 s.heap.size ra_n ra_u0 ra_c0 ra_l0 ra_o rb_n rb_u rb_c rb_l rb_o p0 p1 p2) s.heap.size) [(ra, .inr (2, [.ref ra1, .ref ra2, .ref ra3, .int ra_u])), (ra1, .inl (cI, ra_n * 20, .inl ra_c)), (ra2, .inl (cI, ra_n, .inl ra_l)), (ra3, .inl (cI, 21, .inl ra_o)), (rb, .inr (2, [.ref rb1, .ref rb2, .ref rb3, .int rb_u])), (rb1, .inl (cI, rb_n * 20, .inl rb_c)), (rb2, .inl (cI, rb_n, .inl rb_l)), (rb3, .inl (cI, 21, .inl rb_o))] := hD
          clear hPc hDc hFc hP1 hK1 hD1 hk1 hz1 ht hvm
          have hPc := hP.sub (ws' := [(ra, .inr (2, [.ref ra1, .ref ra2, .ref ra3, .int ra_u])), (ra1, .inl (cI, ra_n * 20, .inl ra_c)), (ra2, .inl (cI, ra_n, .inl ra_l)), (ra3, .inl (cI, 21, .inl ra_o))]) [0, 1, 2, 3] rfl
          have hDc := hD.sub (ws' := [(ra, .inr (2, [.ref ra1, .ref ra2, .ref ra3, .int ra_u])), (ra1, .inl (cI, ra_n * 20, .inl ra_c)), (ra2, .inl (cI, ra_n, .inl ra_l)), (ra3, .inl (cI, 21, .inl ra_o))]) [0, 1, 2, 3] (by decide) rfl
          have hFc := va_free (wc := [(ra, .inr (2, [.ref ra1, .ref ra2, .ref ra3, .int ra_u])), (ra1, .inl (cI, ra_n * 20, .inl ra_c)), (ra2, .inl (cI, ra_n, .inl ra_l)), (ra3, .inl (cI, 21, .inl ra_o))]) hD hS hA [0, 1, 2, 3] rfl
          refine va_callv (va_runV (As := [.int r_4]) (rest := []) ⟨hx, hb, hml, hown, hts⟩ (c_X2_put l dC dI cI cJ cB ra ra1 ra2 ra3 H.size ra_n ra_u ra_c ra_l ra_o r_4 (by first | assumption | omega | decide | (simp only [lt0, lt1, ltm1, lt400] at *; omega))) (cwV 1 hts go_wo_X2_copyCells_1 rfl rfl rfl (by decide +kernel) ⟨Nat.le_of_ble_eq_true rfl, Nat.le_of_ble_eq_true rfl⟩) ⟨fun a U g mk q => by obtain ⟨q0, q1, qN, qP, qK, qD⟩ := q; exact ⟨q0, q1, NW.calling qN, qP, va_K.moved (u := U) (U := U.calling g mk a) (Vm.Alike.refl U.vm) qK, qD⟩, va_recv hK hPc (ci := 2) (q0 := 0) rfl rfl, fun U hU hW => ⟨rfl, by rw [hU], NW.warm hW hnw, by rw [hU]; exact hPc, va_K.moved hW.alike hK, hDc.weaken (fun _ _ _ _ => trivial)⟩⟩ rfl rfl hl.1 rfl (lv_room (Nat.le_of_ble_eq_true rfl)) dX2_copyCells_34 ⟨Nat.zero_le _, Nat.zero_le _⟩) hS (fun q _ h => hFc q h) hFc (fun u t H1 locs ht hvm hw hB hz1 hk1 hS => ?_)
          obtain ⟨ra_c_6, ra_l_7⟩ := u
          obtain ⟨hP1, hK1, hD1⟩ := hB
          rw [ht] at hP1
          clear hw
          obtain ⟨hP, hD⟩ := va_join (wr := [(rb, .inr (2, [.ref rb1, .ref rb2, .ref rb3, .int rb_u])), (rb1, .inl (cI, rb_n * 20, .inl rb_c)), (rb2, .inl (cI, rb_n, .inl rb_l)), (rb3, .inl (cI, 21, .inl rb_o))]) (w1 := [(ra, .inr (2, [.ref ra1, .ref ra2, .ref ra3, .int ra_u])), (ra1, .inl (cI, ra_n * 20, .inl ra_c_6)), (ra2, .inl (cI, ra_n, .inl ra_l_7)), (ra3, .inl (cI, 21, .inl ra_o))]) hP hD [0, 1, 2, 3] [4, 5, 6, 7] rfl rfl (by decide) (by decide) hk1 hFc hP1 hD1
          generalize H1 = H at hP hS ⊢
          have hP : va_P (dC, dI) vwCl [(rb, .inr (2, [.ref rb1, .ref rb2, .ref rb3, .int rb_u])), (rb1, .inl (cI, rb_n * 20, .inl rb_c)), (rb2, .inl (cI, rb_n, .inl rb_l)), (rb3, .inl (cI, 21, .inl rb_o)), (ra, .inr (2, [.ref ra1, .ref ra2, .ref ra3, .int ra_u])), (ra1, .inl (cI, ra_n * 20, .inl ra_c_6)), (ra2, .inl (cI, ra_n, .inl ra_l_7)), (ra3, .inl (cI, 21, .inl ra_o))] H := hP
          have hD : va_D (va_A (ww_X2_copyCells dC dI cI cJ cB ra ra1 ra2 ra3 rb rb1 rb2 rb3 s.heap.size ra_n ra_u0 ra_c0 ra_l0 ra_o rb_n rb_u rb_c rb_l rb_o p0 p1 p2) s.heap.size) [(rb, .inr (2, [.ref rb1, .ref rb2, .ref rb3, .int rb_u])), (rb1, .inl (cI, rb_n * 20, .inl rb_c)), (rb2, .inl (cI, rb_n, .inl rb_l)), (rb3, .inl (cI, 21, .inl rb_o)), (ra, .inr (2, [.ref ra1, .ref ra2, .ref ra3, .int ra_u])), (ra1, .inl (cI, ra_n * 20, .inl ra_c_6)), (ra2, .inl (cI, ra_n, .inl ra_l_7)), (ra3, .inl (cI, 21, .inl ra_o))] := hD
          clear hPc hDc hFc hP1 hK1 hD1 hk1 hz1 ht hvm
          obtain ⟨x5_8, ex5_8⟩ : ∃ y : Int32, y = x5 + (1) := ⟨_, rfl⟩
          refine lv_iinc (v := x5_8) (lv' := [(5, .int x5_8), (0, .ref ra), (1, .ref rb), (2, .int p0), (3, .int p1), (4, .int p2)]) hx hb dX2_copyCells_37 hl (k := 5) rfl (by rw [ex5_8]; rfl) (by decide) rfl (fun ls hl => ?_)
          have := ti_rng x5
          have tex5_8 : x5_8.toInt = x5.toInt + (1) := ti_inc ex5_8 (by decide) (by omega) (by omega)
          refine lv_goto (tgt := 10) hx hb dX2_copyCells_40 (by decide) ?_
          exact ih_10 x5_8 ra_u ra_c_6 ra_l_7 (by omega) _ _ (hP.sub [4, 5, 6, 7, 0, 1, 2, 3] rfl) (hD.sub [4, 5, 6, 7, 0, 1, 2, 3] (by decide) rfl) hS ls (lv_sub hl [1, 2, 3, 4, 5, 0] rfl)
  refine lv_aload_n hx hb dX2_copyCells_0 rfl (lv_at hl 0 rfl) ?_
  have hPc := hP.sub (ws' := [(ra, .inr (2, [.ref ra1, .ref ra2, .ref ra3, .int ra_u0])), (ra1, .inl (cI, ra_n * 20, .inl ra_c0)), (ra2, .inl (cI, ra_n, .inl ra_l0)), (ra3, .inl (cI, 21, .inl ra_o))]) [0, 1, 2, 3] rfl
  have hDc := hD.sub (ws' := [(ra, .inr (2, [.ref ra1, .ref ra2, .ref ra3, .int ra_u0])), (ra1, .inl (cI, ra_n * 20, .inl ra_c0)), (ra2, .inl (cI, ra_n, .inl ra_l0)), (ra3, .inl (cI, 21, .inl ra_o))]) [0, 1, 2, 3] (by decide) rfl
  have hFc := va_free (wc := [(ra, .inr (2, [.ref ra1, .ref ra2, .ref ra3, .int ra_u0])), (ra1, .inl (cI, ra_n * 20, .inl ra_c0)), (ra2, .inl (cI, ra_n, .inl ra_l0)), (ra3, .inl (cI, 21, .inl ra_o))]) hD hS hA [0, 1, 2, 3] rfl
  refine va_calli (va_runV (As := []) (rest := []) ⟨hx, hb, hml, hown, hts⟩ (c_X2_start l dC dI cI cJ cB ra ra1 ra2 ra3 H.size ra_n ra_u0 ra_c0 ra_l0 ra_o (by first | assumption | omega | decide | (simp only [lt0, lt1, ltm1, lt400] at *; omega))) (cwV 0 hts go_wo_X2_copyCells_2 rfl rfl rfl (by decide +kernel) ⟨Nat.le_of_ble_eq_true rfl, Nat.le_of_ble_eq_true rfl⟩) ⟨fun a U g mk q => by obtain ⟨q0, q1, qN, qP, qK, qD⟩ := q; exact ⟨q0, q1, NW.calling qN, qP, va_K.moved (u := U) (U := U.calling g mk a) (Vm.Alike.refl U.vm) qK, qD⟩, va_recv hK hPc (ci := 2) (q0 := 0) rfl rfl, fun U hU hW => ⟨rfl, by rw [hU], NW.warm hW hnw, by rw [hU]; exact hPc, va_K.moved hW.alike hK, hDc.weaken (fun _ _ _ _ => trivial)⟩⟩ rfl rfl hl.1 rfl (lv_room (Nat.le_of_ble_eq_true rfl)) dX2_copyCells_1 ⟨Nat.zero_le _, Nat.zero_le _⟩) hS (fun q _ h => hFc q h) hFc (fun r_9 u t H1 locs ht hvm hw hB hz1 hk1 hS => ?_)
  obtain ⟨ra_u_10, ra_l_11⟩ := u
  obtain ⟨hP1, hK1, hD1⟩ := hB
  rw [ht] at hP1
  have hw : (r_9 = 0 ∨ r_9 = 1) := hw
  have h_12 := hw
  obtain ⟨hP, hD⟩ := va_join (wr := [(rb, .inr (2, [.ref rb1, .ref rb2, .ref rb3, .int rb_u])), (rb1, .inl (cI, rb_n * 20, .inl rb_c)), (rb2, .inl (cI, rb_n, .inl rb_l)), (rb3, .inl (cI, 21, .inl rb_o))]) (w1 := [(ra, .inr (2, [.ref ra1, .ref ra2, .ref ra3, .int ra_u_10])), (ra1, .inl (cI, ra_n * 20, .inl ra_c0)), (ra2, .inl (cI, ra_n, .inl ra_l_11)), (ra3, .inl (cI, 21, .inl ra_o))]) hP hD [0, 1, 2, 3] [4, 5, 6, 7] rfl rfl (by decide) (by decide) hk1 hFc hP1 hD1
  generalize H1 = H at hP hS ⊢
  have hP : va_P (dC, dI) vwCl [(rb, .inr (2, [.ref rb1, .ref rb2, .ref rb3, .int rb_u])), (rb1, .inl (cI, rb_n * 20, .inl rb_c)), (rb2, .inl (cI, rb_n, .inl rb_l)), (rb3, .inl (cI, 21, .inl rb_o)), (ra, .inr (2, [.ref ra1, .ref ra2, .ref ra3, .int ra_u_10])), (ra1, .inl (cI, ra_n * 20, .inl ra_c0)), (ra2, .inl (cI, ra_n, .inl ra_l_11)), (ra3, .inl (cI, 21, .inl ra_o))] H := hP
  have hD : va_D (va_A (ww_X2_copyCells dC dI cI cJ cB ra ra1 ra2 ra3 rb rb1 rb2 rb3 s.heap.size ra_n ra_u0 ra_c0 ra_l0 ra_o rb_n rb_u rb_c rb_l rb_o p0 p1 p2) s.heap.size) [(rb, .inr (2, [.ref rb1, .ref rb2, .ref rb3, .int rb_u])), (rb1, .inl (cI, rb_n * 20, .inl rb_c)), (rb2, .inl (cI, rb_n, .inl rb_l)), (rb3, .inl (cI, 21, .inl rb_o)), (ra, .inr (2, [.ref ra1, .ref ra2, .ref ra3, .int ra_u_10])), (ra1, .inl (cI, ra_n * 20, .inl ra_c0)), (ra2, .inl (cI, ra_n, .inl ra_l_11)), (ra3, .inl (cI, 21, .inl ra_o))] := hD
  clear hPc hDc hFc hP1 hK1 hD1 hk1 hz1 ht hvm
  refine lv_if_eq (tgt := 43) hx hb dX2_copyCells_4 (by decide) (fun c_13 => ?_) (fun c_13 => ?_)
  · have tc_13 : r_9.toInt = 0 := tb_eq_t c_13
    have hP9 := hP.sub (ws' := [(ra, .inr (2, [.ref ra1, .ref ra2, .ref ra3, .int ra_u_10])), (ra1, .inl (cI, ra_n * 20, .inl ra_c0)), (ra2, .inl (cI, ra_n, .inl ra_l_11)), (ra3, .inl (cI, 21, .inl ra_o)), (rb, .inr (2, [.ref rb1, .ref rb2, .ref rb3, .int rb_u])), (rb1, .inl (cI, rb_n * 20, .inl rb_c)), (rb2, .inl (cI, rb_n, .inl rb_l)), (rb3, .inl (cI, 21, .inl rb_o))]) [4, 5, 6, 7, 0, 1, 2, 3] rfl
    have hD9 := hD.sub (ws' := [(ra, .inr (2, [.ref ra1, .ref ra2, .ref ra3, .int ra_u_10])), (ra1, .inl (cI, ra_n * 20, .inl ra_c0)), (ra2, .inl (cI, ra_n, .inl ra_l_11)), (ra3, .inl (cI, 21, .inl ra_o)), (rb, .inr (2, [.ref rb1, .ref rb2, .ref rb3, .int rb_u])), (rb1, .inl (cI, rb_n * 20, .inl rb_c)), (rb2, .inl (cI, rb_n, .inl rb_l)), (rb3, .inl (cI, 21, .inl rb_o))]) [4, 5, 6, 7, 0, 1, 2, 3] (by decide) rfl
    exact W.vret hx hb hr (fun t ht hW => ⟨⟨(ra_u_10, ra_c0, ra_l_11), rfl, trivial, by rw [ht]; exact hP9, va_K.moved hW.alike hK, hD9⟩, hS.F ht⟩) hS.2.2 dX2_copyCells_43
  · have tc_13 : ¬ (r_9.toInt = 0) := tb_eq_f c_13
    refine lv_iconst (v := 0) hx hb dX2_copyCells_7 (by decide) ?_
    refine lv_istore (lv' := [(5, .int ((0 : Int32))), (0, .ref ra), (1, .ref rb), (2, .int p0), (3, .int p1), (4, .int p2)]) hx hb dX2_copyCells_8 hl (by decide) rfl (fun ls hl => ?_)
    exact L_10 (((2147483647 - ((0 : Int32)).toInt).toNat) + 1) ((0 : Int32)) ra_u_10 ra_c0 ra_l_11 (Nat.lt_succ_self _) _ _ (hP.sub [4, 5, 6, 7, 0, 1, 2, 3] rfl) (hD.sub [4, 5, 6, 7, 0, 1, 2, 3] (by decide) rfl) hS ls (lv_sub hl [1, 2, 3, 4, 5, 0] rfl)
def wo_X2_copy : List Cond := .code yX2_copy cX2_copy 3 none :: (([] : List Cond) ++ ((wsV RX2 34 RX2 yX2_lengthOf wo_X2_lengthOf) ++ ((wsV RX2 38 RX2 yX2_copyCells wo_X2_copyCells))))
set_option maxRecDepth 20000 in
theorem go_wo_X2_copy_0 : GoodIn wo_X2_copy (wsV RX2 34 RX2 yX2_lengthOf wo_X2_lengthOf) := goodIn_sub (fun _ h => (List.mem_cons_of_mem _ (List.mem_append_right _ (List.mem_append_left _ h)))) (by decide +kernel)
set_option maxRecDepth 20000 in
theorem go_wo_X2_copy_1 : GoodIn wo_X2_copy (wsV RX2 38 RX2 yX2_copyCells wo_X2_copyCells) := goodIn_sub (fun _ h => (List.mem_cons_of_mem _ (List.mem_append_right _ (List.mem_append_right _ h)))) (by decide +kernel)
abbrev ww_X2_copy (dC : Nat → ClassId) (dI : Nat → Nat → Nat) (cI cJ cB : ClassId) (ra ra1 ra2 ra3 rb rb1 rb2 rb3 : Nat) (sz : Nat) (ra_n : Nat) (ra_u0 : Int32) (ra_c0 : Nat → Int32) (ra_l0 : Nat → Int32) (ra_o : Nat → Int32) (rb_n : Nat) (rb_u : Int32) (rb_c : Nat → Int32) (rb_l : Nat → Int32) (rb_o : Nat → Int32) (p0 : Int32) : va_W := [(ra, .inr (2, [.ref ra1, .ref ra2, .ref ra3, .int ra_u0])), (ra1, .inl (cI, ra_n * 20, .inl ra_c0)), (ra2, .inl (cI, ra_n, .inl ra_l0)), (ra3, .inl (cI, 21, .inl ra_o)), (rb, .inr (2, [.ref rb1, .ref rb2, .ref rb3, .int rb_u])), (rb1, .inl (cI, rb_n * 20, .inl rb_c)), (rb2, .inl (cI, rb_n, .inl rb_l)), (rb3, .inl (cI, 21, .inl rb_o))]
abbrev at_X2_copy (dC : Nat → ClassId) (dI : Nat → Nat → Nat) (cI cJ cB : ClassId) (ra ra1 ra2 ra3 rb rb1 rb2 rb3 : Nat) (sz : Nat) (ra_n : Nat) (ra_u0 : Int32) (ra_c0 : Nat → Int32) (ra_l0 : Nat → Int32) (ra_o : Nat → Int32) (rb_n : Nat) (rb_u : Int32) (rb_c : Nat → Int32) (rb_l : Nat → Int32) (rb_o : Nat → Int32) (p0 : Int32) (u : Int32 × (Nat → Int32) × (Nat → Int32)) (t : State) : Prop := match u with
  | (ra_u, ra_c, ra_l) => va_P (dC, dI) vwCl [(ra, .inr (2, [.ref ra1, .ref ra2, .ref ra3, .int ra_u])), (ra1, .inl (cI, ra_n * 20, .inl ra_c)), (ra2, .inl (cI, ra_n, .inl ra_l)), (ra3, .inl (cI, 21, .inl ra_o)), (rb, .inr (2, [.ref rb1, .ref rb2, .ref rb3, .int rb_u])), (rb1, .inl (cI, rb_n * 20, .inl rb_c)), (rb2, .inl (cI, rb_n, .inl rb_l)), (rb3, .inl (cI, 21, .inl rb_o))] t.heap ∧ va_K (dC, dI) vwCl (tyL cI cJ cB) t ∧ va_D (va_A (ww_X2_copy dC dI cI cJ cB ra ra1 ra2 ra3 rb rb1 rb2 rb3 sz ra_n ra_u0 ra_c0 ra_l0 ra_o rb_n rb_u rb_c rb_l rb_o p0) sz) [(ra, .inr (2, [.ref ra1, .ref ra2, .ref ra3, .int ra_u])), (ra1, .inl (cI, ra_n * 20, .inl ra_c)), (ra2, .inl (cI, ra_n, .inl ra_l)), (ra3, .inl (cI, 21, .inl ra_o)), (rb, .inr (2, [.ref rb1, .ref rb2, .ref rb3, .int rb_u])), (rb1, .inl (cI, rb_n * 20, .inl rb_c)), (rb2, .inl (cI, rb_n, .inl rb_l)), (rb3, .inl (cI, 21, .inl rb_o))]
abbrev qc_X2_copy (dC : Nat → ClassId) (dI : Nat → Nat → Nat) (cI cJ cB : ClassId) (ra ra1 ra2 ra3 rb rb1 rb2 rb3 : Nat) (sz : Nat) (ra_n : Nat) (ra_u0 : Int32) (ra_c0 : Nat → Int32) (ra_l0 : Nat → Int32) (ra_o : Nat → Int32) (rb_n : Nat) (rb_u : Int32) (rb_c : Nat → Int32) (rb_l : Nat → Int32) (rb_o : Nat → Int32) (p0 : Int32) : Array Value → State → Outcome → State → Prop := va_Qv (fun (u : Int32 × (Nat → Int32) × (Nat → Int32)) => match u with | (ra_u, ra_c, ra_l) => True) (at_X2_copy dC dI cI cJ cB ra ra1 ra2 ra3 rb rb1 rb2 rb3 sz ra_n ra_u0 ra_c0 ra_l0 ra_o rb_n rb_u rb_c rb_l rb_o p0) (va_A (ww_X2_copy dC dI cI cJ cB ra ra1 ra2 ra3 rb rb1 rb2 rb3 sz ra_n ra_u0 ra_c0 ra_l0 ra_o rb_n rb_u rb_c rb_l rb_o p0) sz)
abbrev pc_X2_copy (dC : Nat → ClassId) (dI : Nat → Nat → Nat) (cI cJ cB : ClassId) (ra ra1 ra2 ra3 rb rb1 rb2 rb3 : Nat) (sz : Nat) (ra_n : Nat) (ra_u0 : Int32) (ra_c0 : Nat → Int32) (ra_l0 : Nat → Int32) (ra_o : Nat → Int32) (rb_n : Nat) (rb_u : Int32) (rb_c : Nat → Int32) (rb_l : Nat → Int32) (rb_o : Nat → Int32) (p0 : Int32) : Array Value → State → Prop := va_Pc [.ref ra, .ref rb, .int p0] (fun U => U.heap.size = sz ∧ NW U ∧ va_P (dC, dI) vwCl (ww_X2_copy dC dI cI cJ cB ra ra1 ra2 ra3 rb rb1 rb2 rb3 sz ra_n ra_u0 ra_c0 ra_l0 ra_o rb_n rb_u rb_c rb_l rb_o p0) U.heap ∧ va_K (dC, dI) vwCl (tyL cI cJ cB) U ∧ va_D (fun _ => True) (ww_X2_copy dC dI cI cJ cB ra ra1 ra2 ra3 rb rb1 rb2 rb3 sz ra_n ra_u0 ra_c0 ra_l0 ra_o rb_n rb_u rb_c rb_l rb_o p0))
abbrev rm_X2_copy : Room := { frames := 2, cells := 0, slots := 0, locals := 48 }
abbrev WW_X2_copy (p : Program) (l : Launch) (e : Env) (s : State) (m : MethodId) (below : List Frame) (meth : Method) (c : Code) (dC : Nat → ClassId) (dI : Nat → Nat → Nat) (cI cJ cB : ClassId) (ra ra1 ra2 ra3 rb rb1 rb2 rb3 : Nat) (sz : Nat) (ra_n : Nat) (ra_u0 : Int32) (ra_c0 : Nat → Int32) (ra_l0 : Nat → Int32) (ra_o : Nat → Int32) (rb_n : Nat) (rb_u : Int32) (rb_c : Nat → Int32) (rb_l : Nat → Int32) (rb_o : Nat → Int32) (p0 : Int32) (H : Heap) (locs : List Loc) (g : JFrame) : Prop := W p l e rm_X2_copy s m ([.ref ra, .ref rb, .int p0] : List Value).toArray below meth c H locs 0 0 (MQ below (qc_X2_copy dC dI cI cJ cB ra ra1 ra2 ra3 rb rb1 rb2 rb3 sz ra_n ra_u0 ra_c0 ra_l0 ra_o rb_n rb_u rb_c rb_l rb_o p0) ([.ref ra, .ref rb, .int p0] : List Value).toArray s 0 0 (va_A (ww_X2_copy dC dI cI cJ cB ra ra1 ra2 ra3 rb rb1 rb2 rb3 sz ra_n ra_u0 ra_c0 ra_l0 ra_o rb_n rb_u rb_c rb_l rb_o p0) sz)) g
set_option maxHeartbeats 4000000 in
set_option maxRecDepth 100000 in
theorem c_X2_copy (l : Launch) (dC : Nat → ClassId) (dI : Nat → Nat → Nat) (cI cJ cB : ClassId) (ra ra1 ra2 ra3 rb rb1 rb2 rb3 : Nat) (sz : Nat) (ra_n : Nat) (ra_u0 : Int32) (ra_c0 : Nat → Int32) (ra_l0 : Nat → Int32) (ra_o : Nat → Int32) (rb_n : Nat) (rb_u : Int32) (rb_c : Nat → Int32) (rb_l : Nat → Int32) (rb_o : Nat → Int32) (p0 : Int32) (hn_ra : 1 ≤ ra_n ∧ ra_n ≤ 201) (hn_rb : 1 ≤ rb_n ∧ rb_n ≤ 201) : Met l yX2_copy wo_X2_copy rm_X2_copy (pc_X2_copy dC dI cI cJ cB ra ra1 ra2 ra3 rb rb1 rb2 rb3 sz ra_n ra_u0 ra_c0 ra_l0 ra_o rb_n rb_u rb_c rb_l rb_o p0) (qc_X2_copy dC dI cI cJ cB ra ra1 ra2 ra3 rb rb1 rb2 rb3 sz ra_n ra_u0 ra_c0 ra_l0 ra_o rb_n rb_u rb_c rb_l rb_o p0) 0 0 (va_A (ww_X2_copy dC dI cI cJ cB ra ra1 ra2 ra3 rb rb1 rb2 rb3 sz ra_n ra_u0 ra_c0 ra_l0 ra_o rb_n rb_u rb_c rb_l rb_o p0) sz) := by
  refine Met.ofW (cc := cX2_copy) (maxL := 3) (ret := none) (by decide) rfl ?_
  intro p e s m args below meth c s₁ B hml hv
  obtain ⟨rfl, hsz, hnw, hP, hK, hD0⟩ := hv
  have hx := B.exec
  have hb := B.bytes
  have hr := B.returns
  have hts := atoms_spec (ws := wo_X2_copy) B.pre
  have hown : s.vm.findClass RX2 = some m.cls := findClass_of_methodNamed B.named
  have hlocks := B.notSynchronized
  clear B
  subst hsz
  have hD := hD0.self (sz := s.heap.size)
  clear hD0
  have hA : ∀ q : Nat, s.heap.size ≤ q → (va_A (ww_X2_copy dC dI cI cJ cB ra ra1 ra2 ra3 rb rb1 rb2 rb3 s.heap.size ra_n ra_u0 ra_c0 ra_l0 ra_o rb_n rb_u rb_c rb_l rb_o p0) s.heap.size) q := fun q h => Or.inr h
  have hS : va_S (va_A (ww_X2_copy dC dI cI cJ cB ra ra1 ra2 ra3 rb rb1 rb2 rb3 s.heap.size ra_n ra_u0 ra_c0 ra_l0 ra_o rb_n rb_u rb_c rb_l rb_o p0) s.heap.size) s.heap s.heap [] := va_S.rf
  have hl := lv_entry ([.ref ra, .ref rb, .int p0]) (n := 3) (Nat.le_of_ble_eq_true rfl)
  rw [lg_entry_eq]
  generalize (lg_sl ([.ref ra, .ref rb, .int p0]) ++ List.replicate (3 - (lg_sl ([.ref ra, .ref rb, .int p0])).length) Slot.unset).toArray = ls at hl ⊢
  have hl : lv_has ls 3 [(0, .ref ra), (1, .ref rb), (2, .int p0)] := hl
  have hP : va_P (dC, dI) vwCl [(ra, .inr (2, [.ref ra1, .ref ra2, .ref ra3, .int ra_u0])), (ra1, .inl (cI, ra_n * 20, .inl ra_c0)), (ra2, .inl (cI, ra_n, .inl ra_l0)), (ra3, .inl (cI, 21, .inl ra_o)), (rb, .inr (2, [.ref rb1, .ref rb2, .ref rb3, .int rb_u])), (rb1, .inl (cI, rb_n * 20, .inl rb_c)), (rb2, .inl (cI, rb_n, .inl rb_l)), (rb3, .inl (cI, 21, .inl rb_o))] s.heap := hP
  have hD : va_D (va_A (ww_X2_copy dC dI cI cJ cB ra ra1 ra2 ra3 rb rb1 rb2 rb3 s.heap.size ra_n ra_u0 ra_c0 ra_l0 ra_o rb_n rb_u rb_c rb_l rb_o p0) s.heap.size) [(ra, .inr (2, [.ref ra1, .ref ra2, .ref ra3, .int ra_u0])), (ra1, .inl (cI, ra_n * 20, .inl ra_c0)), (ra2, .inl (cI, ra_n, .inl ra_l0)), (ra3, .inl (cI, 21, .inl ra_o)), (rb, .inr (2, [.ref rb1, .ref rb2, .ref rb3, .int rb_u])), (rb1, .inl (cI, rb_n * 20, .inl rb_c)), (rb2, .inl (cI, rb_n, .inl rb_l)), (rb3, .inl (cI, 21, .inl rb_o))] := hD
  obtain ⟨H, hH⟩ : ∃ H, H = s.heap := ⟨_, rfl⟩
  obtain ⟨locs, hlc⟩ : ∃ L : List Loc, L = [] := ⟨_, rfl⟩
  have hS : va_S (va_A (ww_X2_copy dC dI cI cJ cB ra ra1 ra2 ra3 rb rb1 rb2 rb3 s.heap.size ra_n ra_u0 ra_c0 ra_l0 ra_o rb_n rb_u rb_c rb_l rb_o p0) s.heap.size) s.heap H locs := by rw [hH, hlc]; exact hS
  have hP : va_P (dC, dI) vwCl [(ra, .inr (2, [.ref ra1, .ref ra2, .ref ra3, .int ra_u0])), (ra1, .inl (cI, ra_n * 20, .inl ra_c0)), (ra2, .inl (cI, ra_n, .inl ra_l0)), (ra3, .inl (cI, 21, .inl ra_o)), (rb, .inr (2, [.ref rb1, .ref rb2, .ref rb3, .int rb_u])), (rb1, .inl (cI, rb_n * 20, .inl rb_c)), (rb2, .inl (cI, rb_n, .inl rb_l)), (rb3, .inl (cI, 21, .inl rb_o))] H := by rw [hH]; exact hP
  suffices hgo : WW_X2_copy p l e s m below meth c dC dI cI cJ cB ra ra1 ra2 ra3 rb rb1 rb2 rb3 s.heap.size ra_n ra_u0 ra_c0 ra_l0 ra_o rb_n rb_u rb_c rb_l rb_o p0 H locs (F0 m 0 ls []) by rw [hH, hlc] at hgo; exact hgo
  clear hH hlc
  refine lv_aload_n hx hb dX2_copy_0 rfl (lv_at hl 0 rfl) ?_
  refine lv_aload_n hx hb dX2_copy_1 rfl (lv_at hl 1 rfl) ?_
  refine lv_iload_n hx hb dX2_copy_2 rfl (lv_at hl 2 rfl) ?_
  refine lv_iconst (v := 0) hx hb dX2_copy_3 (by decide) ?_
  refine lv_aload_n hx hb dX2_copy_4 rfl (lv_at hl 1 rfl) ?_
  refine lv_iload_n hx hb dX2_copy_5 rfl (lv_at hl 2 rfl) ?_
  have hPc := hP.sub (ws' := [(rb, .inr (2, [.ref rb1, .ref rb2, .ref rb3, .int rb_u])), (rb1, .inl (cI, rb_n * 20, .inl rb_c)), (rb2, .inl (cI, rb_n, .inl rb_l)), (rb3, .inl (cI, 21, .inl rb_o))]) [4, 5, 6, 7] rfl
  have hDc := hD.sub (ws' := [(rb, .inr (2, [.ref rb1, .ref rb2, .ref rb3, .int rb_u])), (rb1, .inl (cI, rb_n * 20, .inl rb_c)), (rb2, .inl (cI, rb_n, .inl rb_l)), (rb3, .inl (cI, 21, .inl rb_o))]) [4, 5, 6, 7] (by decide) rfl
  have hFc := va_free (wc := [(rb, .inr (2, [.ref rb1, .ref rb2, .ref rb3, .int rb_u])), (rb1, .inl (cI, rb_n * 20, .inl rb_c)), (rb2, .inl (cI, rb_n, .inl rb_l)), (rb3, .inl (cI, 21, .inl rb_o))]) hD hS hA [4, 5, 6, 7] rfl
  refine va_calli (va_runV (As := [.int p0]) (rest := [.int ((0 : Int32)), .int p0, .ref rb, .ref ra]) ⟨hx, hb, hml, hown, hts⟩ (c_X2_lengthOf l dC dI cI cJ cB rb rb1 rb2 rb3 H.size rb_n rb_u rb_c rb_l rb_o p0 (by first | assumption | omega | decide | (simp only [lt0, lt1, ltm1, lt400] at *; omega))) (cwV 1 hts go_wo_X2_copy_0 rfl rfl rfl (by decide +kernel) ⟨Nat.le_of_ble_eq_true rfl, Nat.le_of_ble_eq_true rfl⟩) ⟨fun a U g mk q => by obtain ⟨q0, q1, qN, qP, qK, qD⟩ := q; exact ⟨q0, q1, NW.calling qN, qP, va_K.moved (u := U) (U := U.calling g mk a) (Vm.Alike.refl U.vm) qK, qD⟩, va_recv hK hPc (ci := 2) (q0 := 0) rfl rfl, fun U hU hW => ⟨rfl, by rw [hU], NW.warm hW hnw, by rw [hU]; exact hPc, va_K.moved hW.alike hK, hDc.weaken (fun _ _ _ _ => trivial)⟩⟩ rfl rfl hl.1 rfl (lv_room (Nat.le_of_ble_eq_true rfl)) dX2_copy_6 ⟨Nat.zero_le _, Nat.zero_le _⟩) hS (fun q _ h => hFc q h) hFc (fun r_1 u t H1 locs ht hvm hw hB hz1 hk1 hS => ?_)
  cases u
  obtain ⟨hP1, hK1, hD1⟩ := hB
  rw [ht] at hP1
  clear hw
  obtain ⟨hP, hD⟩ := va_join (wr := [(ra, .inr (2, [.ref ra1, .ref ra2, .ref ra3, .int ra_u0])), (ra1, .inl (cI, ra_n * 20, .inl ra_c0)), (ra2, .inl (cI, ra_n, .inl ra_l0)), (ra3, .inl (cI, 21, .inl ra_o))]) (w1 := [(rb, .inr (2, [.ref rb1, .ref rb2, .ref rb3, .int rb_u])), (rb1, .inl (cI, rb_n * 20, .inl rb_c)), (rb2, .inl (cI, rb_n, .inl rb_l)), (rb3, .inl (cI, 21, .inl rb_o))]) hP hD [4, 5, 6, 7] [0, 1, 2, 3] rfl rfl (by decide) (by decide) hk1 hFc hP1 hD1
  generalize H1 = H at hP hS ⊢
  have hP : va_P (dC, dI) vwCl [(ra, .inr (2, [.ref ra1, .ref ra2, .ref ra3, .int ra_u0])), (ra1, .inl (cI, ra_n * 20, .inl ra_c0)), (ra2, .inl (cI, ra_n, .inl ra_l0)), (ra3, .inl (cI, 21, .inl ra_o)), (rb, .inr (2, [.ref rb1, .ref rb2, .ref rb3, .int rb_u])), (rb1, .inl (cI, rb_n * 20, .inl rb_c)), (rb2, .inl (cI, rb_n, .inl rb_l)), (rb3, .inl (cI, 21, .inl rb_o))] H := hP
  have hD : va_D (va_A (ww_X2_copy dC dI cI cJ cB ra ra1 ra2 ra3 rb rb1 rb2 rb3 s.heap.size ra_n ra_u0 ra_c0 ra_l0 ra_o rb_n rb_u rb_c rb_l rb_o p0) s.heap.size) [(ra, .inr (2, [.ref ra1, .ref ra2, .ref ra3, .int ra_u0])), (ra1, .inl (cI, ra_n * 20, .inl ra_c0)), (ra2, .inl (cI, ra_n, .inl ra_l0)), (ra3, .inl (cI, 21, .inl ra_o)), (rb, .inr (2, [.ref rb1, .ref rb2, .ref rb3, .int rb_u])), (rb1, .inl (cI, rb_n * 20, .inl rb_c)), (rb2, .inl (cI, rb_n, .inl rb_l)), (rb3, .inl (cI, 21, .inl rb_o))] := hD
  clear hPc hDc hFc hP1 hK1 hD1 hk1 hz1 ht hvm
  have hPc := hP.sub (ws' := [(ra, .inr (2, [.ref ra1, .ref ra2, .ref ra3, .int ra_u0])), (ra1, .inl (cI, ra_n * 20, .inl ra_c0)), (ra2, .inl (cI, ra_n, .inl ra_l0)), (ra3, .inl (cI, 21, .inl ra_o)), (rb, .inr (2, [.ref rb1, .ref rb2, .ref rb3, .int rb_u])), (rb1, .inl (cI, rb_n * 20, .inl rb_c)), (rb2, .inl (cI, rb_n, .inl rb_l)), (rb3, .inl (cI, 21, .inl rb_o))]) [0, 1, 2, 3, 4, 5, 6, 7] rfl
  have hDc := hD.sub (ws' := [(ra, .inr (2, [.ref ra1, .ref ra2, .ref ra3, .int ra_u0])), (ra1, .inl (cI, ra_n * 20, .inl ra_c0)), (ra2, .inl (cI, ra_n, .inl ra_l0)), (ra3, .inl (cI, 21, .inl ra_o)), (rb, .inr (2, [.ref rb1, .ref rb2, .ref rb3, .int rb_u])), (rb1, .inl (cI, rb_n * 20, .inl rb_c)), (rb2, .inl (cI, rb_n, .inl rb_l)), (rb3, .inl (cI, 21, .inl rb_o))]) [0, 1, 2, 3, 4, 5, 6, 7] (by decide) rfl
  have hFc := va_free (wc := [(ra, .inr (2, [.ref ra1, .ref ra2, .ref ra3, .int ra_u0])), (ra1, .inl (cI, ra_n * 20, .inl ra_c0)), (ra2, .inl (cI, ra_n, .inl ra_l0)), (ra3, .inl (cI, 21, .inl ra_o)), (rb, .inr (2, [.ref rb1, .ref rb2, .ref rb3, .int rb_u])), (rb1, .inl (cI, rb_n * 20, .inl rb_c)), (rb2, .inl (cI, rb_n, .inl rb_l)), (rb3, .inl (cI, 21, .inl rb_o))]) hD hS hA [0, 1, 2, 3, 4, 5, 6, 7] rfl
  refine va_callv (va_runV (As := [.ref rb, .int p0, .int ((0 : Int32)), .int r_1]) (rest := []) ⟨hx, hb, hml, hown, hts⟩ (c_X2_copyCells l dC dI cI cJ cB ra ra1 ra2 ra3 rb rb1 rb2 rb3 H.size ra_n ra_u0 ra_c0 ra_l0 ra_o rb_n rb_u rb_c rb_l rb_o p0 ((0 : Int32)) r_1 (by first | assumption | omega | decide | (simp only [lt0, lt1, ltm1, lt400] at *; omega)) (by first | assumption | omega | decide | (simp only [lt0, lt1, ltm1, lt400] at *; omega))) (cwV 4 hts go_wo_X2_copy_1 rfl rfl rfl (by decide +kernel) ⟨Nat.le_of_ble_eq_true rfl, Nat.le_of_ble_eq_true rfl⟩) ⟨fun a U g mk q => by obtain ⟨q0, q1, qN, qP, qK, qD⟩ := q; exact ⟨q0, q1, NW.calling qN, qP, va_K.moved (u := U) (U := U.calling g mk a) (Vm.Alike.refl U.vm) qK, qD⟩, va_recv hK hPc (ci := 2) (q0 := 0) rfl rfl, fun U hU hW => ⟨rfl, by rw [hU], NW.warm hW hnw, by rw [hU]; exact hPc, va_K.moved hW.alike hK, hDc.weaken (fun _ _ _ _ => trivial)⟩⟩ rfl rfl hl.1 rfl (lv_room (Nat.le_of_ble_eq_true rfl)) dX2_copy_9 ⟨Nat.zero_le _, Nat.zero_le _⟩) hS (fun q _ h => hFc q h) hFc (fun u t H1 locs ht hvm hw hB hz1 hk1 hS => ?_)
  obtain ⟨ra_u_3, ra_c_4, ra_l_5⟩ := u
  obtain ⟨hP1, hK1, hD1⟩ := hB
  rw [ht] at hP1
  clear hw
  obtain ⟨hP, hD⟩ := va_join (wr := []) (w1 := [(ra, .inr (2, [.ref ra1, .ref ra2, .ref ra3, .int ra_u_3])), (ra1, .inl (cI, ra_n * 20, .inl ra_c_4)), (ra2, .inl (cI, ra_n, .inl ra_l_5)), (ra3, .inl (cI, 21, .inl ra_o)), (rb, .inr (2, [.ref rb1, .ref rb2, .ref rb3, .int rb_u])), (rb1, .inl (cI, rb_n * 20, .inl rb_c)), (rb2, .inl (cI, rb_n, .inl rb_l)), (rb3, .inl (cI, 21, .inl rb_o))]) hP hD [0, 1, 2, 3, 4, 5, 6, 7] [] rfl rfl (by decide) (by decide) hk1 hFc hP1 hD1
  generalize H1 = H at hP hS ⊢
  have hP : va_P (dC, dI) vwCl [(ra, .inr (2, [.ref ra1, .ref ra2, .ref ra3, .int ra_u_3])), (ra1, .inl (cI, ra_n * 20, .inl ra_c_4)), (ra2, .inl (cI, ra_n, .inl ra_l_5)), (ra3, .inl (cI, 21, .inl ra_o)), (rb, .inr (2, [.ref rb1, .ref rb2, .ref rb3, .int rb_u])), (rb1, .inl (cI, rb_n * 20, .inl rb_c)), (rb2, .inl (cI, rb_n, .inl rb_l)), (rb3, .inl (cI, 21, .inl rb_o))] H := hP
  have hD : va_D (va_A (ww_X2_copy dC dI cI cJ cB ra ra1 ra2 ra3 rb rb1 rb2 rb3 s.heap.size ra_n ra_u0 ra_c0 ra_l0 ra_o rb_n rb_u rb_c rb_l rb_o p0) s.heap.size) [(ra, .inr (2, [.ref ra1, .ref ra2, .ref ra3, .int ra_u_3])), (ra1, .inl (cI, ra_n * 20, .inl ra_c_4)), (ra2, .inl (cI, ra_n, .inl ra_l_5)), (ra3, .inl (cI, 21, .inl ra_o)), (rb, .inr (2, [.ref rb1, .ref rb2, .ref rb3, .int rb_u])), (rb1, .inl (cI, rb_n * 20, .inl rb_c)), (rb2, .inl (cI, rb_n, .inl rb_l)), (rb3, .inl (cI, 21, .inl rb_o))] := hD
  clear hPc hDc hFc hP1 hK1 hD1 hk1 hz1 ht hvm
  have hP9 := hP.sub (ws' := [(ra, .inr (2, [.ref ra1, .ref ra2, .ref ra3, .int ra_u_3])), (ra1, .inl (cI, ra_n * 20, .inl ra_c_4)), (ra2, .inl (cI, ra_n, .inl ra_l_5)), (ra3, .inl (cI, 21, .inl ra_o)), (rb, .inr (2, [.ref rb1, .ref rb2, .ref rb3, .int rb_u])), (rb1, .inl (cI, rb_n * 20, .inl rb_c)), (rb2, .inl (cI, rb_n, .inl rb_l)), (rb3, .inl (cI, 21, .inl rb_o))]) [0, 1, 2, 3, 4, 5, 6, 7] rfl
  have hD9 := hD.sub (ws' := [(ra, .inr (2, [.ref ra1, .ref ra2, .ref ra3, .int ra_u_3])), (ra1, .inl (cI, ra_n * 20, .inl ra_c_4)), (ra2, .inl (cI, ra_n, .inl ra_l_5)), (ra3, .inl (cI, 21, .inl ra_o)), (rb, .inr (2, [.ref rb1, .ref rb2, .ref rb3, .int rb_u])), (rb1, .inl (cI, rb_n * 20, .inl rb_c)), (rb2, .inl (cI, rb_n, .inl rb_l)), (rb3, .inl (cI, 21, .inl rb_o))]) [0, 1, 2, 3, 4, 5, 6, 7] (by decide) rfl
  exact W.vret hx hb hr (fun t ht hW => ⟨⟨(ra_u_3, ra_c_4, ra_l_5), rfl, trivial, by rw [ht]; exact hP9, va_K.moved hW.alike hK, hD9⟩, hS.F ht⟩) hS.2.2 dX2_copy_12
def wo_X2_compare : List Cond := .code yX2_compare cX2_compare 9 (some .int) :: (([] : List Cond) ++ ((va_wsS RX2 53 yJ6_compare_7cf53 wo_J6_compare_7cf53) ++ ((wsV RX2 46 RX2 yX2_cellAt wo_X2_cellAt) ++ ((wsV RX2 34 RX2 yX2_lengthOf wo_X2_lengthOf)))))
set_option maxRecDepth 20000 in
theorem go_wo_X2_compare_0 : GoodIn wo_X2_compare (va_wsS RX2 53 yJ6_compare_7cf53 wo_J6_compare_7cf53) := goodIn_sub (fun _ h => (List.mem_cons_of_mem _ (List.mem_append_right _ (List.mem_append_left _ h)))) (by decide +kernel)
set_option maxRecDepth 20000 in
theorem go_wo_X2_compare_1 : GoodIn wo_X2_compare (wsV RX2 46 RX2 yX2_cellAt wo_X2_cellAt) := goodIn_sub (fun _ h => (List.mem_cons_of_mem _ (List.mem_append_right _ (List.mem_append_right _ (List.mem_append_left _ h))))) (by decide +kernel)
set_option maxRecDepth 20000 in
theorem go_wo_X2_compare_2 : GoodIn wo_X2_compare (wsV RX2 34 RX2 yX2_lengthOf wo_X2_lengthOf) := goodIn_sub (fun _ h => (List.mem_cons_of_mem _ (List.mem_append_right _ (List.mem_append_right _ (List.mem_append_right _ h))))) (by decide +kernel)
abbrev ww_X2_compare (dC : Nat → ClassId) (dI : Nat → Nat → Nat) (cI cJ cB : ClassId) (ra ra1 ra2 ra3 rb rb1 rb2 rb3 : Nat) (sz : Nat) (ra_n : Nat) (ra_u : Int32) (ra_c : Nat → Int32) (ra_l : Nat → Int32) (ra_o : Nat → Int32) (rb_n : Nat) (rb_u : Int32) (rb_c : Nat → Int32) (rb_l : Nat → Int32) (rb_o : Nat → Int32) (p0 : Int32) (p1 : Int32) : va_W := [(ra, .inr (2, [.ref ra1, .ref ra2, .ref ra3, .int ra_u])), (ra1, .inl (cI, ra_n * 20, .inl ra_c)), (ra2, .inl (cI, ra_n, .inl ra_l)), (ra3, .inl (cI, 21, .inl ra_o)), (rb, .inr (2, [.ref rb1, .ref rb2, .ref rb3, .int rb_u])), (rb1, .inl (cI, rb_n * 20, .inl rb_c)), (rb2, .inl (cI, rb_n, .inl rb_l)), (rb3, .inl (cI, 21, .inl rb_o))]
abbrev at_X2_compare (dC : Nat → ClassId) (dI : Nat → Nat → Nat) (cI cJ cB : ClassId) (ra ra1 ra2 ra3 rb rb1 rb2 rb3 : Nat) (sz : Nat) (ra_n : Nat) (ra_u : Int32) (ra_c : Nat → Int32) (ra_l : Nat → Int32) (ra_o : Nat → Int32) (rb_n : Nat) (rb_u : Int32) (rb_c : Nat → Int32) (rb_l : Nat → Int32) (rb_o : Nat → Int32) (p0 : Int32) (p1 : Int32) (u : Unit) (t : State) : Prop := match u with
  | () => va_P (dC, dI) vwCl [(ra, .inr (2, [.ref ra1, .ref ra2, .ref ra3, .int ra_u])), (ra1, .inl (cI, ra_n * 20, .inl ra_c)), (ra2, .inl (cI, ra_n, .inl ra_l)), (ra3, .inl (cI, 21, .inl ra_o)), (rb, .inr (2, [.ref rb1, .ref rb2, .ref rb3, .int rb_u])), (rb1, .inl (cI, rb_n * 20, .inl rb_c)), (rb2, .inl (cI, rb_n, .inl rb_l)), (rb3, .inl (cI, 21, .inl rb_o))] t.heap ∧ va_K (dC, dI) vwCl (tyL cI cJ cB) t ∧ va_D (va_A (ww_X2_compare dC dI cI cJ cB ra ra1 ra2 ra3 rb rb1 rb2 rb3 sz ra_n ra_u ra_c ra_l ra_o rb_n rb_u rb_c rb_l rb_o p0 p1) sz) [(ra, .inr (2, [.ref ra1, .ref ra2, .ref ra3, .int ra_u])), (ra1, .inl (cI, ra_n * 20, .inl ra_c)), (ra2, .inl (cI, ra_n, .inl ra_l)), (ra3, .inl (cI, 21, .inl ra_o)), (rb, .inr (2, [.ref rb1, .ref rb2, .ref rb3, .int rb_u])), (rb1, .inl (cI, rb_n * 20, .inl rb_c)), (rb2, .inl (cI, rb_n, .inl rb_l)), (rb3, .inl (cI, 21, .inl rb_o))]
abbrev qc_X2_compare (dC : Nat → ClassId) (dI : Nat → Nat → Nat) (cI cJ cB : ClassId) (ra ra1 ra2 ra3 rb rb1 rb2 rb3 : Nat) (sz : Nat) (ra_n : Nat) (ra_u : Int32) (ra_c : Nat → Int32) (ra_l : Nat → Int32) (ra_o : Nat → Int32) (rb_n : Nat) (rb_u : Int32) (rb_c : Nat → Int32) (rb_l : Nat → Int32) (rb_o : Nat → Int32) (p0 : Int32) (p1 : Int32) : Array Value → State → Outcome → State → Prop := va_Qi (fun (r : Int32) (u : Unit) => match u with | () => True) (at_X2_compare dC dI cI cJ cB ra ra1 ra2 ra3 rb rb1 rb2 rb3 sz ra_n ra_u ra_c ra_l ra_o rb_n rb_u rb_c rb_l rb_o p0 p1) (va_A (ww_X2_compare dC dI cI cJ cB ra ra1 ra2 ra3 rb rb1 rb2 rb3 sz ra_n ra_u ra_c ra_l ra_o rb_n rb_u rb_c rb_l rb_o p0 p1) sz)
abbrev pc_X2_compare (dC : Nat → ClassId) (dI : Nat → Nat → Nat) (cI cJ cB : ClassId) (ra ra1 ra2 ra3 rb rb1 rb2 rb3 : Nat) (sz : Nat) (ra_n : Nat) (ra_u : Int32) (ra_c : Nat → Int32) (ra_l : Nat → Int32) (ra_o : Nat → Int32) (rb_n : Nat) (rb_u : Int32) (rb_c : Nat → Int32) (rb_l : Nat → Int32) (rb_o : Nat → Int32) (p0 : Int32) (p1 : Int32) : Array Value → State → Prop := va_Pc [.ref ra, .int p0, .ref rb, .int p1] (fun U => U.heap.size = sz ∧ NW U ∧ va_P (dC, dI) vwCl (ww_X2_compare dC dI cI cJ cB ra ra1 ra2 ra3 rb rb1 rb2 rb3 sz ra_n ra_u ra_c ra_l ra_o rb_n rb_u rb_c rb_l rb_o p0 p1) U.heap ∧ va_K (dC, dI) vwCl (tyL cI cJ cB) U ∧ va_D (fun _ => True) (ww_X2_compare dC dI cI cJ cB ra ra1 ra2 ra3 rb rb1 rb2 rb3 sz ra_n ra_u ra_c ra_l ra_o rb_n rb_u rb_c rb_l rb_o p0 p1))
abbrev rm_X2_compare : Room := { frames := 1, cells := 0, slots := 0, locals := 23 }
abbrev WW_X2_compare (p : Program) (l : Launch) (e : Env) (s : State) (m : MethodId) (below : List Frame) (meth : Method) (c : Code) (dC : Nat → ClassId) (dI : Nat → Nat → Nat) (cI cJ cB : ClassId) (ra ra1 ra2 ra3 rb rb1 rb2 rb3 : Nat) (sz : Nat) (ra_n : Nat) (ra_u : Int32) (ra_c : Nat → Int32) (ra_l : Nat → Int32) (ra_o : Nat → Int32) (rb_n : Nat) (rb_u : Int32) (rb_c : Nat → Int32) (rb_l : Nat → Int32) (rb_o : Nat → Int32) (p0 : Int32) (p1 : Int32) (H : Heap) (locs : List Loc) (g : JFrame) : Prop := W p l e rm_X2_compare s m ([.ref ra, .int p0, .ref rb, .int p1] : List Value).toArray below meth c H locs 0 0 (MQ below (qc_X2_compare dC dI cI cJ cB ra ra1 ra2 ra3 rb rb1 rb2 rb3 sz ra_n ra_u ra_c ra_l ra_o rb_n rb_u rb_c rb_l rb_o p0 p1) ([.ref ra, .int p0, .ref rb, .int p1] : List Value).toArray s 0 0 (va_A (ww_X2_compare dC dI cI cJ cB ra ra1 ra2 ra3 rb rb1 rb2 rb3 sz ra_n ra_u ra_c ra_l ra_o rb_n rb_u rb_c rb_l rb_o p0 p1) sz)) g
set_option maxHeartbeats 4000000 in
set_option maxRecDepth 100000 in
theorem c_X2_compare (l : Launch) (dC : Nat → ClassId) (dI : Nat → Nat → Nat) (cI cJ cB : ClassId) (ra ra1 ra2 ra3 rb rb1 rb2 rb3 : Nat) (sz : Nat) (ra_n : Nat) (ra_u : Int32) (ra_c : Nat → Int32) (ra_l : Nat → Int32) (ra_o : Nat → Int32) (rb_n : Nat) (rb_u : Int32) (rb_c : Nat → Int32) (rb_l : Nat → Int32) (rb_o : Nat → Int32) (p0 : Int32) (p1 : Int32) (hn_ra : 1 ≤ ra_n ∧ ra_n ≤ 201) (hn_rb : 1 ≤ rb_n ∧ rb_n ≤ 201) : Met l yX2_compare wo_X2_compare rm_X2_compare (pc_X2_compare dC dI cI cJ cB ra ra1 ra2 ra3 rb rb1 rb2 rb3 sz ra_n ra_u ra_c ra_l ra_o rb_n rb_u rb_c rb_l rb_o p0 p1) (qc_X2_compare dC dI cI cJ cB ra ra1 ra2 ra3 rb rb1 rb2 rb3 sz ra_n ra_u ra_c ra_l ra_o rb_n rb_u rb_c rb_l rb_o p0 p1) 0 0 (va_A (ww_X2_compare dC dI cI cJ cB ra ra1 ra2 ra3 rb rb1 rb2 rb3 sz ra_n ra_u ra_c ra_l ra_o rb_n rb_u rb_c rb_l rb_o p0 p1) sz) := by
  refine Met.ofW (cc := cX2_compare) (maxL := 9) (ret := (some .int)) (by decide) rfl ?_
  intro p e s m args below meth c s₁ B hml hv
  obtain ⟨rfl, hsz, hnw, hP, hK, hD0⟩ := hv
  have hx := B.exec
  have hb := B.bytes
  have hr := B.returns
  have hts := atoms_spec (ws := wo_X2_compare) B.pre
  have hown : s.vm.findClass RX2 = some m.cls := findClass_of_methodNamed B.named
  have hlocks := B.notSynchronized
  clear B
  subst hsz
  have hD := hD0.self (sz := s.heap.size)
  clear hD0
  have hA : ∀ q : Nat, s.heap.size ≤ q → (va_A (ww_X2_compare dC dI cI cJ cB ra ra1 ra2 ra3 rb rb1 rb2 rb3 s.heap.size ra_n ra_u ra_c ra_l ra_o rb_n rb_u rb_c rb_l rb_o p0 p1) s.heap.size) q := fun q h => Or.inr h
  have hS : va_S (va_A (ww_X2_compare dC dI cI cJ cB ra ra1 ra2 ra3 rb rb1 rb2 rb3 s.heap.size ra_n ra_u ra_c ra_l ra_o rb_n rb_u rb_c rb_l rb_o p0 p1) s.heap.size) s.heap s.heap [] := va_S.rf
  have hl := lv_entry ([.ref ra, .int p0, .ref rb, .int p1]) (n := 9) (Nat.le_of_ble_eq_true rfl)
  rw [lg_entry_eq]
  generalize (lg_sl ([.ref ra, .int p0, .ref rb, .int p1]) ++ List.replicate (9 - (lg_sl ([.ref ra, .int p0, .ref rb, .int p1])).length) Slot.unset).toArray = ls at hl ⊢
  have hl : lv_has ls 9 [(0, .ref ra), (1, .int p0), (2, .ref rb), (3, .int p1)] := hl
  have hP : va_P (dC, dI) vwCl [(ra, .inr (2, [.ref ra1, .ref ra2, .ref ra3, .int ra_u])), (ra1, .inl (cI, ra_n * 20, .inl ra_c)), (ra2, .inl (cI, ra_n, .inl ra_l)), (ra3, .inl (cI, 21, .inl ra_o)), (rb, .inr (2, [.ref rb1, .ref rb2, .ref rb3, .int rb_u])), (rb1, .inl (cI, rb_n * 20, .inl rb_c)), (rb2, .inl (cI, rb_n, .inl rb_l)), (rb3, .inl (cI, 21, .inl rb_o))] s.heap := hP
  have hD : va_D (va_A (ww_X2_compare dC dI cI cJ cB ra ra1 ra2 ra3 rb rb1 rb2 rb3 s.heap.size ra_n ra_u ra_c ra_l ra_o rb_n rb_u rb_c rb_l rb_o p0 p1) s.heap.size) [(ra, .inr (2, [.ref ra1, .ref ra2, .ref ra3, .int ra_u])), (ra1, .inl (cI, ra_n * 20, .inl ra_c)), (ra2, .inl (cI, ra_n, .inl ra_l)), (ra3, .inl (cI, 21, .inl ra_o)), (rb, .inr (2, [.ref rb1, .ref rb2, .ref rb3, .int rb_u])), (rb1, .inl (cI, rb_n * 20, .inl rb_c)), (rb2, .inl (cI, rb_n, .inl rb_l)), (rb3, .inl (cI, 21, .inl rb_o))] := hD
  obtain ⟨H, hH⟩ : ∃ H, H = s.heap := ⟨_, rfl⟩
  obtain ⟨locs, hlc⟩ : ∃ L : List Loc, L = [] := ⟨_, rfl⟩
  have hS : va_S (va_A (ww_X2_compare dC dI cI cJ cB ra ra1 ra2 ra3 rb rb1 rb2 rb3 s.heap.size ra_n ra_u ra_c ra_l ra_o rb_n rb_u rb_c rb_l rb_o p0 p1) s.heap.size) s.heap H locs := by rw [hH, hlc]; exact hS
  have hP : va_P (dC, dI) vwCl [(ra, .inr (2, [.ref ra1, .ref ra2, .ref ra3, .int ra_u])), (ra1, .inl (cI, ra_n * 20, .inl ra_c)), (ra2, .inl (cI, ra_n, .inl ra_l)), (ra3, .inl (cI, 21, .inl ra_o)), (rb, .inr (2, [.ref rb1, .ref rb2, .ref rb3, .int rb_u])), (rb1, .inl (cI, rb_n * 20, .inl rb_c)), (rb2, .inl (cI, rb_n, .inl rb_l)), (rb3, .inl (cI, 21, .inl rb_o))] H := by rw [hH]; exact hP
  suffices hgo : WW_X2_compare p l e s m below meth c dC dI cI cJ cB ra ra1 ra2 ra3 rb rb1 rb2 rb3 s.heap.size ra_n ra_u ra_c ra_l ra_o rb_n rb_u rb_c rb_l rb_o p0 p1 H locs (F0 m 0 ls []) by rw [hH, hlc] at hgo; exact hgo
  clear hH hlc
  have L_17 : ∀ (N_17 : Nat), ∀ (x4 : Int32) (x5 : Int32) (x6 : Int32), ((2147483647 - x6.toInt).toNat) < N_17 → ∀ (H : Heap) (locs : List Loc), va_P (dC, dI) vwCl [(ra, .inr (2, [.ref ra1, .ref ra2, .ref ra3, .int ra_u])), (ra1, .inl (cI, ra_n * 20, .inl ra_c)), (ra2, .inl (cI, ra_n, .inl ra_l)), (ra3, .inl (cI, 21, .inl ra_o)), (rb, .inr (2, [.ref rb1, .ref rb2, .ref rb3, .int rb_u])), (rb1, .inl (cI, rb_n * 20, .inl rb_c)), (rb2, .inl (cI, rb_n, .inl rb_l)), (rb3, .inl (cI, 21, .inl rb_o))] H → va_D (va_A (ww_X2_compare dC dI cI cJ cB ra ra1 ra2 ra3 rb rb1 rb2 rb3 s.heap.size ra_n ra_u ra_c ra_l ra_o rb_n rb_u rb_c rb_l rb_o p0 p1) s.heap.size) [(ra, .inr (2, [.ref ra1, .ref ra2, .ref ra3, .int ra_u])), (ra1, .inl (cI, ra_n * 20, .inl ra_c)), (ra2, .inl (cI, ra_n, .inl ra_l)), (ra3, .inl (cI, 21, .inl ra_o)), (rb, .inr (2, [.ref rb1, .ref rb2, .ref rb3, .int rb_u])), (rb1, .inl (cI, rb_n * 20, .inl rb_c)), (rb2, .inl (cI, rb_n, .inl rb_l)), (rb3, .inl (cI, 21, .inl rb_o))] → va_S (va_A (ww_X2_compare dC dI cI cJ cB ra ra1 ra2 ra3 rb rb1 rb2 rb3 s.heap.size ra_n ra_u ra_c ra_l ra_o rb_n rb_u rb_c rb_l rb_o p0 p1) s.heap.size) s.heap H locs → ∀ ls : Array Slot, lv_has ls 9 [(0, .ref ra), (1, .int p0), (2, .ref rb), (3, .int p1), (4, .int x4), (5, .int x5), (6, .int x6)] → WW_X2_compare p l e s m below meth c dC dI cI cJ cB ra ra1 ra2 ra3 rb rb1 rb2 rb3 s.heap.size ra_n ra_u ra_c ra_l ra_o rb_n rb_u rb_c rb_l rb_o p0 p1 H locs (F0 m 17 ls []) := by
    intro N_17
    induction N_17 with
    | zero => intro x4 x5 x6  hm; exact absurd hm (Nat.not_lt_zero _)
    | succ N_17 ih_17 =>
      intro x4 x5 x6  hm_17 H locs hP hD hS ls hl
      refine lv_iload hx hb dX2_compare_17 (lv_at hl 6 rfl) ?_
      refine lv_iload hx hb dX2_compare_19 (lv_at hl 4 rfl) ?_
      refine lv_icmp_ge (tgt := 75) hx hb dX2_compare_21 (by decide) (fun c_1 => ?_) (fun c_1 => ?_)
      · have tc_1 : x4.toInt ≤ x6.toInt := tb_ge_t c_1
        have := ti_rng x6
        have := ti_rng x4
        refine lv_iload hx hb dX2_compare_75 (lv_at hl 4 rfl) ?_
        refine lv_iload hx hb dX2_compare_77 (lv_at hl 5 rfl) ?_
        have hPc := hP.sub (ws' := []) [] rfl
        have hDc := hD.sub (ws' := []) [] (by decide) rfl
        have hFc := va_free (wc := []) hD hS hA [] rfl
        refine va_calli (va_runS (As := [.int x4, .int x5]) (rest := []) ⟨hx, hb, hml, hown, hts⟩ (c_J6_compare_7cf53 l dC dI cI cJ cB  H.size x4 x5) (va_cwS 2 hts go_wo_X2_compare_0 rfl rfl rfl (by decide +kernel) ⟨Nat.le_of_ble_eq_true rfl, Nat.le_of_ble_eq_true rfl⟩) ⟨fun a U g mk q => by obtain ⟨q0, q1, qN, qP, qK, qD⟩ := q; exact ⟨q0, q1, NW.calling qN, qP, va_K.moved (u := U) (U := U.calling g mk a) (Vm.Alike.refl U.vm) qK, qD⟩, fun U hU hW => ⟨rfl, by rw [hU], NW.warm hW hnw, by rw [hU]; exact hPc, va_K.moved hW.alike hK, hDc.weaken (fun _ _ _ _ => trivial)⟩⟩ rfl rfl hl.1 rfl (lv_room (Nat.le_of_ble_eq_true rfl)) dX2_compare_79 ⟨Nat.zero_le _, Nat.zero_le _⟩) hS (fun q _ h => hFc q h) hFc (fun r_2 u t H1 locs ht hvm hw hB hz1 hk1 hS => ?_)
        cases u
        obtain ⟨hP1, hK1, hD1⟩ := hB
        rw [ht] at hP1
        clear hw
        obtain ⟨hP, hD⟩ := va_join (wr := [(ra, .inr (2, [.ref ra1, .ref ra2, .ref ra3, .int ra_u])), (ra1, .inl (cI, ra_n * 20, .inl ra_c)), (ra2, .inl (cI, ra_n, .inl ra_l)), (ra3, .inl (cI, 21, .inl ra_o)), (rb, .inr (2, [.ref rb1, .ref rb2, .ref rb3, .int rb_u])), (rb1, .inl (cI, rb_n * 20, .inl rb_c)), (rb2, .inl (cI, rb_n, .inl rb_l)), (rb3, .inl (cI, 21, .inl rb_o))]) (w1 := []) hP hD [] [0, 1, 2, 3, 4, 5, 6, 7] rfl rfl (by decide) (by decide) hk1 hFc hP1 hD1
        generalize H1 = H at hP hS ⊢
        have hP : va_P (dC, dI) vwCl [(ra, .inr (2, [.ref ra1, .ref ra2, .ref ra3, .int ra_u])), (ra1, .inl (cI, ra_n * 20, .inl ra_c)), (ra2, .inl (cI, ra_n, .inl ra_l)), (ra3, .inl (cI, 21, .inl ra_o)), (rb, .inr (2, [.ref rb1, .ref rb2, .ref rb3, .int rb_u])), (rb1, .inl (cI, rb_n * 20, .inl rb_c)), (rb2, .inl (cI, rb_n, .inl rb_l)), (rb3, .inl (cI, 21, .inl rb_o))] H := hP
        have hD : va_D (va_A (ww_X2_compare dC dI cI cJ cB ra ra1 ra2 ra3 rb rb1 rb2 rb3 s.heap.size ra_n ra_u ra_c ra_l ra_o rb_n rb_u rb_c rb_l rb_o p0 p1) s.heap.size) [(ra, .inr (2, [.ref ra1, .ref ra2, .ref ra3, .int ra_u])), (ra1, .inl (cI, ra_n * 20, .inl ra_c)), (ra2, .inl (cI, ra_n, .inl ra_l)), (ra3, .inl (cI, 21, .inl ra_o)), (rb, .inr (2, [.ref rb1, .ref rb2, .ref rb3, .int rb_u])), (rb1, .inl (cI, rb_n * 20, .inl rb_c)), (rb2, .inl (cI, rb_n, .inl rb_l)), (rb3, .inl (cI, 21, .inl rb_o))] := hD
        clear hPc hDc hFc hP1 hK1 hD1 hk1 hz1 ht hvm
        have hP9 := hP.sub (ws' := [(ra, .inr (2, [.ref ra1, .ref ra2, .ref ra3, .int ra_u])), (ra1, .inl (cI, ra_n * 20, .inl ra_c)), (ra2, .inl (cI, ra_n, .inl ra_l)), (ra3, .inl (cI, 21, .inl ra_o)), (rb, .inr (2, [.ref rb1, .ref rb2, .ref rb3, .int rb_u])), (rb1, .inl (cI, rb_n * 20, .inl rb_c)), (rb2, .inl (cI, rb_n, .inl rb_l)), (rb3, .inl (cI, 21, .inl rb_o))]) [0, 1, 2, 3, 4, 5, 6, 7] rfl
        have hD9 := hD.sub (ws' := [(ra, .inr (2, [.ref ra1, .ref ra2, .ref ra3, .int ra_u])), (ra1, .inl (cI, ra_n * 20, .inl ra_c)), (ra2, .inl (cI, ra_n, .inl ra_l)), (ra3, .inl (cI, 21, .inl ra_o)), (rb, .inr (2, [.ref rb1, .ref rb2, .ref rb3, .int rb_u])), (rb1, .inl (cI, rb_n * 20, .inl rb_c)), (rb2, .inl (cI, rb_n, .inl rb_l)), (rb3, .inl (cI, 21, .inl rb_o))]) [0, 1, 2, 3, 4, 5, 6, 7] (by decide) rfl
        exact W.iret (v := r_2) hx hb hr (fun t ht hW => ⟨⟨r_2, (), rfl, trivial, by rw [ht]; exact hP9, va_K.moved hW.alike hK, hD9⟩, hS.F ht⟩) hS.2.2 dX2_compare_82
      · have tc_1 : x6.toInt < x4.toInt := tb_ge_f c_1
        have := ti_rng x6
        have := ti_rng x4
        refine lv_iload hx hb dX2_compare_24 (lv_at hl 6 rfl) ?_
        refine lv_iload hx hb dX2_compare_26 (lv_at hl 5 rfl) ?_
        refine lv_icmp_ge (tgt := 75) hx hb dX2_compare_28 (by decide) (fun c_3 => ?_) (fun c_3 => ?_)
        · have tc_3 : x5.toInt ≤ x6.toInt := tb_ge_t c_3
          have := ti_rng x5
          refine lv_iload hx hb dX2_compare_75 (lv_at hl 4 rfl) ?_
          refine lv_iload hx hb dX2_compare_77 (lv_at hl 5 rfl) ?_
          have hPc := hP.sub (ws' := []) [] rfl
          have hDc := hD.sub (ws' := []) [] (by decide) rfl
          have hFc := va_free (wc := []) hD hS hA [] rfl
          refine va_calli (va_runS (As := [.int x4, .int x5]) (rest := []) ⟨hx, hb, hml, hown, hts⟩ (c_J6_compare_7cf53 l dC dI cI cJ cB  H.size x4 x5) (va_cwS 2 hts go_wo_X2_compare_0 rfl rfl rfl (by decide +kernel) ⟨Nat.le_of_ble_eq_true rfl, Nat.le_of_ble_eq_true rfl⟩) ⟨fun a U g mk q => by obtain ⟨q0, q1, qN, qP, qK, qD⟩ := q; exact ⟨q0, q1, NW.calling qN, qP, va_K.moved (u := U) (U := U.calling g mk a) (Vm.Alike.refl U.vm) qK, qD⟩, fun U hU hW => ⟨rfl, by rw [hU], NW.warm hW hnw, by rw [hU]; exact hPc, va_K.moved hW.alike hK, hDc.weaken (fun _ _ _ _ => trivial)⟩⟩ rfl rfl hl.1 rfl (lv_room (Nat.le_of_ble_eq_true rfl)) dX2_compare_79 ⟨Nat.zero_le _, Nat.zero_le _⟩) hS (fun q _ h => hFc q h) hFc (fun r_4 u t H1 locs ht hvm hw hB hz1 hk1 hS => ?_)
          cases u
          obtain ⟨hP1, hK1, hD1⟩ := hB
          rw [ht] at hP1
          clear hw
          obtain ⟨hP, hD⟩ := va_join (wr := [(ra, .inr (2, [.ref ra1, .ref ra2, .ref ra3, .int ra_u])), (ra1, .inl (cI, ra_n * 20, .inl ra_c)), (ra2, .inl (cI, ra_n, .inl ra_l)), (ra3, .inl (cI, 21, .inl ra_o)), (rb, .inr (2, [.ref rb1, .ref rb2, .ref rb3, .int rb_u])), (rb1, .inl (cI, rb_n * 20, .inl rb_c)), (rb2, .inl (cI, rb_n, .inl rb_l)), (rb3, .inl (cI, 21, .inl rb_o))]) (w1 := []) hP hD [] [0, 1, 2, 3, 4, 5, 6, 7] rfl rfl (by decide) (by decide) hk1 hFc hP1 hD1
          generalize H1 = H at hP hS ⊢
          have hP : va_P (dC, dI) vwCl [(ra, .inr (2, [.ref ra1, .ref ra2, .ref ra3, .int ra_u])), (ra1, .inl (cI, ra_n * 20, .inl ra_c)), (ra2, .inl (cI, ra_n, .inl ra_l)), (ra3, .inl (cI, 21, .inl ra_o)), (rb, .inr (2, [.ref rb1, .ref rb2, .ref rb3, .int rb_u])), (rb1, .inl (cI, rb_n * 20, .inl rb_c)), (rb2, .inl (cI, rb_n, .inl rb_l)), (rb3, .inl (cI, 21, .inl rb_o))] H := hP
          have hD : va_D (va_A (ww_X2_compare dC dI cI cJ cB ra ra1 ra2 ra3 rb rb1 rb2 rb3 s.heap.size ra_n ra_u ra_c ra_l ra_o rb_n rb_u rb_c rb_l rb_o p0 p1) s.heap.size) [(ra, .inr (2, [.ref ra1, .ref ra2, .ref ra3, .int ra_u])), (ra1, .inl (cI, ra_n * 20, .inl ra_c)), (ra2, .inl (cI, ra_n, .inl ra_l)), (ra3, .inl (cI, 21, .inl ra_o)), (rb, .inr (2, [.ref rb1, .ref rb2, .ref rb3, .int rb_u])), (rb1, .inl (cI, rb_n * 20, .inl rb_c)), (rb2, .inl (cI, rb_n, .inl rb_l)), (rb3, .inl (cI, 21, .inl rb_o))] := hD
          clear hPc hDc hFc hP1 hK1 hD1 hk1 hz1 ht hvm
          have hP9 := hP.sub (ws' := [(ra, .inr (2, [.ref ra1, .ref ra2, .ref ra3, .int ra_u])), (ra1, .inl (cI, ra_n * 20, .inl ra_c)), (ra2, .inl (cI, ra_n, .inl ra_l)), (ra3, .inl (cI, 21, .inl ra_o)), (rb, .inr (2, [.ref rb1, .ref rb2, .ref rb3, .int rb_u])), (rb1, .inl (cI, rb_n * 20, .inl rb_c)), (rb2, .inl (cI, rb_n, .inl rb_l)), (rb3, .inl (cI, 21, .inl rb_o))]) [0, 1, 2, 3, 4, 5, 6, 7] rfl
          have hD9 := hD.sub (ws' := [(ra, .inr (2, [.ref ra1, .ref ra2, .ref ra3, .int ra_u])), (ra1, .inl (cI, ra_n * 20, .inl ra_c)), (ra2, .inl (cI, ra_n, .inl ra_l)), (ra3, .inl (cI, 21, .inl ra_o)), (rb, .inr (2, [.ref rb1, .ref rb2, .ref rb3, .int rb_u])), (rb1, .inl (cI, rb_n * 20, .inl rb_c)), (rb2, .inl (cI, rb_n, .inl rb_l)), (rb3, .inl (cI, 21, .inl rb_o))]) [0, 1, 2, 3, 4, 5, 6, 7] (by decide) rfl
          exact W.iret (v := r_4) hx hb hr (fun t ht hW => ⟨⟨r_4, (), rfl, trivial, by rw [ht]; exact hP9, va_K.moved hW.alike hK, hD9⟩, hS.F ht⟩) hS.2.2 dX2_compare_82
        · have tc_3 : x6.toInt < x5.toInt := tb_ge_f c_3
          have := ti_rng x5
          refine lv_aload_n hx hb dX2_compare_31 rfl (lv_at hl 0 rfl) ?_
          refine lv_iload_n hx hb dX2_compare_32 rfl (lv_at hl 1 rfl) ?_
          refine lv_iload hx hb dX2_compare_33 (lv_at hl 6 rfl) ?_
          have hPc := hP.sub (ws' := [(ra, .inr (2, [.ref ra1, .ref ra2, .ref ra3, .int ra_u])), (ra1, .inl (cI, ra_n * 20, .inl ra_c)), (ra2, .inl (cI, ra_n, .inl ra_l)), (ra3, .inl (cI, 21, .inl ra_o))]) [0, 1, 2, 3] rfl
          have hDc := hD.sub (ws' := [(ra, .inr (2, [.ref ra1, .ref ra2, .ref ra3, .int ra_u])), (ra1, .inl (cI, ra_n * 20, .inl ra_c)), (ra2, .inl (cI, ra_n, .inl ra_l)), (ra3, .inl (cI, 21, .inl ra_o))]) [0, 1, 2, 3] (by decide) rfl
          have hFc := va_free (wc := [(ra, .inr (2, [.ref ra1, .ref ra2, .ref ra3, .int ra_u])), (ra1, .inl (cI, ra_n * 20, .inl ra_c)), (ra2, .inl (cI, ra_n, .inl ra_l)), (ra3, .inl (cI, 21, .inl ra_o))]) hD hS hA [0, 1, 2, 3] rfl
          refine va_calli (va_runV (As := [.int p0, .int x6]) (rest := []) ⟨hx, hb, hml, hown, hts⟩ (c_X2_cellAt l dC dI cI cJ cB ra ra1 ra2 ra3 H.size ra_n ra_u ra_c ra_l ra_o p0 x6 (by first | assumption | omega | decide | (simp only [lt0, lt1, ltm1, lt400] at *; omega))) (cwV 2 hts go_wo_X2_compare_1 rfl rfl rfl (by decide +kernel) ⟨Nat.le_of_ble_eq_true rfl, Nat.le_of_ble_eq_true rfl⟩) ⟨fun a U g mk q => by obtain ⟨q0, q1, qN, qP, qK, qD⟩ := q; exact ⟨q0, q1, NW.calling qN, qP, va_K.moved (u := U) (U := U.calling g mk a) (Vm.Alike.refl U.vm) qK, qD⟩, va_recv hK hPc (ci := 2) (q0 := 0) rfl rfl, fun U hU hW => ⟨rfl, by rw [hU], NW.warm hW hnw, by rw [hU]; exact hPc, va_K.moved hW.alike hK, hDc.weaken (fun _ _ _ _ => trivial)⟩⟩ rfl rfl hl.1 rfl (lv_room (Nat.le_of_ble_eq_true rfl)) dX2_compare_35 ⟨Nat.zero_le _, Nat.zero_le _⟩) hS (fun q _ h => hFc q h) hFc (fun r_5 u t H1 locs ht hvm hw hB hz1 hk1 hS => ?_)
          cases u
          obtain ⟨hP1, hK1, hD1⟩ := hB
          rw [ht] at hP1
          clear hw
          obtain ⟨hP, hD⟩ := va_join (wr := [(rb, .inr (2, [.ref rb1, .ref rb2, .ref rb3, .int rb_u])), (rb1, .inl (cI, rb_n * 20, .inl rb_c)), (rb2, .inl (cI, rb_n, .inl rb_l)), (rb3, .inl (cI, 21, .inl rb_o))]) (w1 := [(ra, .inr (2, [.ref ra1, .ref ra2, .ref ra3, .int ra_u])), (ra1, .inl (cI, ra_n * 20, .inl ra_c)), (ra2, .inl (cI, ra_n, .inl ra_l)), (ra3, .inl (cI, 21, .inl ra_o))]) hP hD [0, 1, 2, 3] [4, 5, 6, 7] rfl rfl (by decide) (by decide) hk1 hFc hP1 hD1
          generalize H1 = H at hP hS ⊢
          have hP : va_P (dC, dI) vwCl [(rb, .inr (2, [.ref rb1, .ref rb2, .ref rb3, .int rb_u])), (rb1, .inl (cI, rb_n * 20, .inl rb_c)), (rb2, .inl (cI, rb_n, .inl rb_l)), (rb3, .inl (cI, 21, .inl rb_o)), (ra, .inr (2, [.ref ra1, .ref ra2, .ref ra3, .int ra_u])), (ra1, .inl (cI, ra_n * 20, .inl ra_c)), (ra2, .inl (cI, ra_n, .inl ra_l)), (ra3, .inl (cI, 21, .inl ra_o))] H := hP
          have hD : va_D (va_A (ww_X2_compare dC dI cI cJ cB ra ra1 ra2 ra3 rb rb1 rb2 rb3 s.heap.size ra_n ra_u ra_c ra_l ra_o rb_n rb_u rb_c rb_l rb_o p0 p1) s.heap.size) [(rb, .inr (2, [.ref rb1, .ref rb2, .ref rb3, .int rb_u])), (rb1, .inl (cI, rb_n * 20, .inl rb_c)), (rb2, .inl (cI, rb_n, .inl rb_l)), (rb3, .inl (cI, 21, .inl rb_o)), (ra, .inr (2, [.ref ra1, .ref ra2, .ref ra3, .int ra_u])), (ra1, .inl (cI, ra_n * 20, .inl ra_c)), (ra2, .inl (cI, ra_n, .inl ra_l)), (ra3, .inl (cI, 21, .inl ra_o))] := hD
          clear hPc hDc hFc hP1 hK1 hD1 hk1 hz1 ht hvm
          refine lv_istore (lv' := [(7, .int r_5), (0, .ref ra), (1, .int p0), (2, .ref rb), (3, .int p1), (4, .int x4), (5, .int x5), (6, .int x6)]) hx hb dX2_compare_38 hl (by decide) rfl (fun ls hl => ?_)
          refine lv_aload_n hx hb dX2_compare_40 rfl (lv_at hl 3 rfl) ?_
          refine lv_iload_n hx hb dX2_compare_41 rfl (lv_at hl 4 rfl) ?_
          refine lv_iload hx hb dX2_compare_42 (lv_at hl 7 rfl) ?_
          have hPc := hP.sub (ws' := [(rb, .inr (2, [.ref rb1, .ref rb2, .ref rb3, .int rb_u])), (rb1, .inl (cI, rb_n * 20, .inl rb_c)), (rb2, .inl (cI, rb_n, .inl rb_l)), (rb3, .inl (cI, 21, .inl rb_o))]) [0, 1, 2, 3] rfl
          have hDc := hD.sub (ws' := [(rb, .inr (2, [.ref rb1, .ref rb2, .ref rb3, .int rb_u])), (rb1, .inl (cI, rb_n * 20, .inl rb_c)), (rb2, .inl (cI, rb_n, .inl rb_l)), (rb3, .inl (cI, 21, .inl rb_o))]) [0, 1, 2, 3] (by decide) rfl
          have hFc := va_free (wc := [(rb, .inr (2, [.ref rb1, .ref rb2, .ref rb3, .int rb_u])), (rb1, .inl (cI, rb_n * 20, .inl rb_c)), (rb2, .inl (cI, rb_n, .inl rb_l)), (rb3, .inl (cI, 21, .inl rb_o))]) hD hS hA [0, 1, 2, 3] rfl
          refine va_calli (va_runV (As := [.int p1, .int x6]) (rest := []) ⟨hx, hb, hml, hown, hts⟩ (c_X2_cellAt l dC dI cI cJ cB rb rb1 rb2 rb3 H.size rb_n rb_u rb_c rb_l rb_o p1 x6 (by first | assumption | omega | decide | (simp only [lt0, lt1, ltm1, lt400] at *; omega))) (cwV 2 hts go_wo_X2_compare_1 rfl rfl rfl (by decide +kernel) ⟨Nat.le_of_ble_eq_true rfl, Nat.le_of_ble_eq_true rfl⟩) ⟨fun a U g mk q => by obtain ⟨q0, q1, qN, qP, qK, qD⟩ := q; exact ⟨q0, q1, NW.calling qN, qP, va_K.moved (u := U) (U := U.calling g mk a) (Vm.Alike.refl U.vm) qK, qD⟩, va_recv hK hPc (ci := 2) (q0 := 0) rfl rfl, fun U hU hW => ⟨rfl, by rw [hU], NW.warm hW hnw, by rw [hU]; exact hPc, va_K.moved hW.alike hK, hDc.weaken (fun _ _ _ _ => trivial)⟩⟩ rfl rfl hl.1 rfl (lv_room (Nat.le_of_ble_eq_true rfl)) dX2_compare_44 ⟨Nat.zero_le _, Nat.zero_le _⟩) hS (fun q _ h => hFc q h) hFc (fun r_6 u t H1 locs ht hvm hw hB hz1 hk1 hS => ?_)
          cases u
          obtain ⟨hP1, hK1, hD1⟩ := hB
          rw [ht] at hP1
          clear hw
          obtain ⟨hP, hD⟩ := va_join (wr := [(ra, .inr (2, [.ref ra1, .ref ra2, .ref ra3, .int ra_u])), (ra1, .inl (cI, ra_n * 20, .inl ra_c)), (ra2, .inl (cI, ra_n, .inl ra_l)), (ra3, .inl (cI, 21, .inl ra_o))]) (w1 := [(rb, .inr (2, [.ref rb1, .ref rb2, .ref rb3, .int rb_u])), (rb1, .inl (cI, rb_n * 20, .inl rb_c)), (rb2, .inl (cI, rb_n, .inl rb_l)), (rb3, .inl (cI, 21, .inl rb_o))]) hP hD [0, 1, 2, 3] [4, 5, 6, 7] rfl rfl (by decide) (by decide) hk1 hFc hP1 hD1
          generalize H1 = H at hP hS ⊢
          have hP : va_P (dC, dI) vwCl [(ra, .inr (2, [.ref ra1, .ref ra2, .ref ra3, .int ra_u])), (ra1, .inl (cI, ra_n * 20, .inl ra_c)), (ra2, .inl (cI, ra_n, .inl ra_l)), (ra3, .inl (cI, 21, .inl ra_o)), (rb, .inr (2, [.ref rb1, .ref rb2, .ref rb3, .int rb_u])), (rb1, .inl (cI, rb_n * 20, .inl rb_c)), (rb2, .inl (cI, rb_n, .inl rb_l)), (rb3, .inl (cI, 21, .inl rb_o))] H := hP
          have hD : va_D (va_A (ww_X2_compare dC dI cI cJ cB ra ra1 ra2 ra3 rb rb1 rb2 rb3 s.heap.size ra_n ra_u ra_c ra_l ra_o rb_n rb_u rb_c rb_l rb_o p0 p1) s.heap.size) [(ra, .inr (2, [.ref ra1, .ref ra2, .ref ra3, .int ra_u])), (ra1, .inl (cI, ra_n * 20, .inl ra_c)), (ra2, .inl (cI, ra_n, .inl ra_l)), (ra3, .inl (cI, 21, .inl ra_o)), (rb, .inr (2, [.ref rb1, .ref rb2, .ref rb3, .int rb_u])), (rb1, .inl (cI, rb_n * 20, .inl rb_c)), (rb2, .inl (cI, rb_n, .inl rb_l)), (rb3, .inl (cI, 21, .inl rb_o))] := hD
          clear hPc hDc hFc hP1 hK1 hD1 hk1 hz1 ht hvm
          refine lv_istore (lv' := [(8, .int r_6), (7, .int r_5), (0, .ref ra), (1, .int p0), (2, .ref rb), (3, .int p1), (4, .int x4), (5, .int x5), (6, .int x6)]) hx hb dX2_compare_47 hl (by decide) rfl (fun ls hl => ?_)
          refine lv_iload hx hb dX2_compare_49 (lv_at hl 1 rfl) ?_
          refine lv_iload hx hb dX2_compare_51 (lv_at hl 0 rfl) ?_
          refine lv_icmp_eq (tgt := 69) hx hb dX2_compare_53 (by decide) (fun c_7 => ?_) (fun c_7 => ?_)
          · have tc_7 : r_5.toInt = r_6.toInt := tb_eq_t c_7
            have := ti_rng r_5
            have := ti_rng r_6
            obtain ⟨x6_8, ex6_8⟩ : ∃ y : Int32, y = x6 + (1) := ⟨_, rfl⟩
            refine lv_iinc (v := x6_8) (lv' := [(6, .int x6_8), (8, .int r_6), (7, .int r_5), (0, .ref ra), (1, .int p0), (2, .ref rb), (3, .int p1), (4, .int x4), (5, .int x5)]) hx hb dX2_compare_69 hl (k := 8) rfl (by rw [ex6_8]; rfl) (by decide) rfl (fun ls hl => ?_)
            have := ti_rng x6
            have tex6_8 : x6_8.toInt = x6.toInt + (1) := ti_inc ex6_8 (by decide) (by omega) (by omega)
            refine lv_goto (tgt := 17) hx hb dX2_compare_72 (by decide) ?_
            exact ih_17 x4 x5 x6_8 (by omega) _ _ (hP.sub [0, 1, 2, 3, 4, 5, 6, 7] rfl) (hD.sub [0, 1, 2, 3, 4, 5, 6, 7] (by decide) rfl) hS ls (lv_sub hl [3, 4, 5, 6, 7, 8, 0] rfl)
          · have tc_7 : ¬ (r_5.toInt = r_6.toInt) := tb_eq_f c_7
            have := ti_rng r_5
            have := ti_rng r_6
            refine lv_iload hx hb dX2_compare_56 (lv_at hl 1 rfl) ?_
            refine lv_iload hx hb dX2_compare_58 (lv_at hl 0 rfl) ?_
            refine lv_icmp_ge (tgt := 67) hx hb dX2_compare_60 (by decide) (fun c_9 => ?_) (fun c_9 => ?_)
            · have tc_9 : r_6.toInt ≤ r_5.toInt := tb_ge_t c_9
              refine lv_iconst (v := 1) hx hb dX2_compare_67 (by decide) ?_
              have hP9 := hP.sub (ws' := [(ra, .inr (2, [.ref ra1, .ref ra2, .ref ra3, .int ra_u])), (ra1, .inl (cI, ra_n * 20, .inl ra_c)), (ra2, .inl (cI, ra_n, .inl ra_l)), (ra3, .inl (cI, 21, .inl ra_o)), (rb, .inr (2, [.ref rb1, .ref rb2, .ref rb3, .int rb_u])), (rb1, .inl (cI, rb_n * 20, .inl rb_c)), (rb2, .inl (cI, rb_n, .inl rb_l)), (rb3, .inl (cI, 21, .inl rb_o))]) [0, 1, 2, 3, 4, 5, 6, 7] rfl
              have hD9 := hD.sub (ws' := [(ra, .inr (2, [.ref ra1, .ref ra2, .ref ra3, .int ra_u])), (ra1, .inl (cI, ra_n * 20, .inl ra_c)), (ra2, .inl (cI, ra_n, .inl ra_l)), (ra3, .inl (cI, 21, .inl ra_o)), (rb, .inr (2, [.ref rb1, .ref rb2, .ref rb3, .int rb_u])), (rb1, .inl (cI, rb_n * 20, .inl rb_c)), (rb2, .inl (cI, rb_n, .inl rb_l)), (rb3, .inl (cI, 21, .inl rb_o))]) [0, 1, 2, 3, 4, 5, 6, 7] (by decide) rfl
              exact W.iret (v := (1 : Int32)) hx hb hr (fun t ht hW => ⟨⟨(1 : Int32), (), rfl, trivial, by rw [ht]; exact hP9, va_K.moved hW.alike hK, hD9⟩, hS.F ht⟩) hS.2.2 dX2_compare_68
            · have tc_9 : r_5.toInt < r_6.toInt := tb_ge_f c_9
              refine lv_iconst (v := -1) hx hb dX2_compare_63 (by decide) ?_
              refine lv_goto (tgt := 68) hx hb dX2_compare_64 (by decide) ?_
              have hP9 := hP.sub (ws' := [(ra, .inr (2, [.ref ra1, .ref ra2, .ref ra3, .int ra_u])), (ra1, .inl (cI, ra_n * 20, .inl ra_c)), (ra2, .inl (cI, ra_n, .inl ra_l)), (ra3, .inl (cI, 21, .inl ra_o)), (rb, .inr (2, [.ref rb1, .ref rb2, .ref rb3, .int rb_u])), (rb1, .inl (cI, rb_n * 20, .inl rb_c)), (rb2, .inl (cI, rb_n, .inl rb_l)), (rb3, .inl (cI, 21, .inl rb_o))]) [0, 1, 2, 3, 4, 5, 6, 7] rfl
              have hD9 := hD.sub (ws' := [(ra, .inr (2, [.ref ra1, .ref ra2, .ref ra3, .int ra_u])), (ra1, .inl (cI, ra_n * 20, .inl ra_c)), (ra2, .inl (cI, ra_n, .inl ra_l)), (ra3, .inl (cI, 21, .inl ra_o)), (rb, .inr (2, [.ref rb1, .ref rb2, .ref rb3, .int rb_u])), (rb1, .inl (cI, rb_n * 20, .inl rb_c)), (rb2, .inl (cI, rb_n, .inl rb_l)), (rb3, .inl (cI, 21, .inl rb_o))]) [0, 1, 2, 3, 4, 5, 6, 7] (by decide) rfl
              exact W.iret (v := (-1 : Int32)) hx hb hr (fun t ht hW => ⟨⟨(-1 : Int32), (), rfl, trivial, by rw [ht]; exact hP9, va_K.moved hW.alike hK, hD9⟩, hS.F ht⟩) hS.2.2 dX2_compare_68
  refine lv_aload_n hx hb dX2_compare_0 rfl (lv_at hl 0 rfl) ?_
  refine lv_iload_n hx hb dX2_compare_1 rfl (lv_at hl 1 rfl) ?_
  have hPc := hP.sub (ws' := [(ra, .inr (2, [.ref ra1, .ref ra2, .ref ra3, .int ra_u])), (ra1, .inl (cI, ra_n * 20, .inl ra_c)), (ra2, .inl (cI, ra_n, .inl ra_l)), (ra3, .inl (cI, 21, .inl ra_o))]) [0, 1, 2, 3] rfl
  have hDc := hD.sub (ws' := [(ra, .inr (2, [.ref ra1, .ref ra2, .ref ra3, .int ra_u])), (ra1, .inl (cI, ra_n * 20, .inl ra_c)), (ra2, .inl (cI, ra_n, .inl ra_l)), (ra3, .inl (cI, 21, .inl ra_o))]) [0, 1, 2, 3] (by decide) rfl
  have hFc := va_free (wc := [(ra, .inr (2, [.ref ra1, .ref ra2, .ref ra3, .int ra_u])), (ra1, .inl (cI, ra_n * 20, .inl ra_c)), (ra2, .inl (cI, ra_n, .inl ra_l)), (ra3, .inl (cI, 21, .inl ra_o))]) hD hS hA [0, 1, 2, 3] rfl
  refine va_calli (va_runV (As := [.int p0]) (rest := []) ⟨hx, hb, hml, hown, hts⟩ (c_X2_lengthOf l dC dI cI cJ cB ra ra1 ra2 ra3 H.size ra_n ra_u ra_c ra_l ra_o p0 (by first | assumption | omega | decide | (simp only [lt0, lt1, ltm1, lt400] at *; omega))) (cwV 1 hts go_wo_X2_compare_2 rfl rfl rfl (by decide +kernel) ⟨Nat.le_of_ble_eq_true rfl, Nat.le_of_ble_eq_true rfl⟩) ⟨fun a U g mk q => by obtain ⟨q0, q1, qN, qP, qK, qD⟩ := q; exact ⟨q0, q1, NW.calling qN, qP, va_K.moved (u := U) (U := U.calling g mk a) (Vm.Alike.refl U.vm) qK, qD⟩, va_recv hK hPc (ci := 2) (q0 := 0) rfl rfl, fun U hU hW => ⟨rfl, by rw [hU], NW.warm hW hnw, by rw [hU]; exact hPc, va_K.moved hW.alike hK, hDc.weaken (fun _ _ _ _ => trivial)⟩⟩ rfl rfl hl.1 rfl (lv_room (Nat.le_of_ble_eq_true rfl)) dX2_compare_2 ⟨Nat.zero_le _, Nat.zero_le _⟩) hS (fun q _ h => hFc q h) hFc (fun r_10 u t H1 locs ht hvm hw hB hz1 hk1 hS => ?_)
  cases u
  obtain ⟨hP1, hK1, hD1⟩ := hB
  rw [ht] at hP1
  clear hw
  obtain ⟨hP, hD⟩ := va_join (wr := [(rb, .inr (2, [.ref rb1, .ref rb2, .ref rb3, .int rb_u])), (rb1, .inl (cI, rb_n * 20, .inl rb_c)), (rb2, .inl (cI, rb_n, .inl rb_l)), (rb3, .inl (cI, 21, .inl rb_o))]) (w1 := [(ra, .inr (2, [.ref ra1, .ref ra2, .ref ra3, .int ra_u])), (ra1, .inl (cI, ra_n * 20, .inl ra_c)), (ra2, .inl (cI, ra_n, .inl ra_l)), (ra3, .inl (cI, 21, .inl ra_o))]) hP hD [0, 1, 2, 3] [4, 5, 6, 7] rfl rfl (by decide) (by decide) hk1 hFc hP1 hD1
  generalize H1 = H at hP hS ⊢
  have hP : va_P (dC, dI) vwCl [(rb, .inr (2, [.ref rb1, .ref rb2, .ref rb3, .int rb_u])), (rb1, .inl (cI, rb_n * 20, .inl rb_c)), (rb2, .inl (cI, rb_n, .inl rb_l)), (rb3, .inl (cI, 21, .inl rb_o)), (ra, .inr (2, [.ref ra1, .ref ra2, .ref ra3, .int ra_u])), (ra1, .inl (cI, ra_n * 20, .inl ra_c)), (ra2, .inl (cI, ra_n, .inl ra_l)), (ra3, .inl (cI, 21, .inl ra_o))] H := hP
  have hD : va_D (va_A (ww_X2_compare dC dI cI cJ cB ra ra1 ra2 ra3 rb rb1 rb2 rb3 s.heap.size ra_n ra_u ra_c ra_l ra_o rb_n rb_u rb_c rb_l rb_o p0 p1) s.heap.size) [(rb, .inr (2, [.ref rb1, .ref rb2, .ref rb3, .int rb_u])), (rb1, .inl (cI, rb_n * 20, .inl rb_c)), (rb2, .inl (cI, rb_n, .inl rb_l)), (rb3, .inl (cI, 21, .inl rb_o)), (ra, .inr (2, [.ref ra1, .ref ra2, .ref ra3, .int ra_u])), (ra1, .inl (cI, ra_n * 20, .inl ra_c)), (ra2, .inl (cI, ra_n, .inl ra_l)), (ra3, .inl (cI, 21, .inl ra_o))] := hD
  clear hPc hDc hFc hP1 hK1 hD1 hk1 hz1 ht hvm
  refine lv_istore (lv' := [(4, .int r_10), (0, .ref ra), (1, .int p0), (2, .ref rb), (3, .int p1)]) hx hb dX2_compare_5 hl (by decide) rfl (fun ls hl => ?_)
  refine lv_aload_n hx hb dX2_compare_7 rfl (lv_at hl 3 rfl) ?_
  refine lv_iload_n hx hb dX2_compare_8 rfl (lv_at hl 4 rfl) ?_
  have hPc := hP.sub (ws' := [(rb, .inr (2, [.ref rb1, .ref rb2, .ref rb3, .int rb_u])), (rb1, .inl (cI, rb_n * 20, .inl rb_c)), (rb2, .inl (cI, rb_n, .inl rb_l)), (rb3, .inl (cI, 21, .inl rb_o))]) [0, 1, 2, 3] rfl
  have hDc := hD.sub (ws' := [(rb, .inr (2, [.ref rb1, .ref rb2, .ref rb3, .int rb_u])), (rb1, .inl (cI, rb_n * 20, .inl rb_c)), (rb2, .inl (cI, rb_n, .inl rb_l)), (rb3, .inl (cI, 21, .inl rb_o))]) [0, 1, 2, 3] (by decide) rfl
  have hFc := va_free (wc := [(rb, .inr (2, [.ref rb1, .ref rb2, .ref rb3, .int rb_u])), (rb1, .inl (cI, rb_n * 20, .inl rb_c)), (rb2, .inl (cI, rb_n, .inl rb_l)), (rb3, .inl (cI, 21, .inl rb_o))]) hD hS hA [0, 1, 2, 3] rfl
  refine va_calli (va_runV (As := [.int p1]) (rest := []) ⟨hx, hb, hml, hown, hts⟩ (c_X2_lengthOf l dC dI cI cJ cB rb rb1 rb2 rb3 H.size rb_n rb_u rb_c rb_l rb_o p1 (by first | assumption | omega | decide | (simp only [lt0, lt1, ltm1, lt400] at *; omega))) (cwV 1 hts go_wo_X2_compare_2 rfl rfl rfl (by decide +kernel) ⟨Nat.le_of_ble_eq_true rfl, Nat.le_of_ble_eq_true rfl⟩) ⟨fun a U g mk q => by obtain ⟨q0, q1, qN, qP, qK, qD⟩ := q; exact ⟨q0, q1, NW.calling qN, qP, va_K.moved (u := U) (U := U.calling g mk a) (Vm.Alike.refl U.vm) qK, qD⟩, va_recv hK hPc (ci := 2) (q0 := 0) rfl rfl, fun U hU hW => ⟨rfl, by rw [hU], NW.warm hW hnw, by rw [hU]; exact hPc, va_K.moved hW.alike hK, hDc.weaken (fun _ _ _ _ => trivial)⟩⟩ rfl rfl hl.1 rfl (lv_room (Nat.le_of_ble_eq_true rfl)) dX2_compare_9 ⟨Nat.zero_le _, Nat.zero_le _⟩) hS (fun q _ h => hFc q h) hFc (fun r_11 u t H1 locs ht hvm hw hB hz1 hk1 hS => ?_)
  cases u
  obtain ⟨hP1, hK1, hD1⟩ := hB
  rw [ht] at hP1
  clear hw
  obtain ⟨hP, hD⟩ := va_join (wr := [(ra, .inr (2, [.ref ra1, .ref ra2, .ref ra3, .int ra_u])), (ra1, .inl (cI, ra_n * 20, .inl ra_c)), (ra2, .inl (cI, ra_n, .inl ra_l)), (ra3, .inl (cI, 21, .inl ra_o))]) (w1 := [(rb, .inr (2, [.ref rb1, .ref rb2, .ref rb3, .int rb_u])), (rb1, .inl (cI, rb_n * 20, .inl rb_c)), (rb2, .inl (cI, rb_n, .inl rb_l)), (rb3, .inl (cI, 21, .inl rb_o))]) hP hD [0, 1, 2, 3] [4, 5, 6, 7] rfl rfl (by decide) (by decide) hk1 hFc hP1 hD1
  generalize H1 = H at hP hS ⊢
  have hP : va_P (dC, dI) vwCl [(ra, .inr (2, [.ref ra1, .ref ra2, .ref ra3, .int ra_u])), (ra1, .inl (cI, ra_n * 20, .inl ra_c)), (ra2, .inl (cI, ra_n, .inl ra_l)), (ra3, .inl (cI, 21, .inl ra_o)), (rb, .inr (2, [.ref rb1, .ref rb2, .ref rb3, .int rb_u])), (rb1, .inl (cI, rb_n * 20, .inl rb_c)), (rb2, .inl (cI, rb_n, .inl rb_l)), (rb3, .inl (cI, 21, .inl rb_o))] H := hP
  have hD : va_D (va_A (ww_X2_compare dC dI cI cJ cB ra ra1 ra2 ra3 rb rb1 rb2 rb3 s.heap.size ra_n ra_u ra_c ra_l ra_o rb_n rb_u rb_c rb_l rb_o p0 p1) s.heap.size) [(ra, .inr (2, [.ref ra1, .ref ra2, .ref ra3, .int ra_u])), (ra1, .inl (cI, ra_n * 20, .inl ra_c)), (ra2, .inl (cI, ra_n, .inl ra_l)), (ra3, .inl (cI, 21, .inl ra_o)), (rb, .inr (2, [.ref rb1, .ref rb2, .ref rb3, .int rb_u])), (rb1, .inl (cI, rb_n * 20, .inl rb_c)), (rb2, .inl (cI, rb_n, .inl rb_l)), (rb3, .inl (cI, 21, .inl rb_o))] := hD
  clear hPc hDc hFc hP1 hK1 hD1 hk1 hz1 ht hvm
  refine lv_istore (lv' := [(5, .int r_11), (4, .int r_10), (0, .ref ra), (1, .int p0), (2, .ref rb), (3, .int p1)]) hx hb dX2_compare_12 hl (by decide) rfl (fun ls hl => ?_)
  refine lv_iconst (v := 0) hx hb dX2_compare_14 (by decide) ?_
  refine lv_istore (lv' := [(6, .int ((0 : Int32))), (5, .int r_11), (4, .int r_10), (0, .ref ra), (1, .int p0), (2, .ref rb), (3, .int p1)]) hx hb dX2_compare_15 hl (by decide) rfl (fun ls hl => ?_)
  exact L_17 (((2147483647 - ((0 : Int32)).toInt).toNat) + 1) r_10 r_11 ((0 : Int32)) (Nat.lt_succ_self _) _ _ (hP.sub [0, 1, 2, 3, 4, 5, 6, 7] rfl) (hD.sub [0, 1, 2, 3, 4, 5, 6, 7] (by decide) rfl) hS ls (lv_sub hl [3, 4, 5, 6, 2, 1, 0] rfl)
def wo_X2_compare_s : List Cond := .code yX2_compare cX2_compare 9 (some .int) :: (([] : List Cond) ++ ((va_wsS RX2 53 yJ6_compare_7cf53 wo_J6_compare_7cf53) ++ ((wsV RX2 46 RX2 yX2_cellAt wo_X2_cellAt) ++ ((wsV RX2 34 RX2 yX2_lengthOf wo_X2_lengthOf)))))
set_option maxRecDepth 20000 in
theorem go_wo_X2_compare_s_0 : GoodIn wo_X2_compare_s (va_wsS RX2 53 yJ6_compare_7cf53 wo_J6_compare_7cf53) := goodIn_sub (fun _ h => (List.mem_cons_of_mem _ (List.mem_append_right _ (List.mem_append_left _ h)))) (by decide +kernel)
set_option maxRecDepth 20000 in
theorem go_wo_X2_compare_s_1 : GoodIn wo_X2_compare_s (wsV RX2 46 RX2 yX2_cellAt wo_X2_cellAt) := goodIn_sub (fun _ h => (List.mem_cons_of_mem _ (List.mem_append_right _ (List.mem_append_right _ (List.mem_append_left _ h))))) (by decide +kernel)
set_option maxRecDepth 20000 in
theorem go_wo_X2_compare_s_2 : GoodIn wo_X2_compare_s (wsV RX2 34 RX2 yX2_lengthOf wo_X2_lengthOf) := goodIn_sub (fun _ h => (List.mem_cons_of_mem _ (List.mem_append_right _ (List.mem_append_right _ (List.mem_append_right _ h))))) (by decide +kernel)
abbrev ww_X2_compare_s (dC : Nat → ClassId) (dI : Nat → Nat → Nat) (cI cJ cB : ClassId) (ra ra1 ra2 ra3 : Nat) (sz : Nat) (ra_n : Nat) (ra_u : Int32) (ra_c : Nat → Int32) (ra_l : Nat → Int32) (ra_o : Nat → Int32) (p0 : Int32) (p1 : Int32) : va_W := [(ra, .inr (2, [.ref ra1, .ref ra2, .ref ra3, .int ra_u])), (ra1, .inl (cI, ra_n * 20, .inl ra_c)), (ra2, .inl (cI, ra_n, .inl ra_l)), (ra3, .inl (cI, 21, .inl ra_o))]
abbrev at_X2_compare_s (dC : Nat → ClassId) (dI : Nat → Nat → Nat) (cI cJ cB : ClassId) (ra ra1 ra2 ra3 : Nat) (sz : Nat) (ra_n : Nat) (ra_u : Int32) (ra_c : Nat → Int32) (ra_l : Nat → Int32) (ra_o : Nat → Int32) (p0 : Int32) (p1 : Int32) (u : Unit) (t : State) : Prop := match u with
  | () => va_P (dC, dI) vwCl [(ra, .inr (2, [.ref ra1, .ref ra2, .ref ra3, .int ra_u])), (ra1, .inl (cI, ra_n * 20, .inl ra_c)), (ra2, .inl (cI, ra_n, .inl ra_l)), (ra3, .inl (cI, 21, .inl ra_o))] t.heap ∧ va_K (dC, dI) vwCl (tyL cI cJ cB) t ∧ va_D (va_A (ww_X2_compare_s dC dI cI cJ cB ra ra1 ra2 ra3 sz ra_n ra_u ra_c ra_l ra_o p0 p1) sz) [(ra, .inr (2, [.ref ra1, .ref ra2, .ref ra3, .int ra_u])), (ra1, .inl (cI, ra_n * 20, .inl ra_c)), (ra2, .inl (cI, ra_n, .inl ra_l)), (ra3, .inl (cI, 21, .inl ra_o))]
abbrev qc_X2_compare_s (dC : Nat → ClassId) (dI : Nat → Nat → Nat) (cI cJ cB : ClassId) (ra ra1 ra2 ra3 : Nat) (sz : Nat) (ra_n : Nat) (ra_u : Int32) (ra_c : Nat → Int32) (ra_l : Nat → Int32) (ra_o : Nat → Int32) (p0 : Int32) (p1 : Int32) : Array Value → State → Outcome → State → Prop := va_Qi (fun (r : Int32) (u : Unit) => match u with | () => True) (at_X2_compare_s dC dI cI cJ cB ra ra1 ra2 ra3 sz ra_n ra_u ra_c ra_l ra_o p0 p1) (va_A (ww_X2_compare_s dC dI cI cJ cB ra ra1 ra2 ra3 sz ra_n ra_u ra_c ra_l ra_o p0 p1) sz)
abbrev pc_X2_compare_s (dC : Nat → ClassId) (dI : Nat → Nat → Nat) (cI cJ cB : ClassId) (ra ra1 ra2 ra3 : Nat) (sz : Nat) (ra_n : Nat) (ra_u : Int32) (ra_c : Nat → Int32) (ra_l : Nat → Int32) (ra_o : Nat → Int32) (p0 : Int32) (p1 : Int32) : Array Value → State → Prop := va_Pc [.ref ra, .int p0, .ref ra, .int p1] (fun U => U.heap.size = sz ∧ NW U ∧ va_P (dC, dI) vwCl (ww_X2_compare_s dC dI cI cJ cB ra ra1 ra2 ra3 sz ra_n ra_u ra_c ra_l ra_o p0 p1) U.heap ∧ va_K (dC, dI) vwCl (tyL cI cJ cB) U ∧ va_D (fun _ => True) (ww_X2_compare_s dC dI cI cJ cB ra ra1 ra2 ra3 sz ra_n ra_u ra_c ra_l ra_o p0 p1))
abbrev rm_X2_compare_s : Room := { frames := 1, cells := 0, slots := 0, locals := 23 }
abbrev WW_X2_compare_s (p : Program) (l : Launch) (e : Env) (s : State) (m : MethodId) (below : List Frame) (meth : Method) (c : Code) (dC : Nat → ClassId) (dI : Nat → Nat → Nat) (cI cJ cB : ClassId) (ra ra1 ra2 ra3 : Nat) (sz : Nat) (ra_n : Nat) (ra_u : Int32) (ra_c : Nat → Int32) (ra_l : Nat → Int32) (ra_o : Nat → Int32) (p0 : Int32) (p1 : Int32) (H : Heap) (locs : List Loc) (g : JFrame) : Prop := W p l e rm_X2_compare_s s m ([.ref ra, .int p0, .ref ra, .int p1] : List Value).toArray below meth c H locs 0 0 (MQ below (qc_X2_compare_s dC dI cI cJ cB ra ra1 ra2 ra3 sz ra_n ra_u ra_c ra_l ra_o p0 p1) ([.ref ra, .int p0, .ref ra, .int p1] : List Value).toArray s 0 0 (va_A (ww_X2_compare_s dC dI cI cJ cB ra ra1 ra2 ra3 sz ra_n ra_u ra_c ra_l ra_o p0 p1) sz)) g
set_option maxHeartbeats 4000000 in
set_option maxRecDepth 100000 in
theorem c_X2_compare_s (l : Launch) (dC : Nat → ClassId) (dI : Nat → Nat → Nat) (cI cJ cB : ClassId) (ra ra1 ra2 ra3 : Nat) (sz : Nat) (ra_n : Nat) (ra_u : Int32) (ra_c : Nat → Int32) (ra_l : Nat → Int32) (ra_o : Nat → Int32) (p0 : Int32) (p1 : Int32) (hn_ra : 1 ≤ ra_n ∧ ra_n ≤ 201) : Met l yX2_compare wo_X2_compare_s rm_X2_compare_s (pc_X2_compare_s dC dI cI cJ cB ra ra1 ra2 ra3 sz ra_n ra_u ra_c ra_l ra_o p0 p1) (qc_X2_compare_s dC dI cI cJ cB ra ra1 ra2 ra3 sz ra_n ra_u ra_c ra_l ra_o p0 p1) 0 0 (va_A (ww_X2_compare_s dC dI cI cJ cB ra ra1 ra2 ra3 sz ra_n ra_u ra_c ra_l ra_o p0 p1) sz) := by
  refine Met.ofW (cc := cX2_compare) (maxL := 9) (ret := (some .int)) (by decide) rfl ?_
  intro p e s m args below meth c s₁ B hml hv
  obtain ⟨rfl, hsz, hnw, hP, hK, hD0⟩ := hv
  have hx := B.exec
  have hb := B.bytes
  have hr := B.returns
  have hts := atoms_spec (ws := wo_X2_compare_s) B.pre
  have hown : s.vm.findClass RX2 = some m.cls := findClass_of_methodNamed B.named
  have hlocks := B.notSynchronized
  clear B
  subst hsz
  have hD := hD0.self (sz := s.heap.size)
  clear hD0
  have hA : ∀ q : Nat, s.heap.size ≤ q → (va_A (ww_X2_compare_s dC dI cI cJ cB ra ra1 ra2 ra3 s.heap.size ra_n ra_u ra_c ra_l ra_o p0 p1) s.heap.size) q := fun q h => Or.inr h
  have hS : va_S (va_A (ww_X2_compare_s dC dI cI cJ cB ra ra1 ra2 ra3 s.heap.size ra_n ra_u ra_c ra_l ra_o p0 p1) s.heap.size) s.heap s.heap [] := va_S.rf
  have hl := lv_entry ([.ref ra, .int p0, .ref ra, .int p1]) (n := 9) (Nat.le_of_ble_eq_true rfl)
  rw [lg_entry_eq]
  generalize (lg_sl ([.ref ra, .int p0, .ref ra, .int p1]) ++ List.replicate (9 - (lg_sl ([.ref ra, .int p0, .ref ra, .int p1])).length) Slot.unset).toArray = ls at hl ⊢
  have hl : lv_has ls 9 [(0, .ref ra), (1, .int p0), (2, .ref ra), (3, .int p1)] := hl
  have hP : va_P (dC, dI) vwCl [(ra, .inr (2, [.ref ra1, .ref ra2, .ref ra3, .int ra_u])), (ra1, .inl (cI, ra_n * 20, .inl ra_c)), (ra2, .inl (cI, ra_n, .inl ra_l)), (ra3, .inl (cI, 21, .inl ra_o))] s.heap := hP
  have hD : va_D (va_A (ww_X2_compare_s dC dI cI cJ cB ra ra1 ra2 ra3 s.heap.size ra_n ra_u ra_c ra_l ra_o p0 p1) s.heap.size) [(ra, .inr (2, [.ref ra1, .ref ra2, .ref ra3, .int ra_u])), (ra1, .inl (cI, ra_n * 20, .inl ra_c)), (ra2, .inl (cI, ra_n, .inl ra_l)), (ra3, .inl (cI, 21, .inl ra_o))] := hD
  obtain ⟨H, hH⟩ : ∃ H, H = s.heap := ⟨_, rfl⟩
  obtain ⟨locs, hlc⟩ : ∃ L : List Loc, L = [] := ⟨_, rfl⟩
  have hS : va_S (va_A (ww_X2_compare_s dC dI cI cJ cB ra ra1 ra2 ra3 s.heap.size ra_n ra_u ra_c ra_l ra_o p0 p1) s.heap.size) s.heap H locs := by rw [hH, hlc]; exact hS
  have hP : va_P (dC, dI) vwCl [(ra, .inr (2, [.ref ra1, .ref ra2, .ref ra3, .int ra_u])), (ra1, .inl (cI, ra_n * 20, .inl ra_c)), (ra2, .inl (cI, ra_n, .inl ra_l)), (ra3, .inl (cI, 21, .inl ra_o))] H := by rw [hH]; exact hP
  suffices hgo : WW_X2_compare_s p l e s m below meth c dC dI cI cJ cB ra ra1 ra2 ra3 s.heap.size ra_n ra_u ra_c ra_l ra_o p0 p1 H locs (F0 m 0 ls []) by rw [hH, hlc] at hgo; exact hgo
  clear hH hlc
  have L_17 : ∀ (N_17 : Nat), ∀ (x4 : Int32) (x5 : Int32) (x6 : Int32), ((2147483647 - x6.toInt).toNat) < N_17 → ∀ (H : Heap) (locs : List Loc), va_P (dC, dI) vwCl [(ra, .inr (2, [.ref ra1, .ref ra2, .ref ra3, .int ra_u])), (ra1, .inl (cI, ra_n * 20, .inl ra_c)), (ra2, .inl (cI, ra_n, .inl ra_l)), (ra3, .inl (cI, 21, .inl ra_o))] H → va_D (va_A (ww_X2_compare_s dC dI cI cJ cB ra ra1 ra2 ra3 s.heap.size ra_n ra_u ra_c ra_l ra_o p0 p1) s.heap.size) [(ra, .inr (2, [.ref ra1, .ref ra2, .ref ra3, .int ra_u])), (ra1, .inl (cI, ra_n * 20, .inl ra_c)), (ra2, .inl (cI, ra_n, .inl ra_l)), (ra3, .inl (cI, 21, .inl ra_o))] → va_S (va_A (ww_X2_compare_s dC dI cI cJ cB ra ra1 ra2 ra3 s.heap.size ra_n ra_u ra_c ra_l ra_o p0 p1) s.heap.size) s.heap H locs → ∀ ls : Array Slot, lv_has ls 9 [(0, .ref ra), (1, .int p0), (2, .ref ra), (3, .int p1), (4, .int x4), (5, .int x5), (6, .int x6)] → WW_X2_compare_s p l e s m below meth c dC dI cI cJ cB ra ra1 ra2 ra3 s.heap.size ra_n ra_u ra_c ra_l ra_o p0 p1 H locs (F0 m 17 ls []) := by
    intro N_17
    induction N_17 with
    | zero => intro x4 x5 x6  hm; exact absurd hm (Nat.not_lt_zero _)
    | succ N_17 ih_17 =>
      intro x4 x5 x6  hm_17 H locs hP hD hS ls hl
      refine lv_iload hx hb dX2_compare_17 (lv_at hl 6 rfl) ?_
      refine lv_iload hx hb dX2_compare_19 (lv_at hl 4 rfl) ?_
      refine lv_icmp_ge (tgt := 75) hx hb dX2_compare_21 (by decide) (fun c_1 => ?_) (fun c_1 => ?_)
      · have tc_1 : x4.toInt ≤ x6.toInt := tb_ge_t c_1
        have := ti_rng x6
        have := ti_rng x4
        refine lv_iload hx hb dX2_compare_75 (lv_at hl 4 rfl) ?_
        refine lv_iload hx hb dX2_compare_77 (lv_at hl 5 rfl) ?_
        have hPc := hP.sub (ws' := []) [] rfl
        have hDc := hD.sub (ws' := []) [] (by decide) rfl
        have hFc := va_free (wc := []) hD hS hA [] rfl
        refine va_calli (va_runS (As := [.int x4, .int x5]) (rest := []) ⟨hx, hb, hml, hown, hts⟩ (c_J6_compare_7cf53 l dC dI cI cJ cB  H.size x4 x5) (va_cwS 2 hts go_wo_X2_compare_s_0 rfl rfl rfl (by decide +kernel) ⟨Nat.le_of_ble_eq_true rfl, Nat.le_of_ble_eq_true rfl⟩) ⟨fun a U g mk q => by obtain ⟨q0, q1, qN, qP, qK, qD⟩ := q; exact ⟨q0, q1, NW.calling qN, qP, va_K.moved (u := U) (U := U.calling g mk a) (Vm.Alike.refl U.vm) qK, qD⟩, fun U hU hW => ⟨rfl, by rw [hU], NW.warm hW hnw, by rw [hU]; exact hPc, va_K.moved hW.alike hK, hDc.weaken (fun _ _ _ _ => trivial)⟩⟩ rfl rfl hl.1 rfl (lv_room (Nat.le_of_ble_eq_true rfl)) dX2_compare_79 ⟨Nat.zero_le _, Nat.zero_le _⟩) hS (fun q _ h => hFc q h) hFc (fun r_2 u t H1 locs ht hvm hw hB hz1 hk1 hS => ?_)
        cases u
        obtain ⟨hP1, hK1, hD1⟩ := hB
        rw [ht] at hP1
        clear hw
        obtain ⟨hP, hD⟩ := va_join (wr := [(ra, .inr (2, [.ref ra1, .ref ra2, .ref ra3, .int ra_u])), (ra1, .inl (cI, ra_n * 20, .inl ra_c)), (ra2, .inl (cI, ra_n, .inl ra_l)), (ra3, .inl (cI, 21, .inl ra_o))]) (w1 := []) hP hD [] [0, 1, 2, 3] rfl rfl (by decide) (by decide) hk1 hFc hP1 hD1
        generalize H1 = H at hP hS ⊢
        have hP : va_P (dC, dI) vwCl [(ra, .inr (2, [.ref ra1, .ref ra2, .ref ra3, .int ra_u])), (ra1, .inl (cI, ra_n * 20, .inl ra_c)), (ra2, .inl (cI, ra_n, .inl ra_l)), (ra3, .inl (cI, 21, .inl ra_o))] H := hP
        have hD : va_D (va_A (ww_X2_compare_s dC dI cI cJ cB ra ra1 ra2 ra3 s.heap.size ra_n ra_u ra_c ra_l ra_o p0 p1) s.heap.size) [(ra, .inr (2, [.ref ra1, .ref ra2, .ref ra3, .int ra_u])), (ra1, .inl (cI, ra_n * 20, .inl ra_c)), (ra2, .inl (cI, ra_n, .inl ra_l)), (ra3, .inl (cI, 21, .inl ra_o))] := hD
        clear hPc hDc hFc hP1 hK1 hD1 hk1 hz1 ht hvm
        have hP9 := hP.sub (ws' := [(ra, .inr (2, [.ref ra1, .ref ra2, .ref ra3, .int ra_u])), (ra1, .inl (cI, ra_n * 20, .inl ra_c)), (ra2, .inl (cI, ra_n, .inl ra_l)), (ra3, .inl (cI, 21, .inl ra_o))]) [0, 1, 2, 3] rfl
        have hD9 := hD.sub (ws' := [(ra, .inr (2, [.ref ra1, .ref ra2, .ref ra3, .int ra_u])), (ra1, .inl (cI, ra_n * 20, .inl ra_c)), (ra2, .inl (cI, ra_n, .inl ra_l)), (ra3, .inl (cI, 21, .inl ra_o))]) [0, 1, 2, 3] (by decide) rfl
        exact W.iret (v := r_2) hx hb hr (fun t ht hW => ⟨⟨r_2, (), rfl, trivial, by rw [ht]; exact hP9, va_K.moved hW.alike hK, hD9⟩, hS.F ht⟩) hS.2.2 dX2_compare_82
      · have tc_1 : x6.toInt < x4.toInt := tb_ge_f c_1
        have := ti_rng x6
        have := ti_rng x4
        refine lv_iload hx hb dX2_compare_24 (lv_at hl 6 rfl) ?_
        refine lv_iload hx hb dX2_compare_26 (lv_at hl 5 rfl) ?_
        refine lv_icmp_ge (tgt := 75) hx hb dX2_compare_28 (by decide) (fun c_3 => ?_) (fun c_3 => ?_)
        · have tc_3 : x5.toInt ≤ x6.toInt := tb_ge_t c_3
          have := ti_rng x5
          refine lv_iload hx hb dX2_compare_75 (lv_at hl 4 rfl) ?_
          refine lv_iload hx hb dX2_compare_77 (lv_at hl 5 rfl) ?_
          have hPc := hP.sub (ws' := []) [] rfl
          have hDc := hD.sub (ws' := []) [] (by decide) rfl
          have hFc := va_free (wc := []) hD hS hA [] rfl
          refine va_calli (va_runS (As := [.int x4, .int x5]) (rest := []) ⟨hx, hb, hml, hown, hts⟩ (c_J6_compare_7cf53 l dC dI cI cJ cB  H.size x4 x5) (va_cwS 2 hts go_wo_X2_compare_s_0 rfl rfl rfl (by decide +kernel) ⟨Nat.le_of_ble_eq_true rfl, Nat.le_of_ble_eq_true rfl⟩) ⟨fun a U g mk q => by obtain ⟨q0, q1, qN, qP, qK, qD⟩ := q; exact ⟨q0, q1, NW.calling qN, qP, va_K.moved (u := U) (U := U.calling g mk a) (Vm.Alike.refl U.vm) qK, qD⟩, fun U hU hW => ⟨rfl, by rw [hU], NW.warm hW hnw, by rw [hU]; exact hPc, va_K.moved hW.alike hK, hDc.weaken (fun _ _ _ _ => trivial)⟩⟩ rfl rfl hl.1 rfl (lv_room (Nat.le_of_ble_eq_true rfl)) dX2_compare_79 ⟨Nat.zero_le _, Nat.zero_le _⟩) hS (fun q _ h => hFc q h) hFc (fun r_4 u t H1 locs ht hvm hw hB hz1 hk1 hS => ?_)
          cases u
          obtain ⟨hP1, hK1, hD1⟩ := hB
          rw [ht] at hP1
          clear hw
          obtain ⟨hP, hD⟩ := va_join (wr := [(ra, .inr (2, [.ref ra1, .ref ra2, .ref ra3, .int ra_u])), (ra1, .inl (cI, ra_n * 20, .inl ra_c)), (ra2, .inl (cI, ra_n, .inl ra_l)), (ra3, .inl (cI, 21, .inl ra_o))]) (w1 := []) hP hD [] [0, 1, 2, 3] rfl rfl (by decide) (by decide) hk1 hFc hP1 hD1
          generalize H1 = H at hP hS ⊢
          have hP : va_P (dC, dI) vwCl [(ra, .inr (2, [.ref ra1, .ref ra2, .ref ra3, .int ra_u])), (ra1, .inl (cI, ra_n * 20, .inl ra_c)), (ra2, .inl (cI, ra_n, .inl ra_l)), (ra3, .inl (cI, 21, .inl ra_o))] H := hP
          have hD : va_D (va_A (ww_X2_compare_s dC dI cI cJ cB ra ra1 ra2 ra3 s.heap.size ra_n ra_u ra_c ra_l ra_o p0 p1) s.heap.size) [(ra, .inr (2, [.ref ra1, .ref ra2, .ref ra3, .int ra_u])), (ra1, .inl (cI, ra_n * 20, .inl ra_c)), (ra2, .inl (cI, ra_n, .inl ra_l)), (ra3, .inl (cI, 21, .inl ra_o))] := hD
          clear hPc hDc hFc hP1 hK1 hD1 hk1 hz1 ht hvm
          have hP9 := hP.sub (ws' := [(ra, .inr (2, [.ref ra1, .ref ra2, .ref ra3, .int ra_u])), (ra1, .inl (cI, ra_n * 20, .inl ra_c)), (ra2, .inl (cI, ra_n, .inl ra_l)), (ra3, .inl (cI, 21, .inl ra_o))]) [0, 1, 2, 3] rfl
          have hD9 := hD.sub (ws' := [(ra, .inr (2, [.ref ra1, .ref ra2, .ref ra3, .int ra_u])), (ra1, .inl (cI, ra_n * 20, .inl ra_c)), (ra2, .inl (cI, ra_n, .inl ra_l)), (ra3, .inl (cI, 21, .inl ra_o))]) [0, 1, 2, 3] (by decide) rfl
          exact W.iret (v := r_4) hx hb hr (fun t ht hW => ⟨⟨r_4, (), rfl, trivial, by rw [ht]; exact hP9, va_K.moved hW.alike hK, hD9⟩, hS.F ht⟩) hS.2.2 dX2_compare_82
        · have tc_3 : x6.toInt < x5.toInt := tb_ge_f c_3
          have := ti_rng x5
          refine lv_aload_n hx hb dX2_compare_31 rfl (lv_at hl 0 rfl) ?_
          refine lv_iload_n hx hb dX2_compare_32 rfl (lv_at hl 1 rfl) ?_
          refine lv_iload hx hb dX2_compare_33 (lv_at hl 6 rfl) ?_
          have hPc := hP.sub (ws' := [(ra, .inr (2, [.ref ra1, .ref ra2, .ref ra3, .int ra_u])), (ra1, .inl (cI, ra_n * 20, .inl ra_c)), (ra2, .inl (cI, ra_n, .inl ra_l)), (ra3, .inl (cI, 21, .inl ra_o))]) [0, 1, 2, 3] rfl
          have hDc := hD.sub (ws' := [(ra, .inr (2, [.ref ra1, .ref ra2, .ref ra3, .int ra_u])), (ra1, .inl (cI, ra_n * 20, .inl ra_c)), (ra2, .inl (cI, ra_n, .inl ra_l)), (ra3, .inl (cI, 21, .inl ra_o))]) [0, 1, 2, 3] (by decide) rfl
          have hFc := va_free (wc := [(ra, .inr (2, [.ref ra1, .ref ra2, .ref ra3, .int ra_u])), (ra1, .inl (cI, ra_n * 20, .inl ra_c)), (ra2, .inl (cI, ra_n, .inl ra_l)), (ra3, .inl (cI, 21, .inl ra_o))]) hD hS hA [0, 1, 2, 3] rfl
          refine va_calli (va_runV (As := [.int p0, .int x6]) (rest := []) ⟨hx, hb, hml, hown, hts⟩ (c_X2_cellAt l dC dI cI cJ cB ra ra1 ra2 ra3 H.size ra_n ra_u ra_c ra_l ra_o p0 x6 (by first | assumption | omega | decide | (simp only [lt0, lt1, ltm1, lt400] at *; omega))) (cwV 2 hts go_wo_X2_compare_s_1 rfl rfl rfl (by decide +kernel) ⟨Nat.le_of_ble_eq_true rfl, Nat.le_of_ble_eq_true rfl⟩) ⟨fun a U g mk q => by obtain ⟨q0, q1, qN, qP, qK, qD⟩ := q; exact ⟨q0, q1, NW.calling qN, qP, va_K.moved (u := U) (U := U.calling g mk a) (Vm.Alike.refl U.vm) qK, qD⟩, va_recv hK hPc (ci := 2) (q0 := 0) rfl rfl, fun U hU hW => ⟨rfl, by rw [hU], NW.warm hW hnw, by rw [hU]; exact hPc, va_K.moved hW.alike hK, hDc.weaken (fun _ _ _ _ => trivial)⟩⟩ rfl rfl hl.1 rfl (lv_room (Nat.le_of_ble_eq_true rfl)) dX2_compare_35 ⟨Nat.zero_le _, Nat.zero_le _⟩) hS (fun q _ h => hFc q h) hFc (fun r_5 u t H1 locs ht hvm hw hB hz1 hk1 hS => ?_)
          cases u
          obtain ⟨hP1, hK1, hD1⟩ := hB
          rw [ht] at hP1
          clear hw
          obtain ⟨hP, hD⟩ := va_join (wr := []) (w1 := [(ra, .inr (2, [.ref ra1, .ref ra2, .ref ra3, .int ra_u])), (ra1, .inl (cI, ra_n * 20, .inl ra_c)), (ra2, .inl (cI, ra_n, .inl ra_l)), (ra3, .inl (cI, 21, .inl ra_o))]) hP hD [0, 1, 2, 3] [] rfl rfl (by decide) (by decide) hk1 hFc hP1 hD1
          generalize H1 = H at hP hS ⊢
          have hP : va_P (dC, dI) vwCl [(ra, .inr (2, [.ref ra1, .ref ra2, .ref ra3, .int ra_u])), (ra1, .inl (cI, ra_n * 20, .inl ra_c)), (ra2, .inl (cI, ra_n, .inl ra_l)), (ra3, .inl (cI, 21, .inl ra_o))] H := hP
          have hD : va_D (va_A (ww_X2_compare_s dC dI cI cJ cB ra ra1 ra2 ra3 s.heap.size ra_n ra_u ra_c ra_l ra_o p0 p1) s.heap.size) [(ra, .inr (2, [.ref ra1, .ref ra2, .ref ra3, .int ra_u])), (ra1, .inl (cI, ra_n * 20, .inl ra_c)), (ra2, .inl (cI, ra_n, .inl ra_l)), (ra3, .inl (cI, 21, .inl ra_o))] := hD
          clear hPc hDc hFc hP1 hK1 hD1 hk1 hz1 ht hvm
          refine lv_istore (lv' := [(7, .int r_5), (0, .ref ra), (1, .int p0), (2, .ref ra), (3, .int p1), (4, .int x4), (5, .int x5), (6, .int x6)]) hx hb dX2_compare_38 hl (by decide) rfl (fun ls hl => ?_)
          refine lv_aload_n hx hb dX2_compare_40 rfl (lv_at hl 3 rfl) ?_
          refine lv_iload_n hx hb dX2_compare_41 rfl (lv_at hl 4 rfl) ?_
          refine lv_iload hx hb dX2_compare_42 (lv_at hl 7 rfl) ?_
          have hPc := hP.sub (ws' := [(ra, .inr (2, [.ref ra1, .ref ra2, .ref ra3, .int ra_u])), (ra1, .inl (cI, ra_n * 20, .inl ra_c)), (ra2, .inl (cI, ra_n, .inl ra_l)), (ra3, .inl (cI, 21, .inl ra_o))]) [0, 1, 2, 3] rfl
          have hDc := hD.sub (ws' := [(ra, .inr (2, [.ref ra1, .ref ra2, .ref ra3, .int ra_u])), (ra1, .inl (cI, ra_n * 20, .inl ra_c)), (ra2, .inl (cI, ra_n, .inl ra_l)), (ra3, .inl (cI, 21, .inl ra_o))]) [0, 1, 2, 3] (by decide) rfl
          have hFc := va_free (wc := [(ra, .inr (2, [.ref ra1, .ref ra2, .ref ra3, .int ra_u])), (ra1, .inl (cI, ra_n * 20, .inl ra_c)), (ra2, .inl (cI, ra_n, .inl ra_l)), (ra3, .inl (cI, 21, .inl ra_o))]) hD hS hA [0, 1, 2, 3] rfl
          refine va_calli (va_runV (As := [.int p1, .int x6]) (rest := []) ⟨hx, hb, hml, hown, hts⟩ (c_X2_cellAt l dC dI cI cJ cB ra ra1 ra2 ra3 H.size ra_n ra_u ra_c ra_l ra_o p1 x6 (by first | assumption | omega | decide | (simp only [lt0, lt1, ltm1, lt400] at *; omega))) (cwV 2 hts go_wo_X2_compare_s_1 rfl rfl rfl (by decide +kernel) ⟨Nat.le_of_ble_eq_true rfl, Nat.le_of_ble_eq_true rfl⟩) ⟨fun a U g mk q => by obtain ⟨q0, q1, qN, qP, qK, qD⟩ := q; exact ⟨q0, q1, NW.calling qN, qP, va_K.moved (u := U) (U := U.calling g mk a) (Vm.Alike.refl U.vm) qK, qD⟩, va_recv hK hPc (ci := 2) (q0 := 0) rfl rfl, fun U hU hW => ⟨rfl, by rw [hU], NW.warm hW hnw, by rw [hU]; exact hPc, va_K.moved hW.alike hK, hDc.weaken (fun _ _ _ _ => trivial)⟩⟩ rfl rfl hl.1 rfl (lv_room (Nat.le_of_ble_eq_true rfl)) dX2_compare_44 ⟨Nat.zero_le _, Nat.zero_le _⟩) hS (fun q _ h => hFc q h) hFc (fun r_6 u t H1 locs ht hvm hw hB hz1 hk1 hS => ?_)
          cases u
          obtain ⟨hP1, hK1, hD1⟩ := hB
          rw [ht] at hP1
          clear hw
          obtain ⟨hP, hD⟩ := va_join (wr := []) (w1 := [(ra, .inr (2, [.ref ra1, .ref ra2, .ref ra3, .int ra_u])), (ra1, .inl (cI, ra_n * 20, .inl ra_c)), (ra2, .inl (cI, ra_n, .inl ra_l)), (ra3, .inl (cI, 21, .inl ra_o))]) hP hD [0, 1, 2, 3] [] rfl rfl (by decide) (by decide) hk1 hFc hP1 hD1
          generalize H1 = H at hP hS ⊢
          have hP : va_P (dC, dI) vwCl [(ra, .inr (2, [.ref ra1, .ref ra2, .ref ra3, .int ra_u])), (ra1, .inl (cI, ra_n * 20, .inl ra_c)), (ra2, .inl (cI, ra_n, .inl ra_l)), (ra3, .inl (cI, 21, .inl ra_o))] H := hP
          have hD : va_D (va_A (ww_X2_compare_s dC dI cI cJ cB ra ra1 ra2 ra3 s.heap.size ra_n ra_u ra_c ra_l ra_o p0 p1) s.heap.size) [(ra, .inr (2, [.ref ra1, .ref ra2, .ref ra3, .int ra_u])), (ra1, .inl (cI, ra_n * 20, .inl ra_c)), (ra2, .inl (cI, ra_n, .inl ra_l)), (ra3, .inl (cI, 21, .inl ra_o))] := hD
          clear hPc hDc hFc hP1 hK1 hD1 hk1 hz1 ht hvm
          refine lv_istore (lv' := [(8, .int r_6), (7, .int r_5), (0, .ref ra), (1, .int p0), (2, .ref ra), (3, .int p1), (4, .int x4), (5, .int x5), (6, .int x6)]) hx hb dX2_compare_47 hl (by decide) rfl (fun ls hl => ?_)
          refine lv_iload hx hb dX2_compare_49 (lv_at hl 1 rfl) ?_
          refine lv_iload hx hb dX2_compare_51 (lv_at hl 0 rfl) ?_
          refine lv_icmp_eq (tgt := 69) hx hb dX2_compare_53 (by decide) (fun c_7 => ?_) (fun c_7 => ?_)
          · have tc_7 : r_5.toInt = r_6.toInt := tb_eq_t c_7
            have := ti_rng r_5
            have := ti_rng r_6
            obtain ⟨x6_8, ex6_8⟩ : ∃ y : Int32, y = x6 + (1) := ⟨_, rfl⟩
            refine lv_iinc (v := x6_8) (lv' := [(6, .int x6_8), (8, .int r_6), (7, .int r_5), (0, .ref ra), (1, .int p0), (2, .ref ra), (3, .int p1), (4, .int x4), (5, .int x5)]) hx hb dX2_compare_69 hl (k := 8) rfl (by rw [ex6_8]; rfl) (by decide) rfl (fun ls hl => ?_)
            have := ti_rng x6
            have tex6_8 : x6_8.toInt = x6.toInt + (1) := ti_inc ex6_8 (by decide) (by omega) (by omega)
            refine lv_goto (tgt := 17) hx hb dX2_compare_72 (by decide) ?_
            exact ih_17 x4 x5 x6_8 (by omega) _ _ (hP.sub [0, 1, 2, 3] rfl) (hD.sub [0, 1, 2, 3] (by decide) rfl) hS ls (lv_sub hl [3, 4, 5, 6, 7, 8, 0] rfl)
          · have tc_7 : ¬ (r_5.toInt = r_6.toInt) := tb_eq_f c_7
            have := ti_rng r_5
            have := ti_rng r_6
            refine lv_iload hx hb dX2_compare_56 (lv_at hl 1 rfl) ?_
            refine lv_iload hx hb dX2_compare_58 (lv_at hl 0 rfl) ?_
            refine lv_icmp_ge (tgt := 67) hx hb dX2_compare_60 (by decide) (fun c_9 => ?_) (fun c_9 => ?_)
            · have tc_9 : r_6.toInt ≤ r_5.toInt := tb_ge_t c_9
              refine lv_iconst (v := 1) hx hb dX2_compare_67 (by decide) ?_
              have hP9 := hP.sub (ws' := [(ra, .inr (2, [.ref ra1, .ref ra2, .ref ra3, .int ra_u])), (ra1, .inl (cI, ra_n * 20, .inl ra_c)), (ra2, .inl (cI, ra_n, .inl ra_l)), (ra3, .inl (cI, 21, .inl ra_o))]) [0, 1, 2, 3] rfl
              have hD9 := hD.sub (ws' := [(ra, .inr (2, [.ref ra1, .ref ra2, .ref ra3, .int ra_u])), (ra1, .inl (cI, ra_n * 20, .inl ra_c)), (ra2, .inl (cI, ra_n, .inl ra_l)), (ra3, .inl (cI, 21, .inl ra_o))]) [0, 1, 2, 3] (by decide) rfl
              exact W.iret (v := (1 : Int32)) hx hb hr (fun t ht hW => ⟨⟨(1 : Int32), (), rfl, trivial, by rw [ht]; exact hP9, va_K.moved hW.alike hK, hD9⟩, hS.F ht⟩) hS.2.2 dX2_compare_68
            · have tc_9 : r_5.toInt < r_6.toInt := tb_ge_f c_9
              refine lv_iconst (v := -1) hx hb dX2_compare_63 (by decide) ?_
              refine lv_goto (tgt := 68) hx hb dX2_compare_64 (by decide) ?_
              have hP9 := hP.sub (ws' := [(ra, .inr (2, [.ref ra1, .ref ra2, .ref ra3, .int ra_u])), (ra1, .inl (cI, ra_n * 20, .inl ra_c)), (ra2, .inl (cI, ra_n, .inl ra_l)), (ra3, .inl (cI, 21, .inl ra_o))]) [0, 1, 2, 3] rfl
              have hD9 := hD.sub (ws' := [(ra, .inr (2, [.ref ra1, .ref ra2, .ref ra3, .int ra_u])), (ra1, .inl (cI, ra_n * 20, .inl ra_c)), (ra2, .inl (cI, ra_n, .inl ra_l)), (ra3, .inl (cI, 21, .inl ra_o))]) [0, 1, 2, 3] (by decide) rfl
              exact W.iret (v := (-1 : Int32)) hx hb hr (fun t ht hW => ⟨⟨(-1 : Int32), (), rfl, trivial, by rw [ht]; exact hP9, va_K.moved hW.alike hK, hD9⟩, hS.F ht⟩) hS.2.2 dX2_compare_68
  refine lv_aload_n hx hb dX2_compare_0 rfl (lv_at hl 0 rfl) ?_
  refine lv_iload_n hx hb dX2_compare_1 rfl (lv_at hl 1 rfl) ?_
  have hPc := hP.sub (ws' := [(ra, .inr (2, [.ref ra1, .ref ra2, .ref ra3, .int ra_u])), (ra1, .inl (cI, ra_n * 20, .inl ra_c)), (ra2, .inl (cI, ra_n, .inl ra_l)), (ra3, .inl (cI, 21, .inl ra_o))]) [0, 1, 2, 3] rfl
  have hDc := hD.sub (ws' := [(ra, .inr (2, [.ref ra1, .ref ra2, .ref ra3, .int ra_u])), (ra1, .inl (cI, ra_n * 20, .inl ra_c)), (ra2, .inl (cI, ra_n, .inl ra_l)), (ra3, .inl (cI, 21, .inl ra_o))]) [0, 1, 2, 3] (by decide) rfl
  have hFc := va_free (wc := [(ra, .inr (2, [.ref ra1, .ref ra2, .ref ra3, .int ra_u])), (ra1, .inl (cI, ra_n * 20, .inl ra_c)), (ra2, .inl (cI, ra_n, .inl ra_l)), (ra3, .inl (cI, 21, .inl ra_o))]) hD hS hA [0, 1, 2, 3] rfl
  refine va_calli (va_runV (As := [.int p0]) (rest := []) ⟨hx, hb, hml, hown, hts⟩ (c_X2_lengthOf l dC dI cI cJ cB ra ra1 ra2 ra3 H.size ra_n ra_u ra_c ra_l ra_o p0 (by first | assumption | omega | decide | (simp only [lt0, lt1, ltm1, lt400] at *; omega))) (cwV 1 hts go_wo_X2_compare_s_2 rfl rfl rfl (by decide +kernel) ⟨Nat.le_of_ble_eq_true rfl, Nat.le_of_ble_eq_true rfl⟩) ⟨fun a U g mk q => by obtain ⟨q0, q1, qN, qP, qK, qD⟩ := q; exact ⟨q0, q1, NW.calling qN, qP, va_K.moved (u := U) (U := U.calling g mk a) (Vm.Alike.refl U.vm) qK, qD⟩, va_recv hK hPc (ci := 2) (q0 := 0) rfl rfl, fun U hU hW => ⟨rfl, by rw [hU], NW.warm hW hnw, by rw [hU]; exact hPc, va_K.moved hW.alike hK, hDc.weaken (fun _ _ _ _ => trivial)⟩⟩ rfl rfl hl.1 rfl (lv_room (Nat.le_of_ble_eq_true rfl)) dX2_compare_2 ⟨Nat.zero_le _, Nat.zero_le _⟩) hS (fun q _ h => hFc q h) hFc (fun r_10 u t H1 locs ht hvm hw hB hz1 hk1 hS => ?_)
  cases u
  obtain ⟨hP1, hK1, hD1⟩ := hB
  rw [ht] at hP1
  clear hw
  obtain ⟨hP, hD⟩ := va_join (wr := []) (w1 := [(ra, .inr (2, [.ref ra1, .ref ra2, .ref ra3, .int ra_u])), (ra1, .inl (cI, ra_n * 20, .inl ra_c)), (ra2, .inl (cI, ra_n, .inl ra_l)), (ra3, .inl (cI, 21, .inl ra_o))]) hP hD [0, 1, 2, 3] [] rfl rfl (by decide) (by decide) hk1 hFc hP1 hD1
  generalize H1 = H at hP hS ⊢
  have hP : va_P (dC, dI) vwCl [(ra, .inr (2, [.ref ra1, .ref ra2, .ref ra3, .int ra_u])), (ra1, .inl (cI, ra_n * 20, .inl ra_c)), (ra2, .inl (cI, ra_n, .inl ra_l)), (ra3, .inl (cI, 21, .inl ra_o))] H := hP
  have hD : va_D (va_A (ww_X2_compare_s dC dI cI cJ cB ra ra1 ra2 ra3 s.heap.size ra_n ra_u ra_c ra_l ra_o p0 p1) s.heap.size) [(ra, .inr (2, [.ref ra1, .ref ra2, .ref ra3, .int ra_u])), (ra1, .inl (cI, ra_n * 20, .inl ra_c)), (ra2, .inl (cI, ra_n, .inl ra_l)), (ra3, .inl (cI, 21, .inl ra_o))] := hD
  clear hPc hDc hFc hP1 hK1 hD1 hk1 hz1 ht hvm
  refine lv_istore (lv' := [(4, .int r_10), (0, .ref ra), (1, .int p0), (2, .ref ra), (3, .int p1)]) hx hb dX2_compare_5 hl (by decide) rfl (fun ls hl => ?_)
  refine lv_aload_n hx hb dX2_compare_7 rfl (lv_at hl 3 rfl) ?_
  refine lv_iload_n hx hb dX2_compare_8 rfl (lv_at hl 4 rfl) ?_
  have hPc := hP.sub (ws' := [(ra, .inr (2, [.ref ra1, .ref ra2, .ref ra3, .int ra_u])), (ra1, .inl (cI, ra_n * 20, .inl ra_c)), (ra2, .inl (cI, ra_n, .inl ra_l)), (ra3, .inl (cI, 21, .inl ra_o))]) [0, 1, 2, 3] rfl
  have hDc := hD.sub (ws' := [(ra, .inr (2, [.ref ra1, .ref ra2, .ref ra3, .int ra_u])), (ra1, .inl (cI, ra_n * 20, .inl ra_c)), (ra2, .inl (cI, ra_n, .inl ra_l)), (ra3, .inl (cI, 21, .inl ra_o))]) [0, 1, 2, 3] (by decide) rfl
  have hFc := va_free (wc := [(ra, .inr (2, [.ref ra1, .ref ra2, .ref ra3, .int ra_u])), (ra1, .inl (cI, ra_n * 20, .inl ra_c)), (ra2, .inl (cI, ra_n, .inl ra_l)), (ra3, .inl (cI, 21, .inl ra_o))]) hD hS hA [0, 1, 2, 3] rfl
  refine va_calli (va_runV (As := [.int p1]) (rest := []) ⟨hx, hb, hml, hown, hts⟩ (c_X2_lengthOf l dC dI cI cJ cB ra ra1 ra2 ra3 H.size ra_n ra_u ra_c ra_l ra_o p1 (by first | assumption | omega | decide | (simp only [lt0, lt1, ltm1, lt400] at *; omega))) (cwV 1 hts go_wo_X2_compare_s_2 rfl rfl rfl (by decide +kernel) ⟨Nat.le_of_ble_eq_true rfl, Nat.le_of_ble_eq_true rfl⟩) ⟨fun a U g mk q => by obtain ⟨q0, q1, qN, qP, qK, qD⟩ := q; exact ⟨q0, q1, NW.calling qN, qP, va_K.moved (u := U) (U := U.calling g mk a) (Vm.Alike.refl U.vm) qK, qD⟩, va_recv hK hPc (ci := 2) (q0 := 0) rfl rfl, fun U hU hW => ⟨rfl, by rw [hU], NW.warm hW hnw, by rw [hU]; exact hPc, va_K.moved hW.alike hK, hDc.weaken (fun _ _ _ _ => trivial)⟩⟩ rfl rfl hl.1 rfl (lv_room (Nat.le_of_ble_eq_true rfl)) dX2_compare_9 ⟨Nat.zero_le _, Nat.zero_le _⟩) hS (fun q _ h => hFc q h) hFc (fun r_11 u t H1 locs ht hvm hw hB hz1 hk1 hS => ?_)
  cases u
  obtain ⟨hP1, hK1, hD1⟩ := hB
  rw [ht] at hP1
  clear hw
  obtain ⟨hP, hD⟩ := va_join (wr := []) (w1 := [(ra, .inr (2, [.ref ra1, .ref ra2, .ref ra3, .int ra_u])), (ra1, .inl (cI, ra_n * 20, .inl ra_c)), (ra2, .inl (cI, ra_n, .inl ra_l)), (ra3, .inl (cI, 21, .inl ra_o))]) hP hD [0, 1, 2, 3] [] rfl rfl (by decide) (by decide) hk1 hFc hP1 hD1
  generalize H1 = H at hP hS ⊢
  have hP : va_P (dC, dI) vwCl [(ra, .inr (2, [.ref ra1, .ref ra2, .ref ra3, .int ra_u])), (ra1, .inl (cI, ra_n * 20, .inl ra_c)), (ra2, .inl (cI, ra_n, .inl ra_l)), (ra3, .inl (cI, 21, .inl ra_o))] H := hP
  have hD : va_D (va_A (ww_X2_compare_s dC dI cI cJ cB ra ra1 ra2 ra3 s.heap.size ra_n ra_u ra_c ra_l ra_o p0 p1) s.heap.size) [(ra, .inr (2, [.ref ra1, .ref ra2, .ref ra3, .int ra_u])), (ra1, .inl (cI, ra_n * 20, .inl ra_c)), (ra2, .inl (cI, ra_n, .inl ra_l)), (ra3, .inl (cI, 21, .inl ra_o))] := hD
  clear hPc hDc hFc hP1 hK1 hD1 hk1 hz1 ht hvm
  refine lv_istore (lv' := [(5, .int r_11), (4, .int r_10), (0, .ref ra), (1, .int p0), (2, .ref ra), (3, .int p1)]) hx hb dX2_compare_12 hl (by decide) rfl (fun ls hl => ?_)
  refine lv_iconst (v := 0) hx hb dX2_compare_14 (by decide) ?_
  refine lv_istore (lv' := [(6, .int ((0 : Int32))), (5, .int r_11), (4, .int r_10), (0, .ref ra), (1, .int p0), (2, .ref ra), (3, .int p1)]) hx hb dX2_compare_15 hl (by decide) rfl (fun ls hl => ?_)
  exact L_17 (((2147483647 - ((0 : Int32)).toInt).toNat) + 1) r_10 r_11 ((0 : Int32)) (Nat.lt_succ_self _) _ _ (hP.sub [0, 1, 2, 3] rfl) (hD.sub [0, 1, 2, 3] (by decide) rfl) hS ls (lv_sub hl [3, 4, 5, 6, 2, 1, 0] rfl)
def wo_X2_indexOf : List Cond := .code yX2_indexOf cX2_indexOf 4 (some .int) :: (([.fieldLink RX2 30 "SumRewriter$Rows" "used" "I"] : List Cond) ++ ((wsX20) ++ ((wsV RX2 58 RX2 yX2_compare wo_X2_compare))))
set_option maxRecDepth 20000 in
theorem go_wo_X2_indexOf_1 : GoodIn wo_X2_indexOf (wsV RX2 58 RX2 yX2_compare wo_X2_compare) := goodIn_sub (fun _ h => (List.mem_cons_of_mem _ (List.mem_append_right _ (List.mem_append_right _ h)))) (by decide +kernel)
abbrev ww_X2_indexOf (dC : Nat → ClassId) (dI : Nat → Nat → Nat) (cI cJ cB : ClassId) (ra ra1 ra2 ra3 rb rb1 rb2 rb3 : Nat) (sz : Nat) (ra_n : Nat) (ra_u : Int32) (ra_c : Nat → Int32) (ra_l : Nat → Int32) (ra_o : Nat → Int32) (rb_n : Nat) (rb_u : Int32) (rb_c : Nat → Int32) (rb_l : Nat → Int32) (rb_o : Nat → Int32) (p0 : Int32) : va_W := [(ra, .inr (2, [.ref ra1, .ref ra2, .ref ra3, .int ra_u])), (ra1, .inl (cI, ra_n * 20, .inl ra_c)), (ra2, .inl (cI, ra_n, .inl ra_l)), (ra3, .inl (cI, 21, .inl ra_o)), (rb, .inr (2, [.ref rb1, .ref rb2, .ref rb3, .int rb_u])), (rb1, .inl (cI, rb_n * 20, .inl rb_c)), (rb2, .inl (cI, rb_n, .inl rb_l)), (rb3, .inl (cI, 21, .inl rb_o))]
abbrev at_X2_indexOf (dC : Nat → ClassId) (dI : Nat → Nat → Nat) (cI cJ cB : ClassId) (ra ra1 ra2 ra3 rb rb1 rb2 rb3 : Nat) (sz : Nat) (ra_n : Nat) (ra_u : Int32) (ra_c : Nat → Int32) (ra_l : Nat → Int32) (ra_o : Nat → Int32) (rb_n : Nat) (rb_u : Int32) (rb_c : Nat → Int32) (rb_l : Nat → Int32) (rb_o : Nat → Int32) (p0 : Int32) (u : Unit) (t : State) : Prop := match u with
  | () => va_P (dC, dI) vwCl [(ra, .inr (2, [.ref ra1, .ref ra2, .ref ra3, .int ra_u])), (ra1, .inl (cI, ra_n * 20, .inl ra_c)), (ra2, .inl (cI, ra_n, .inl ra_l)), (ra3, .inl (cI, 21, .inl ra_o)), (rb, .inr (2, [.ref rb1, .ref rb2, .ref rb3, .int rb_u])), (rb1, .inl (cI, rb_n * 20, .inl rb_c)), (rb2, .inl (cI, rb_n, .inl rb_l)), (rb3, .inl (cI, 21, .inl rb_o))] t.heap ∧ va_K (dC, dI) vwCl (tyL cI cJ cB) t ∧ va_D (va_A (ww_X2_indexOf dC dI cI cJ cB ra ra1 ra2 ra3 rb rb1 rb2 rb3 sz ra_n ra_u ra_c ra_l ra_o rb_n rb_u rb_c rb_l rb_o p0) sz) [(ra, .inr (2, [.ref ra1, .ref ra2, .ref ra3, .int ra_u])), (ra1, .inl (cI, ra_n * 20, .inl ra_c)), (ra2, .inl (cI, ra_n, .inl ra_l)), (ra3, .inl (cI, 21, .inl ra_o)), (rb, .inr (2, [.ref rb1, .ref rb2, .ref rb3, .int rb_u])), (rb1, .inl (cI, rb_n * 20, .inl rb_c)), (rb2, .inl (cI, rb_n, .inl rb_l)), (rb3, .inl (cI, 21, .inl rb_o))]
abbrev qc_X2_indexOf (dC : Nat → ClassId) (dI : Nat → Nat → Nat) (cI cJ cB : ClassId) (ra ra1 ra2 ra3 rb rb1 rb2 rb3 : Nat) (sz : Nat) (ra_n : Nat) (ra_u : Int32) (ra_c : Nat → Int32) (ra_l : Nat → Int32) (ra_o : Nat → Int32) (rb_n : Nat) (rb_u : Int32) (rb_c : Nat → Int32) (rb_l : Nat → Int32) (rb_o : Nat → Int32) (p0 : Int32) : Array Value → State → Outcome → State → Prop := va_Qi (fun (r : Int32) (u : Unit) => match u with | () => True) (at_X2_indexOf dC dI cI cJ cB ra ra1 ra2 ra3 rb rb1 rb2 rb3 sz ra_n ra_u ra_c ra_l ra_o rb_n rb_u rb_c rb_l rb_o p0) (va_A (ww_X2_indexOf dC dI cI cJ cB ra ra1 ra2 ra3 rb rb1 rb2 rb3 sz ra_n ra_u ra_c ra_l ra_o rb_n rb_u rb_c rb_l rb_o p0) sz)
abbrev pc_X2_indexOf (dC : Nat → ClassId) (dI : Nat → Nat → Nat) (cI cJ cB : ClassId) (ra ra1 ra2 ra3 rb rb1 rb2 rb3 : Nat) (sz : Nat) (ra_n : Nat) (ra_u : Int32) (ra_c : Nat → Int32) (ra_l : Nat → Int32) (ra_o : Nat → Int32) (rb_n : Nat) (rb_u : Int32) (rb_c : Nat → Int32) (rb_l : Nat → Int32) (rb_o : Nat → Int32) (p0 : Int32) : Array Value → State → Prop := va_Pc [.ref ra, .ref rb, .int p0] (fun U => U.heap.size = sz ∧ NW U ∧ va_P (dC, dI) vwCl (ww_X2_indexOf dC dI cI cJ cB ra ra1 ra2 ra3 rb rb1 rb2 rb3 sz ra_n ra_u ra_c ra_l ra_o rb_n rb_u rb_c rb_l rb_o p0) U.heap ∧ va_K (dC, dI) vwCl (tyL cI cJ cB) U ∧ va_D (fun _ => True) (ww_X2_indexOf dC dI cI cJ cB ra ra1 ra2 ra3 rb rb1 rb2 rb3 sz ra_n ra_u ra_c ra_l ra_o rb_n rb_u rb_c rb_l rb_o p0))
abbrev rm_X2_indexOf : Room := { frames := 2, cells := 0, slots := 0, locals := 51 }
abbrev WW_X2_indexOf (p : Program) (l : Launch) (e : Env) (s : State) (m : MethodId) (below : List Frame) (meth : Method) (c : Code) (dC : Nat → ClassId) (dI : Nat → Nat → Nat) (cI cJ cB : ClassId) (ra ra1 ra2 ra3 rb rb1 rb2 rb3 : Nat) (sz : Nat) (ra_n : Nat) (ra_u : Int32) (ra_c : Nat → Int32) (ra_l : Nat → Int32) (ra_o : Nat → Int32) (rb_n : Nat) (rb_u : Int32) (rb_c : Nat → Int32) (rb_l : Nat → Int32) (rb_o : Nat → Int32) (p0 : Int32) (H : Heap) (locs : List Loc) (g : JFrame) : Prop := W p l e rm_X2_indexOf s m ([.ref ra, .ref rb, .int p0] : List Value).toArray below meth c H locs 0 0 (MQ below (qc_X2_indexOf dC dI cI cJ cB ra ra1 ra2 ra3 rb rb1 rb2 rb3 sz ra_n ra_u ra_c ra_l ra_o rb_n rb_u rb_c rb_l rb_o p0) ([.ref ra, .ref rb, .int p0] : List Value).toArray s 0 0 (va_A (ww_X2_indexOf dC dI cI cJ cB ra ra1 ra2 ra3 rb rb1 rb2 rb3 sz ra_n ra_u ra_c ra_l ra_o rb_n rb_u rb_c rb_l rb_o p0) sz)) g
set_option maxHeartbeats 4000000 in
set_option maxRecDepth 100000 in
theorem c_X2_indexOf (l : Launch) (dC : Nat → ClassId) (dI : Nat → Nat → Nat) (cI cJ cB : ClassId) (ra ra1 ra2 ra3 rb rb1 rb2 rb3 : Nat) (sz : Nat) (ra_n : Nat) (ra_u : Int32) (ra_c : Nat → Int32) (ra_l : Nat → Int32) (ra_o : Nat → Int32) (rb_n : Nat) (rb_u : Int32) (rb_c : Nat → Int32) (rb_l : Nat → Int32) (rb_o : Nat → Int32) (p0 : Int32) (hn_ra : 1 ≤ ra_n ∧ ra_n ≤ 201) (hn_rb : 1 ≤ rb_n ∧ rb_n ≤ 201) : Met l yX2_indexOf wo_X2_indexOf rm_X2_indexOf (pc_X2_indexOf dC dI cI cJ cB ra ra1 ra2 ra3 rb rb1 rb2 rb3 sz ra_n ra_u ra_c ra_l ra_o rb_n rb_u rb_c rb_l rb_o p0) (qc_X2_indexOf dC dI cI cJ cB ra ra1 ra2 ra3 rb rb1 rb2 rb3 sz ra_n ra_u ra_c ra_l ra_o rb_n rb_u rb_c rb_l rb_o p0) 0 0 (va_A (ww_X2_indexOf dC dI cI cJ cB ra ra1 ra2 ra3 rb rb1 rb2 rb3 sz ra_n ra_u ra_c ra_l ra_o rb_n rb_u rb_c rb_l rb_o p0) sz) := by
  refine Met.ofW (cc := cX2_indexOf) (maxL := 4) (ret := (some .int)) (by decide) rfl ?_
  intro p e s m args below meth c s₁ B hml hv
  obtain ⟨rfl, hsz, hnw, hP, hK, hD0⟩ := hv
  have hx := B.exec
  have hb := B.bytes
  have hr := B.returns
  have hts := atoms_spec (ws := wo_X2_indexOf) B.pre
  have hown : s.vm.findClass RX2 = some m.cls := findClass_of_methodNamed B.named
  have hlocks := B.notSynchronized
  clear B
  subst hsz
  have hD := hD0.self (sz := s.heap.size)
  clear hD0
  have kk0_ := hts (.fieldLink RX2 30 "SumRewriter$Rows" "used" "I") (by decide +kernel)
  have kk1_ : ∀ w ∈ wsX20, w ∈ wo_X2_indexOf := fun _ h => (List.mem_cons_of_mem _ (List.mem_append_right _ (List.mem_append_left _ h)))
  have hA : ∀ q : Nat, s.heap.size ≤ q → (va_A (ww_X2_indexOf dC dI cI cJ cB ra ra1 ra2 ra3 rb rb1 rb2 rb3 s.heap.size ra_n ra_u ra_c ra_l ra_o rb_n rb_u rb_c rb_l rb_o p0) s.heap.size) q := fun q h => Or.inr h
  have hS : va_S (va_A (ww_X2_indexOf dC dI cI cJ cB ra ra1 ra2 ra3 rb rb1 rb2 rb3 s.heap.size ra_n ra_u ra_c ra_l ra_o rb_n rb_u rb_c rb_l rb_o p0) s.heap.size) s.heap s.heap [] := va_S.rf
  have hl := lv_entry ([.ref ra, .ref rb, .int p0]) (n := 4) (Nat.le_of_ble_eq_true rfl)
  rw [lg_entry_eq]
  generalize (lg_sl ([.ref ra, .ref rb, .int p0]) ++ List.replicate (4 - (lg_sl ([.ref ra, .ref rb, .int p0])).length) Slot.unset).toArray = ls at hl ⊢
  have hl : lv_has ls 4 [(0, .ref ra), (1, .ref rb), (2, .int p0)] := hl
  have hP : va_P (dC, dI) vwCl [(ra, .inr (2, [.ref ra1, .ref ra2, .ref ra3, .int ra_u])), (ra1, .inl (cI, ra_n * 20, .inl ra_c)), (ra2, .inl (cI, ra_n, .inl ra_l)), (ra3, .inl (cI, 21, .inl ra_o)), (rb, .inr (2, [.ref rb1, .ref rb2, .ref rb3, .int rb_u])), (rb1, .inl (cI, rb_n * 20, .inl rb_c)), (rb2, .inl (cI, rb_n, .inl rb_l)), (rb3, .inl (cI, 21, .inl rb_o))] s.heap := hP
  have hD : va_D (va_A (ww_X2_indexOf dC dI cI cJ cB ra ra1 ra2 ra3 rb rb1 rb2 rb3 s.heap.size ra_n ra_u ra_c ra_l ra_o rb_n rb_u rb_c rb_l rb_o p0) s.heap.size) [(ra, .inr (2, [.ref ra1, .ref ra2, .ref ra3, .int ra_u])), (ra1, .inl (cI, ra_n * 20, .inl ra_c)), (ra2, .inl (cI, ra_n, .inl ra_l)), (ra3, .inl (cI, 21, .inl ra_o)), (rb, .inr (2, [.ref rb1, .ref rb2, .ref rb3, .int rb_u])), (rb1, .inl (cI, rb_n * 20, .inl rb_c)), (rb2, .inl (cI, rb_n, .inl rb_l)), (rb3, .inl (cI, 21, .inl rb_o))] := hD
  obtain ⟨H, hH⟩ : ∃ H, H = s.heap := ⟨_, rfl⟩
  obtain ⟨locs, hlc⟩ : ∃ L : List Loc, L = [] := ⟨_, rfl⟩
  have hS : va_S (va_A (ww_X2_indexOf dC dI cI cJ cB ra ra1 ra2 ra3 rb rb1 rb2 rb3 s.heap.size ra_n ra_u ra_c ra_l ra_o rb_n rb_u rb_c rb_l rb_o p0) s.heap.size) s.heap H locs := by rw [hH, hlc]; exact hS
  have hP : va_P (dC, dI) vwCl [(ra, .inr (2, [.ref ra1, .ref ra2, .ref ra3, .int ra_u])), (ra1, .inl (cI, ra_n * 20, .inl ra_c)), (ra2, .inl (cI, ra_n, .inl ra_l)), (ra3, .inl (cI, 21, .inl ra_o)), (rb, .inr (2, [.ref rb1, .ref rb2, .ref rb3, .int rb_u])), (rb1, .inl (cI, rb_n * 20, .inl rb_c)), (rb2, .inl (cI, rb_n, .inl rb_l)), (rb3, .inl (cI, 21, .inl rb_o))] H := by rw [hH]; exact hP
  suffices hgo : WW_X2_indexOf p l e s m below meth c dC dI cI cJ cB ra ra1 ra2 ra3 rb rb1 rb2 rb3 s.heap.size ra_n ra_u ra_c ra_l ra_o rb_n rb_u rb_c rb_l rb_o p0 H locs (F0 m 0 ls []) by rw [hH, hlc] at hgo; exact hgo
  clear hH hlc
  have L_2 : ∀ (N_2 : Nat), ∀ (x3 : Int32), ((2147483647 - x3.toInt).toNat) < N_2 → ∀ (H : Heap) (locs : List Loc), va_P (dC, dI) vwCl [(ra, .inr (2, [.ref ra1, .ref ra2, .ref ra3, .int ra_u])), (ra1, .inl (cI, ra_n * 20, .inl ra_c)), (ra2, .inl (cI, ra_n, .inl ra_l)), (ra3, .inl (cI, 21, .inl ra_o)), (rb, .inr (2, [.ref rb1, .ref rb2, .ref rb3, .int rb_u])), (rb1, .inl (cI, rb_n * 20, .inl rb_c)), (rb2, .inl (cI, rb_n, .inl rb_l)), (rb3, .inl (cI, 21, .inl rb_o))] H → va_D (va_A (ww_X2_indexOf dC dI cI cJ cB ra ra1 ra2 ra3 rb rb1 rb2 rb3 s.heap.size ra_n ra_u ra_c ra_l ra_o rb_n rb_u rb_c rb_l rb_o p0) s.heap.size) [(ra, .inr (2, [.ref ra1, .ref ra2, .ref ra3, .int ra_u])), (ra1, .inl (cI, ra_n * 20, .inl ra_c)), (ra2, .inl (cI, ra_n, .inl ra_l)), (ra3, .inl (cI, 21, .inl ra_o)), (rb, .inr (2, [.ref rb1, .ref rb2, .ref rb3, .int rb_u])), (rb1, .inl (cI, rb_n * 20, .inl rb_c)), (rb2, .inl (cI, rb_n, .inl rb_l)), (rb3, .inl (cI, 21, .inl rb_o))] → va_S (va_A (ww_X2_indexOf dC dI cI cJ cB ra ra1 ra2 ra3 rb rb1 rb2 rb3 s.heap.size ra_n ra_u ra_c ra_l ra_o rb_n rb_u rb_c rb_l rb_o p0) s.heap.size) s.heap H locs → ∀ ls : Array Slot, lv_has ls 4 [(0, .ref ra), (1, .ref rb), (2, .int p0), (3, .int x3)] → WW_X2_indexOf p l e s m below meth c dC dI cI cJ cB ra ra1 ra2 ra3 rb rb1 rb2 rb3 s.heap.size ra_n ra_u ra_c ra_l ra_o rb_n rb_u rb_c rb_l rb_o p0 H locs (F0 m 2 ls []) := by
    intro N_2
    induction N_2 with
    | zero => intro x3  hm; exact absurd hm (Nat.not_lt_zero _)
    | succ N_2 ih_2 =>
      intro x3  hm_2 H locs hP hD hS ls hl
      refine lv_iload_n hx hb dX2_indexOf_2 rfl (lv_at hl 3 rfl) ?_
      refine lv_aload_n hx hb dX2_indexOf_3 rfl (lv_at hl 0 rfl) ?_
      refine va_get (D := (dC, dI)) (ci := 2) (v := .int ra_u) (C := RX2) (T := TX2) (N := 4) hx hb hts kk1_ hown hK hP 0 rfl rfl 3 (by decide) kk0_ (fun _ h9 => h9) rfl dX2_indexOf_4 ?_
      refine lv_icmp_ge (tgt := 28) hx hb dX2_indexOf_7 (by decide) (fun c_1 => ?_) (fun c_1 => ?_)
      · have tc_1 : ra_u.toInt ≤ x3.toInt := tb_ge_t c_1
        have := ti_rng x3
        have := ti_rng ra_u
        refine lv_iconst (v := -1) hx hb dX2_indexOf_28 (by decide) ?_
        have hP9 := hP.sub (ws' := [(ra, .inr (2, [.ref ra1, .ref ra2, .ref ra3, .int ra_u])), (ra1, .inl (cI, ra_n * 20, .inl ra_c)), (ra2, .inl (cI, ra_n, .inl ra_l)), (ra3, .inl (cI, 21, .inl ra_o)), (rb, .inr (2, [.ref rb1, .ref rb2, .ref rb3, .int rb_u])), (rb1, .inl (cI, rb_n * 20, .inl rb_c)), (rb2, .inl (cI, rb_n, .inl rb_l)), (rb3, .inl (cI, 21, .inl rb_o))]) [0, 1, 2, 3, 4, 5, 6, 7] rfl
        have hD9 := hD.sub (ws' := [(ra, .inr (2, [.ref ra1, .ref ra2, .ref ra3, .int ra_u])), (ra1, .inl (cI, ra_n * 20, .inl ra_c)), (ra2, .inl (cI, ra_n, .inl ra_l)), (ra3, .inl (cI, 21, .inl ra_o)), (rb, .inr (2, [.ref rb1, .ref rb2, .ref rb3, .int rb_u])), (rb1, .inl (cI, rb_n * 20, .inl rb_c)), (rb2, .inl (cI, rb_n, .inl rb_l)), (rb3, .inl (cI, 21, .inl rb_o))]) [0, 1, 2, 3, 4, 5, 6, 7] (by decide) rfl
        exact W.iret (v := (-1 : Int32)) hx hb hr (fun t ht hW => ⟨⟨(-1 : Int32), (), rfl, trivial, by rw [ht]; exact hP9, va_K.moved hW.alike hK, hD9⟩, hS.F ht⟩) hS.2.2 dX2_indexOf_29
      · have tc_1 : x3.toInt < ra_u.toInt := tb_ge_f c_1
        have := ti_rng x3
        have := ti_rng ra_u
        refine lv_aload_n hx hb dX2_indexOf_10 rfl (lv_at hl 0 rfl) ?_
        refine lv_iload_n hx hb dX2_indexOf_11 rfl (lv_at hl 3 rfl) ?_
        refine lv_aload_n hx hb dX2_indexOf_12 rfl (lv_at hl 1 rfl) ?_
        refine lv_iload_n hx hb dX2_indexOf_13 rfl (lv_at hl 2 rfl) ?_
        have hPc := hP.sub (ws' := [(ra, .inr (2, [.ref ra1, .ref ra2, .ref ra3, .int ra_u])), (ra1, .inl (cI, ra_n * 20, .inl ra_c)), (ra2, .inl (cI, ra_n, .inl ra_l)), (ra3, .inl (cI, 21, .inl ra_o)), (rb, .inr (2, [.ref rb1, .ref rb2, .ref rb3, .int rb_u])), (rb1, .inl (cI, rb_n * 20, .inl rb_c)), (rb2, .inl (cI, rb_n, .inl rb_l)), (rb3, .inl (cI, 21, .inl rb_o))]) [0, 1, 2, 3, 4, 5, 6, 7] rfl
        have hDc := hD.sub (ws' := [(ra, .inr (2, [.ref ra1, .ref ra2, .ref ra3, .int ra_u])), (ra1, .inl (cI, ra_n * 20, .inl ra_c)), (ra2, .inl (cI, ra_n, .inl ra_l)), (ra3, .inl (cI, 21, .inl ra_o)), (rb, .inr (2, [.ref rb1, .ref rb2, .ref rb3, .int rb_u])), (rb1, .inl (cI, rb_n * 20, .inl rb_c)), (rb2, .inl (cI, rb_n, .inl rb_l)), (rb3, .inl (cI, 21, .inl rb_o))]) [0, 1, 2, 3, 4, 5, 6, 7] (by decide) rfl
        have hFc := va_free (wc := [(ra, .inr (2, [.ref ra1, .ref ra2, .ref ra3, .int ra_u])), (ra1, .inl (cI, ra_n * 20, .inl ra_c)), (ra2, .inl (cI, ra_n, .inl ra_l)), (ra3, .inl (cI, 21, .inl ra_o)), (rb, .inr (2, [.ref rb1, .ref rb2, .ref rb3, .int rb_u])), (rb1, .inl (cI, rb_n * 20, .inl rb_c)), (rb2, .inl (cI, rb_n, .inl rb_l)), (rb3, .inl (cI, 21, .inl rb_o))]) hD hS hA [0, 1, 2, 3, 4, 5, 6, 7] rfl
        refine va_calli (va_runV (As := [.int x3, .ref rb, .int p0]) (rest := []) ⟨hx, hb, hml, hown, hts⟩ (c_X2_compare l dC dI cI cJ cB ra ra1 ra2 ra3 rb rb1 rb2 rb3 H.size ra_n ra_u ra_c ra_l ra_o rb_n rb_u rb_c rb_l rb_o x3 p0 (by first | assumption | omega | decide | (simp only [lt0, lt1, ltm1, lt400] at *; omega)) (by first | assumption | omega | decide | (simp only [lt0, lt1, ltm1, lt400] at *; omega))) (cwV 3 hts go_wo_X2_indexOf_1 rfl rfl rfl (by decide +kernel) ⟨Nat.le_of_ble_eq_true rfl, Nat.le_of_ble_eq_true rfl⟩) ⟨fun a U g mk q => by obtain ⟨q0, q1, qN, qP, qK, qD⟩ := q; exact ⟨q0, q1, NW.calling qN, qP, va_K.moved (u := U) (U := U.calling g mk a) (Vm.Alike.refl U.vm) qK, qD⟩, va_recv hK hPc (ci := 2) (q0 := 0) rfl rfl, fun U hU hW => ⟨rfl, by rw [hU], NW.warm hW hnw, by rw [hU]; exact hPc, va_K.moved hW.alike hK, hDc.weaken (fun _ _ _ _ => trivial)⟩⟩ rfl rfl hl.1 rfl (lv_room (Nat.le_of_ble_eq_true rfl)) dX2_indexOf_14 ⟨Nat.zero_le _, Nat.zero_le _⟩) hS (fun q _ h => hFc q h) hFc (fun r_2 u t H1 locs ht hvm hw hB hz1 hk1 hS => ?_)
        cases u
        obtain ⟨hP1, hK1, hD1⟩ := hB
        rw [ht] at hP1
        clear hw
        obtain ⟨hP, hD⟩ := va_join (wr := []) (w1 := [(ra, .inr (2, [.ref ra1, .ref ra2, .ref ra3, .int ra_u])), (ra1, .inl (cI, ra_n * 20, .inl ra_c)), (ra2, .inl (cI, ra_n, .inl ra_l)), (ra3, .inl (cI, 21, .inl ra_o)), (rb, .inr (2, [.ref rb1, .ref rb2, .ref rb3, .int rb_u])), (rb1, .inl (cI, rb_n * 20, .inl rb_c)), (rb2, .inl (cI, rb_n, .inl rb_l)), (rb3, .inl (cI, 21, .inl rb_o))]) hP hD [0, 1, 2, 3, 4, 5, 6, 7] [] rfl rfl (by decide) (by decide) hk1 hFc hP1 hD1
        generalize H1 = H at hP hS ⊢
        have hP : va_P (dC, dI) vwCl [(ra, .inr (2, [.ref ra1, .ref ra2, .ref ra3, .int ra_u])), (ra1, .inl (cI, ra_n * 20, .inl ra_c)), (ra2, .inl (cI, ra_n, .inl ra_l)), (ra3, .inl (cI, 21, .inl ra_o)), (rb, .inr (2, [.ref rb1, .ref rb2, .ref rb3, .int rb_u])), (rb1, .inl (cI, rb_n * 20, .inl rb_c)), (rb2, .inl (cI, rb_n, .inl rb_l)), (rb3, .inl (cI, 21, .inl rb_o))] H := hP
        have hD : va_D (va_A (ww_X2_indexOf dC dI cI cJ cB ra ra1 ra2 ra3 rb rb1 rb2 rb3 s.heap.size ra_n ra_u ra_c ra_l ra_o rb_n rb_u rb_c rb_l rb_o p0) s.heap.size) [(ra, .inr (2, [.ref ra1, .ref ra2, .ref ra3, .int ra_u])), (ra1, .inl (cI, ra_n * 20, .inl ra_c)), (ra2, .inl (cI, ra_n, .inl ra_l)), (ra3, .inl (cI, 21, .inl ra_o)), (rb, .inr (2, [.ref rb1, .ref rb2, .ref rb3, .int rb_u])), (rb1, .inl (cI, rb_n * 20, .inl rb_c)), (rb2, .inl (cI, rb_n, .inl rb_l)), (rb3, .inl (cI, 21, .inl rb_o))] := hD
        clear hPc hDc hFc hP1 hK1 hD1 hk1 hz1 ht hvm
        refine lv_if_ne (tgt := 22) hx hb dX2_indexOf_17 (by decide) (fun c_3 => ?_) (fun c_3 => ?_)
        · have tc_3 : ¬ (r_2.toInt = 0) := tb_ne_t c_3
          obtain ⟨x3_4, ex3_4⟩ : ∃ y : Int32, y = x3 + (1) := ⟨_, rfl⟩
          refine lv_iinc (v := x3_4) (lv' := [(3, .int x3_4), (0, .ref ra), (1, .ref rb), (2, .int p0)]) hx hb dX2_indexOf_22 hl (k := 3) rfl (by rw [ex3_4]; rfl) (by decide) rfl (fun ls hl => ?_)
          have := ti_rng x3
          have tex3_4 : x3_4.toInt = x3.toInt + (1) := ti_inc ex3_4 (by decide) (by omega) (by omega)
          refine lv_goto (tgt := 2) hx hb dX2_indexOf_25 (by decide) ?_
          exact ih_2 x3_4 (by omega) _ _ (hP.sub [0, 1, 2, 3, 4, 5, 6, 7] rfl) (hD.sub [0, 1, 2, 3, 4, 5, 6, 7] (by decide) rfl) hS ls (lv_sub hl [1, 2, 3, 0] rfl)
        · have tc_3 : r_2.toInt = 0 := tb_ne_f c_3
          refine lv_iload_n hx hb dX2_indexOf_20 rfl (lv_at hl 3 rfl) ?_
          have hP9 := hP.sub (ws' := [(ra, .inr (2, [.ref ra1, .ref ra2, .ref ra3, .int ra_u])), (ra1, .inl (cI, ra_n * 20, .inl ra_c)), (ra2, .inl (cI, ra_n, .inl ra_l)), (ra3, .inl (cI, 21, .inl ra_o)), (rb, .inr (2, [.ref rb1, .ref rb2, .ref rb3, .int rb_u])), (rb1, .inl (cI, rb_n * 20, .inl rb_c)), (rb2, .inl (cI, rb_n, .inl rb_l)), (rb3, .inl (cI, 21, .inl rb_o))]) [0, 1, 2, 3, 4, 5, 6, 7] rfl
          have hD9 := hD.sub (ws' := [(ra, .inr (2, [.ref ra1, .ref ra2, .ref ra3, .int ra_u])), (ra1, .inl (cI, ra_n * 20, .inl ra_c)), (ra2, .inl (cI, ra_n, .inl ra_l)), (ra3, .inl (cI, 21, .inl ra_o)), (rb, .inr (2, [.ref rb1, .ref rb2, .ref rb3, .int rb_u])), (rb1, .inl (cI, rb_n * 20, .inl rb_c)), (rb2, .inl (cI, rb_n, .inl rb_l)), (rb3, .inl (cI, 21, .inl rb_o))]) [0, 1, 2, 3, 4, 5, 6, 7] (by decide) rfl
          exact W.iret (v := x3) hx hb hr (fun t ht hW => ⟨⟨x3, (), rfl, trivial, by rw [ht]; exact hP9, va_K.moved hW.alike hK, hD9⟩, hS.F ht⟩) hS.2.2 dX2_indexOf_21
  refine lv_iconst (v := 0) hx hb dX2_indexOf_0 (by decide) ?_
  refine lv_istore_n (lv' := [(3, .int ((0 : Int32))), (0, .ref ra), (1, .ref rb), (2, .int p0)]) hx hb dX2_indexOf_1 rfl hl (by decide) rfl (fun ls hl => ?_)
  exact L_2 (((2147483647 - ((0 : Int32)).toInt).toNat) + 1) ((0 : Int32)) (Nat.lt_succ_self _) _ _ (hP.sub [0, 1, 2, 3, 4, 5, 6, 7] rfl) (hD.sub [0, 1, 2, 3, 4, 5, 6, 7] (by decide) rfl) hS ls (lv_sub hl [1, 2, 3, 0] rfl)
def wo_X2_ahead : List Cond := .code yX2_ahead cX2_ahead 6 (some .int) :: (([.fieldLink RX2 30 "SumRewriter$Rows" "used" "I"] : List Cond) ++ ((wsX20) ++ ((wsV RX2 58 RX2 yX2_compare wo_X2_compare_s))))
set_option maxRecDepth 20000 in
theorem go_wo_X2_ahead_1 : GoodIn wo_X2_ahead (wsV RX2 58 RX2 yX2_compare wo_X2_compare_s) := goodIn_sub (fun _ h => (List.mem_cons_of_mem _ (List.mem_append_right _ (List.mem_append_right _ h)))) (by decide +kernel)
abbrev ww_X2_ahead (dC : Nat → ClassId) (dI : Nat → Nat → Nat) (cI cJ cB : ClassId) (ra ra1 ra2 ra3 : Nat) (sz : Nat) (ra_n : Nat) (ra_u : Int32) (ra_c : Nat → Int32) (ra_l : Nat → Int32) (ra_o : Nat → Int32) (p0 : Int32) (p1 : Int64) : va_W := [(ra, .inr (2, [.ref ra1, .ref ra2, .ref ra3, .int ra_u])), (ra1, .inl (cI, ra_n * 20, .inl ra_c)), (ra2, .inl (cI, ra_n, .inl ra_l)), (ra3, .inl (cI, 21, .inl ra_o))]
abbrev at_X2_ahead (dC : Nat → ClassId) (dI : Nat → Nat → Nat) (cI cJ cB : ClassId) (ra ra1 ra2 ra3 : Nat) (sz : Nat) (ra_n : Nat) (ra_u : Int32) (ra_c : Nat → Int32) (ra_l : Nat → Int32) (ra_o : Nat → Int32) (p0 : Int32) (p1 : Int64) (u : Unit) (t : State) : Prop := match u with
  | () => va_P (dC, dI) vwCl [(ra, .inr (2, [.ref ra1, .ref ra2, .ref ra3, .int ra_u])), (ra1, .inl (cI, ra_n * 20, .inl ra_c)), (ra2, .inl (cI, ra_n, .inl ra_l)), (ra3, .inl (cI, 21, .inl ra_o))] t.heap ∧ va_K (dC, dI) vwCl (tyL cI cJ cB) t ∧ va_D (va_A (ww_X2_ahead dC dI cI cJ cB ra ra1 ra2 ra3 sz ra_n ra_u ra_c ra_l ra_o p0 p1) sz) [(ra, .inr (2, [.ref ra1, .ref ra2, .ref ra3, .int ra_u])), (ra1, .inl (cI, ra_n * 20, .inl ra_c)), (ra2, .inl (cI, ra_n, .inl ra_l)), (ra3, .inl (cI, 21, .inl ra_o))]
abbrev qc_X2_ahead (dC : Nat → ClassId) (dI : Nat → Nat → Nat) (cI cJ cB : ClassId) (ra ra1 ra2 ra3 : Nat) (sz : Nat) (ra_n : Nat) (ra_u : Int32) (ra_c : Nat → Int32) (ra_l : Nat → Int32) (ra_o : Nat → Int32) (p0 : Int32) (p1 : Int64) : Array Value → State → Outcome → State → Prop := va_Qi (fun (r : Int32) (u : Unit) => match u with | () => True) (at_X2_ahead dC dI cI cJ cB ra ra1 ra2 ra3 sz ra_n ra_u ra_c ra_l ra_o p0 p1) (va_A (ww_X2_ahead dC dI cI cJ cB ra ra1 ra2 ra3 sz ra_n ra_u ra_c ra_l ra_o p0 p1) sz)
abbrev pc_X2_ahead (dC : Nat → ClassId) (dI : Nat → Nat → Nat) (cI cJ cB : ClassId) (ra ra1 ra2 ra3 : Nat) (sz : Nat) (ra_n : Nat) (ra_u : Int32) (ra_c : Nat → Int32) (ra_l : Nat → Int32) (ra_o : Nat → Int32) (p0 : Int32) (p1 : Int64) : Array Value → State → Prop := va_Pc [.ref ra, .int p0, .long p1] (fun U => U.heap.size = sz ∧ NW U ∧ va_P (dC, dI) vwCl (ww_X2_ahead dC dI cI cJ cB ra ra1 ra2 ra3 sz ra_n ra_u ra_c ra_l ra_o p0 p1) U.heap ∧ va_K (dC, dI) vwCl (tyL cI cJ cB) U ∧ va_D (fun _ => True) (ww_X2_ahead dC dI cI cJ cB ra ra1 ra2 ra3 sz ra_n ra_u ra_c ra_l ra_o p0 p1))
abbrev rm_X2_ahead : Room := { frames := 2, cells := 0, slots := 0, locals := 51 }
abbrev WW_X2_ahead (p : Program) (l : Launch) (e : Env) (s : State) (m : MethodId) (below : List Frame) (meth : Method) (c : Code) (dC : Nat → ClassId) (dI : Nat → Nat → Nat) (cI cJ cB : ClassId) (ra ra1 ra2 ra3 : Nat) (sz : Nat) (ra_n : Nat) (ra_u : Int32) (ra_c : Nat → Int32) (ra_l : Nat → Int32) (ra_o : Nat → Int32) (p0 : Int32) (p1 : Int64) (H : Heap) (locs : List Loc) (g : JFrame) : Prop := W p l e rm_X2_ahead s m ([.ref ra, .int p0, .long p1] : List Value).toArray below meth c H locs 0 0 (MQ below (qc_X2_ahead dC dI cI cJ cB ra ra1 ra2 ra3 sz ra_n ra_u ra_c ra_l ra_o p0 p1) ([.ref ra, .int p0, .long p1] : List Value).toArray s 0 0 (va_A (ww_X2_ahead dC dI cI cJ cB ra ra1 ra2 ra3 sz ra_n ra_u ra_c ra_l ra_o p0 p1) sz)) g
set_option maxHeartbeats 4000000 in
set_option maxRecDepth 100000 in
theorem c_X2_ahead (l : Launch) (dC : Nat → ClassId) (dI : Nat → Nat → Nat) (cI cJ cB : ClassId) (ra ra1 ra2 ra3 : Nat) (sz : Nat) (ra_n : Nat) (ra_u : Int32) (ra_c : Nat → Int32) (ra_l : Nat → Int32) (ra_o : Nat → Int32) (p0 : Int32) (p1 : Int64) (hn_ra : 1 ≤ ra_n ∧ ra_n ≤ 201) : Met l yX2_ahead wo_X2_ahead rm_X2_ahead (pc_X2_ahead dC dI cI cJ cB ra ra1 ra2 ra3 sz ra_n ra_u ra_c ra_l ra_o p0 p1) (qc_X2_ahead dC dI cI cJ cB ra ra1 ra2 ra3 sz ra_n ra_u ra_c ra_l ra_o p0 p1) 0 0 (va_A (ww_X2_ahead dC dI cI cJ cB ra ra1 ra2 ra3 sz ra_n ra_u ra_c ra_l ra_o p0 p1) sz) := by
  refine Met.ofW (cc := cX2_ahead) (maxL := 6) (ret := (some .int)) (by decide) rfl ?_
  intro p e s m args below meth c s₁ B hml hv
  obtain ⟨rfl, hsz, hnw, hP, hK, hD0⟩ := hv
  have hx := B.exec
  have hb := B.bytes
  have hr := B.returns
  have hts := atoms_spec (ws := wo_X2_ahead) B.pre
  have hown : s.vm.findClass RX2 = some m.cls := findClass_of_methodNamed B.named
  have hlocks := B.notSynchronized
  clear B
  subst hsz
  have hD := hD0.self (sz := s.heap.size)
  clear hD0
  have kk0_ := hts (.fieldLink RX2 30 "SumRewriter$Rows" "used" "I") (by decide +kernel)
  have kk1_ : ∀ w ∈ wsX20, w ∈ wo_X2_ahead := fun _ h => (List.mem_cons_of_mem _ (List.mem_append_right _ (List.mem_append_left _ h)))
  have hA : ∀ q : Nat, s.heap.size ≤ q → (va_A (ww_X2_ahead dC dI cI cJ cB ra ra1 ra2 ra3 s.heap.size ra_n ra_u ra_c ra_l ra_o p0 p1) s.heap.size) q := fun q h => Or.inr h
  have hS : va_S (va_A (ww_X2_ahead dC dI cI cJ cB ra ra1 ra2 ra3 s.heap.size ra_n ra_u ra_c ra_l ra_o p0 p1) s.heap.size) s.heap s.heap [] := va_S.rf
  have hl := lv_entry ([.ref ra, .int p0, .long p1]) (n := 6) (Nat.le_of_ble_eq_true rfl)
  rw [lg_entry_eq]
  generalize (lg_sl ([.ref ra, .int p0, .long p1]) ++ List.replicate (6 - (lg_sl ([.ref ra, .int p0, .long p1])).length) Slot.unset).toArray = ls at hl ⊢
  have hl : lv_has ls 6 [(0, .ref ra), (1, .int p0), (2, .long p1)] := hl
  have hP : va_P (dC, dI) vwCl [(ra, .inr (2, [.ref ra1, .ref ra2, .ref ra3, .int ra_u])), (ra1, .inl (cI, ra_n * 20, .inl ra_c)), (ra2, .inl (cI, ra_n, .inl ra_l)), (ra3, .inl (cI, 21, .inl ra_o))] s.heap := hP
  have hD : va_D (va_A (ww_X2_ahead dC dI cI cJ cB ra ra1 ra2 ra3 s.heap.size ra_n ra_u ra_c ra_l ra_o p0 p1) s.heap.size) [(ra, .inr (2, [.ref ra1, .ref ra2, .ref ra3, .int ra_u])), (ra1, .inl (cI, ra_n * 20, .inl ra_c)), (ra2, .inl (cI, ra_n, .inl ra_l)), (ra3, .inl (cI, 21, .inl ra_o))] := hD
  obtain ⟨H, hH⟩ : ∃ H, H = s.heap := ⟨_, rfl⟩
  obtain ⟨locs, hlc⟩ : ∃ L : List Loc, L = [] := ⟨_, rfl⟩
  have hS : va_S (va_A (ww_X2_ahead dC dI cI cJ cB ra ra1 ra2 ra3 s.heap.size ra_n ra_u ra_c ra_l ra_o p0 p1) s.heap.size) s.heap H locs := by rw [hH, hlc]; exact hS
  have hP : va_P (dC, dI) vwCl [(ra, .inr (2, [.ref ra1, .ref ra2, .ref ra3, .int ra_u])), (ra1, .inl (cI, ra_n * 20, .inl ra_c)), (ra2, .inl (cI, ra_n, .inl ra_l)), (ra3, .inl (cI, 21, .inl ra_o))] H := by rw [hH]; exact hP
  suffices hgo : WW_X2_ahead p l e s m below meth c dC dI cI cJ cB ra ra1 ra2 ra3 s.heap.size ra_n ra_u ra_c ra_l ra_o p0 p1 H locs (F0 m 0 ls []) by rw [hH, hlc] at hgo; exact hgo
  clear hH hlc
  have L_6 : ∀ (N_6 : Nat), ∀ (x4 : Int32) (x5 : Int32), ((2147483647 - x5.toInt).toNat) < N_6 → ∀ (H : Heap) (locs : List Loc), va_P (dC, dI) vwCl [(ra, .inr (2, [.ref ra1, .ref ra2, .ref ra3, .int ra_u])), (ra1, .inl (cI, ra_n * 20, .inl ra_c)), (ra2, .inl (cI, ra_n, .inl ra_l)), (ra3, .inl (cI, 21, .inl ra_o))] H → va_D (va_A (ww_X2_ahead dC dI cI cJ cB ra ra1 ra2 ra3 s.heap.size ra_n ra_u ra_c ra_l ra_o p0 p1) s.heap.size) [(ra, .inr (2, [.ref ra1, .ref ra2, .ref ra3, .int ra_u])), (ra1, .inl (cI, ra_n * 20, .inl ra_c)), (ra2, .inl (cI, ra_n, .inl ra_l)), (ra3, .inl (cI, 21, .inl ra_o))] → va_S (va_A (ww_X2_ahead dC dI cI cJ cB ra ra1 ra2 ra3 s.heap.size ra_n ra_u ra_c ra_l ra_o p0 p1) s.heap.size) s.heap H locs → ∀ ls : Array Slot, lv_has ls 6 [(0, .ref ra), (1, .int p0), (2, .long p1), (4, .int x4), (5, .int x5)] → WW_X2_ahead p l e s m below meth c dC dI cI cJ cB ra ra1 ra2 ra3 s.heap.size ra_n ra_u ra_c ra_l ra_o p0 p1 H locs (F0 m 6 ls []) := by
    intro N_6
    induction N_6 with
    | zero => intro x4 x5  hm; exact absurd hm (Nat.not_lt_zero _)
    | succ N_6 ih_6 =>
      intro x4 x5  hm_6 H locs hP hD hS ls hl
      refine lv_iload hx hb dX2_ahead_6 (lv_at hl 4 rfl) ?_
      refine lv_aload_n hx hb dX2_ahead_8 rfl (lv_at hl 0 rfl) ?_
      refine va_get (D := (dC, dI)) (ci := 2) (v := .int ra_u) (C := RX2) (T := TX2) (N := 4) hx hb hts kk1_ hown hK hP 0 rfl rfl 3 (by decide) kk0_ (fun _ h9 => h9) rfl dX2_ahead_9 ?_
      refine lv_icmp_ge (tgt := 46) hx hb dX2_ahead_12 (by decide) (fun c_1 => ?_) (fun c_1 => ?_)
      · have tc_1 : ra_u.toInt ≤ x5.toInt := tb_ge_t c_1
        have := ti_rng x5
        have := ti_rng ra_u
        refine lv_iload hx hb dX2_ahead_46 (lv_at hl 3 rfl) ?_
        have hP9 := hP.sub (ws' := [(ra, .inr (2, [.ref ra1, .ref ra2, .ref ra3, .int ra_u])), (ra1, .inl (cI, ra_n * 20, .inl ra_c)), (ra2, .inl (cI, ra_n, .inl ra_l)), (ra3, .inl (cI, 21, .inl ra_o))]) [0, 1, 2, 3] rfl
        have hD9 := hD.sub (ws' := [(ra, .inr (2, [.ref ra1, .ref ra2, .ref ra3, .int ra_u])), (ra1, .inl (cI, ra_n * 20, .inl ra_c)), (ra2, .inl (cI, ra_n, .inl ra_l)), (ra3, .inl (cI, 21, .inl ra_o))]) [0, 1, 2, 3] (by decide) rfl
        exact W.iret (v := x4) hx hb hr (fun t ht hW => ⟨⟨x4, (), rfl, trivial, by rw [ht]; exact hP9, va_K.moved hW.alike hK, hD9⟩, hS.F ht⟩) hS.2.2 dX2_ahead_48
      · have tc_1 : x5.toInt < ra_u.toInt := tb_ge_f c_1
        have := ti_rng x5
        have := ti_rng ra_u
        refine lv_lload_n hx hb dX2_ahead_15 rfl (lv_at hl 2 rfl) ?_
        refine lv_iload hx hb dX2_ahead_16 (lv_at hl 4 rfl) ?_
        refine lv_lshr hx hb dX2_ahead_18 rfl ?_
        refine lv_topl (fun y_2 ey_2 => ?_)
        refine lv_lconst (v := 1) hx hb dX2_ahead_19 (by decide) ?_
        refine lv_land hx hb dX2_ahead_20 ?_
        refine lv_topl (fun y_3 ey_3 => ?_)
        refine lv_lconst (v := 0) hx hb dX2_ahead_21 (by decide) ?_
        refine W.lcmp hx hb dX2_ahead_22 ?_
        refine lv_topi (fun y_4 ey_4 => ?_)
        refine lv_if_eq (tgt := 40) hx hb dX2_ahead_23 (by decide) (fun c_5 => ?_) (fun c_5 => ?_)
        · have tc_5 : y_4.toInt = 0 := tb_eq_t c_5
          obtain ⟨x5_6, ex5_6⟩ : ∃ y : Int32, y = x5 + (1) := ⟨_, rfl⟩
          refine lv_iinc (v := x5_6) (lv' := [(5, .int x5_6), (0, .ref ra), (1, .int p0), (2, .long p1), (4, .int x4)]) hx hb dX2_ahead_40 hl (k := 4) rfl (by rw [ex5_6]; rfl) (by decide) rfl (fun ls hl => ?_)
          have := ti_rng x5
          have tex5_6 : x5_6.toInt = x5.toInt + (1) := ti_inc ex5_6 (by decide) (by omega) (by omega)
          refine lv_goto (tgt := 6) hx hb dX2_ahead_43 (by decide) ?_
          exact ih_6 x4 x5_6 (by omega) _ _ (hP.sub [0, 1, 2, 3] rfl) (hD.sub [0, 1, 2, 3] (by decide) rfl) hS ls (lv_sub hl [1, 2, 3, 4, 0] rfl)
        · have tc_5 : ¬ (y_4.toInt = 0) := tb_eq_f c_5
          refine lv_aload_n hx hb dX2_ahead_26 rfl (lv_at hl 0 rfl) ?_
          refine lv_iload hx hb dX2_ahead_27 (lv_at hl 4 rfl) ?_
          refine lv_aload_n hx hb dX2_ahead_29 rfl (lv_at hl 0 rfl) ?_
          refine lv_iload_n hx hb dX2_ahead_30 rfl (lv_at hl 1 rfl) ?_
          have hPc := hP.sub (ws' := [(ra, .inr (2, [.ref ra1, .ref ra2, .ref ra3, .int ra_u])), (ra1, .inl (cI, ra_n * 20, .inl ra_c)), (ra2, .inl (cI, ra_n, .inl ra_l)), (ra3, .inl (cI, 21, .inl ra_o))]) [0, 1, 2, 3] rfl
          have hDc := hD.sub (ws' := [(ra, .inr (2, [.ref ra1, .ref ra2, .ref ra3, .int ra_u])), (ra1, .inl (cI, ra_n * 20, .inl ra_c)), (ra2, .inl (cI, ra_n, .inl ra_l)), (ra3, .inl (cI, 21, .inl ra_o))]) [0, 1, 2, 3] (by decide) rfl
          have hFc := va_free (wc := [(ra, .inr (2, [.ref ra1, .ref ra2, .ref ra3, .int ra_u])), (ra1, .inl (cI, ra_n * 20, .inl ra_c)), (ra2, .inl (cI, ra_n, .inl ra_l)), (ra3, .inl (cI, 21, .inl ra_o))]) hD hS hA [0, 1, 2, 3] rfl
          refine va_calli (va_runV (As := [.int x5, .ref ra, .int p0]) (rest := []) ⟨hx, hb, hml, hown, hts⟩ (c_X2_compare_s l dC dI cI cJ cB ra ra1 ra2 ra3 H.size ra_n ra_u ra_c ra_l ra_o x5 p0 (by first | assumption | omega | decide | (simp only [lt0, lt1, ltm1, lt400] at *; omega))) (cwV 3 hts go_wo_X2_ahead_1 rfl rfl rfl (by decide +kernel) ⟨Nat.le_of_ble_eq_true rfl, Nat.le_of_ble_eq_true rfl⟩) ⟨fun a U g mk q => by obtain ⟨q0, q1, qN, qP, qK, qD⟩ := q; exact ⟨q0, q1, NW.calling qN, qP, va_K.moved (u := U) (U := U.calling g mk a) (Vm.Alike.refl U.vm) qK, qD⟩, va_recv hK hPc (ci := 2) (q0 := 0) rfl rfl, fun U hU hW => ⟨rfl, by rw [hU], NW.warm hW hnw, by rw [hU]; exact hPc, va_K.moved hW.alike hK, hDc.weaken (fun _ _ _ _ => trivial)⟩⟩ rfl rfl hl.1 rfl (lv_room (Nat.le_of_ble_eq_true rfl)) dX2_ahead_31 ⟨Nat.zero_le _, Nat.zero_le _⟩) hS (fun q _ h => hFc q h) hFc (fun r_7 u t H1 locs ht hvm hw hB hz1 hk1 hS => ?_)
          cases u
          obtain ⟨hP1, hK1, hD1⟩ := hB
          rw [ht] at hP1
          clear hw
          obtain ⟨hP, hD⟩ := va_join (wr := []) (w1 := [(ra, .inr (2, [.ref ra1, .ref ra2, .ref ra3, .int ra_u])), (ra1, .inl (cI, ra_n * 20, .inl ra_c)), (ra2, .inl (cI, ra_n, .inl ra_l)), (ra3, .inl (cI, 21, .inl ra_o))]) hP hD [0, 1, 2, 3] [] rfl rfl (by decide) (by decide) hk1 hFc hP1 hD1
          generalize H1 = H at hP hS ⊢
          have hP : va_P (dC, dI) vwCl [(ra, .inr (2, [.ref ra1, .ref ra2, .ref ra3, .int ra_u])), (ra1, .inl (cI, ra_n * 20, .inl ra_c)), (ra2, .inl (cI, ra_n, .inl ra_l)), (ra3, .inl (cI, 21, .inl ra_o))] H := hP
          have hD : va_D (va_A (ww_X2_ahead dC dI cI cJ cB ra ra1 ra2 ra3 s.heap.size ra_n ra_u ra_c ra_l ra_o p0 p1) s.heap.size) [(ra, .inr (2, [.ref ra1, .ref ra2, .ref ra3, .int ra_u])), (ra1, .inl (cI, ra_n * 20, .inl ra_c)), (ra2, .inl (cI, ra_n, .inl ra_l)), (ra3, .inl (cI, 21, .inl ra_o))] := hD
          clear hPc hDc hFc hP1 hK1 hD1 hk1 hz1 ht hvm
          refine lv_if_ge (tgt := 40) hx hb dX2_ahead_34 (by decide) (fun c_8 => ?_) (fun c_8 => ?_)
          · have tc_8 : 0 ≤ r_7.toInt := tb_ge_t c_8
            obtain ⟨x5_9, ex5_9⟩ : ∃ y : Int32, y = x5 + (1) := ⟨_, rfl⟩
            refine lv_iinc (v := x5_9) (lv' := [(5, .int x5_9), (0, .ref ra), (1, .int p0), (2, .long p1), (4, .int x4)]) hx hb dX2_ahead_40 hl (k := 4) rfl (by rw [ex5_9]; rfl) (by decide) rfl (fun ls hl => ?_)
            have := ti_rng x5
            have tex5_9 : x5_9.toInt = x5.toInt + (1) := ti_inc ex5_9 (by decide) (by omega) (by omega)
            refine lv_goto (tgt := 6) hx hb dX2_ahead_43 (by decide) ?_
            exact ih_6 x4 x5_9 (by omega) _ _ (hP.sub [0, 1, 2, 3] rfl) (hD.sub [0, 1, 2, 3] (by decide) rfl) hS ls (lv_sub hl [1, 2, 3, 4, 0] rfl)
          · have tc_8 : r_7.toInt < 0 := tb_ge_f c_8
            obtain ⟨x4_10, ex4_10⟩ : ∃ y : Int32, y = x4 + (1) := ⟨_, rfl⟩
            refine lv_iinc (v := x4_10) (lv' := [(4, .int x4_10), (0, .ref ra), (1, .int p0), (2, .long p1), (5, .int x5)]) hx hb dX2_ahead_37 hl (k := 3) rfl (by rw [ex4_10]; rfl) (by decide) rfl (fun ls hl => ?_)
            obtain ⟨x5_11, ex5_11⟩ : ∃ y : Int32, y = x5 + (1) := ⟨_, rfl⟩
            refine lv_iinc (v := x5_11) (lv' := [(5, .int x5_11), (4, .int x4_10), (0, .ref ra), (1, .int p0), (2, .long p1)]) hx hb dX2_ahead_40 hl (k := 4) rfl (by rw [ex5_11]; rfl) (by decide) rfl (fun ls hl => ?_)
            have := ti_rng x5
            have tex5_11 : x5_11.toInt = x5.toInt + (1) := ti_inc ex5_11 (by decide) (by omega) (by omega)
            refine lv_goto (tgt := 6) hx hb dX2_ahead_43 (by decide) ?_
            exact ih_6 x4_10 x5_11 (by omega) _ _ (hP.sub [0, 1, 2, 3] rfl) (hD.sub [0, 1, 2, 3] (by decide) rfl) hS ls (lv_sub hl [2, 3, 4, 1, 0] rfl)
  refine lv_iconst (v := 0) hx hb dX2_ahead_0 (by decide) ?_
  refine lv_istore (lv' := [(4, .int ((0 : Int32))), (0, .ref ra), (1, .int p0), (2, .long p1)]) hx hb dX2_ahead_1 hl (by decide) rfl (fun ls hl => ?_)
  refine lv_iconst (v := 0) hx hb dX2_ahead_3 (by decide) ?_
  refine lv_istore (lv' := [(5, .int ((0 : Int32))), (4, .int ((0 : Int32))), (0, .ref ra), (1, .int p0), (2, .long p1)]) hx hb dX2_ahead_4 hl (by decide) rfl (fun ls hl => ?_)
  exact L_6 (((2147483647 - ((0 : Int32)).toInt).toNat) + 1) ((0 : Int32)) ((0 : Int32)) (Nat.lt_succ_self _) _ _ (hP.sub [0, 1, 2, 3] rfl) (hD.sub [0, 1, 2, 3] (by decide) rfl) hS ls (lv_sub hl [2, 3, 4, 1, 0] rfl)
def wo_X2_nth : List Cond := .code yX2_nth cX2_nth 5 (some .int) :: (([.fieldLink RX2 30 "SumRewriter$Rows" "used" "I"] : List Cond) ++ ((wsX20) ++ ((wsV RX2 61 RX2 yX2_ahead wo_X2_ahead))))
set_option maxRecDepth 20000 in
theorem go_wo_X2_nth_1 : GoodIn wo_X2_nth (wsV RX2 61 RX2 yX2_ahead wo_X2_ahead) := goodIn_sub (fun _ h => (List.mem_cons_of_mem _ (List.mem_append_right _ (List.mem_append_right _ h)))) (by decide +kernel)
abbrev ww_X2_nth (dC : Nat → ClassId) (dI : Nat → Nat → Nat) (cI cJ cB : ClassId) (ra ra1 ra2 ra3 : Nat) (sz : Nat) (ra_n : Nat) (ra_u : Int32) (ra_c : Nat → Int32) (ra_l : Nat → Int32) (ra_o : Nat → Int32) (p0 : Int32) (p1 : Int64) : va_W := [(ra, .inr (2, [.ref ra1, .ref ra2, .ref ra3, .int ra_u])), (ra1, .inl (cI, ra_n * 20, .inl ra_c)), (ra2, .inl (cI, ra_n, .inl ra_l)), (ra3, .inl (cI, 21, .inl ra_o))]
abbrev at_X2_nth (dC : Nat → ClassId) (dI : Nat → Nat → Nat) (cI cJ cB : ClassId) (ra ra1 ra2 ra3 : Nat) (sz : Nat) (ra_n : Nat) (ra_u : Int32) (ra_c : Nat → Int32) (ra_l : Nat → Int32) (ra_o : Nat → Int32) (p0 : Int32) (p1 : Int64) (u : Unit) (t : State) : Prop := match u with
  | () => va_P (dC, dI) vwCl [(ra, .inr (2, [.ref ra1, .ref ra2, .ref ra3, .int ra_u])), (ra1, .inl (cI, ra_n * 20, .inl ra_c)), (ra2, .inl (cI, ra_n, .inl ra_l)), (ra3, .inl (cI, 21, .inl ra_o))] t.heap ∧ va_K (dC, dI) vwCl (tyL cI cJ cB) t ∧ va_D (va_A (ww_X2_nth dC dI cI cJ cB ra ra1 ra2 ra3 sz ra_n ra_u ra_c ra_l ra_o p0 p1) sz) [(ra, .inr (2, [.ref ra1, .ref ra2, .ref ra3, .int ra_u])), (ra1, .inl (cI, ra_n * 20, .inl ra_c)), (ra2, .inl (cI, ra_n, .inl ra_l)), (ra3, .inl (cI, 21, .inl ra_o))]
abbrev qc_X2_nth (dC : Nat → ClassId) (dI : Nat → Nat → Nat) (cI cJ cB : ClassId) (ra ra1 ra2 ra3 : Nat) (sz : Nat) (ra_n : Nat) (ra_u : Int32) (ra_c : Nat → Int32) (ra_l : Nat → Int32) (ra_o : Nat → Int32) (p0 : Int32) (p1 : Int64) : Array Value → State → Outcome → State → Prop := va_Qi (fun (r : Int32) (u : Unit) => match u with | () => True) (at_X2_nth dC dI cI cJ cB ra ra1 ra2 ra3 sz ra_n ra_u ra_c ra_l ra_o p0 p1) (va_A (ww_X2_nth dC dI cI cJ cB ra ra1 ra2 ra3 sz ra_n ra_u ra_c ra_l ra_o p0 p1) sz)
abbrev pc_X2_nth (dC : Nat → ClassId) (dI : Nat → Nat → Nat) (cI cJ cB : ClassId) (ra ra1 ra2 ra3 : Nat) (sz : Nat) (ra_n : Nat) (ra_u : Int32) (ra_c : Nat → Int32) (ra_l : Nat → Int32) (ra_o : Nat → Int32) (p0 : Int32) (p1 : Int64) : Array Value → State → Prop := va_Pc [.ref ra, .int p0, .long p1] (fun U => U.heap.size = sz ∧ NW U ∧ va_P (dC, dI) vwCl (ww_X2_nth dC dI cI cJ cB ra ra1 ra2 ra3 sz ra_n ra_u ra_c ra_l ra_o p0 p1) U.heap ∧ va_K (dC, dI) vwCl (tyL cI cJ cB) U ∧ va_D (fun _ => True) (ww_X2_nth dC dI cI cJ cB ra ra1 ra2 ra3 sz ra_n ra_u ra_c ra_l ra_o p0 p1))
abbrev rm_X2_nth : Room := { frames := 3, cells := 0, slots := 0, locals := 76 }
abbrev WW_X2_nth (p : Program) (l : Launch) (e : Env) (s : State) (m : MethodId) (below : List Frame) (meth : Method) (c : Code) (dC : Nat → ClassId) (dI : Nat → Nat → Nat) (cI cJ cB : ClassId) (ra ra1 ra2 ra3 : Nat) (sz : Nat) (ra_n : Nat) (ra_u : Int32) (ra_c : Nat → Int32) (ra_l : Nat → Int32) (ra_o : Nat → Int32) (p0 : Int32) (p1 : Int64) (H : Heap) (locs : List Loc) (g : JFrame) : Prop := W p l e rm_X2_nth s m ([.ref ra, .int p0, .long p1] : List Value).toArray below meth c H locs 0 0 (MQ below (qc_X2_nth dC dI cI cJ cB ra ra1 ra2 ra3 sz ra_n ra_u ra_c ra_l ra_o p0 p1) ([.ref ra, .int p0, .long p1] : List Value).toArray s 0 0 (va_A (ww_X2_nth dC dI cI cJ cB ra ra1 ra2 ra3 sz ra_n ra_u ra_c ra_l ra_o p0 p1) sz)) g
set_option maxHeartbeats 4000000 in
set_option maxRecDepth 100000 in
theorem c_X2_nth (l : Launch) (dC : Nat → ClassId) (dI : Nat → Nat → Nat) (cI cJ cB : ClassId) (ra ra1 ra2 ra3 : Nat) (sz : Nat) (ra_n : Nat) (ra_u : Int32) (ra_c : Nat → Int32) (ra_l : Nat → Int32) (ra_o : Nat → Int32) (p0 : Int32) (p1 : Int64) (hn_ra : 1 ≤ ra_n ∧ ra_n ≤ 201) : Met l yX2_nth wo_X2_nth rm_X2_nth (pc_X2_nth dC dI cI cJ cB ra ra1 ra2 ra3 sz ra_n ra_u ra_c ra_l ra_o p0 p1) (qc_X2_nth dC dI cI cJ cB ra ra1 ra2 ra3 sz ra_n ra_u ra_c ra_l ra_o p0 p1) 0 0 (va_A (ww_X2_nth dC dI cI cJ cB ra ra1 ra2 ra3 sz ra_n ra_u ra_c ra_l ra_o p0 p1) sz) := by
  refine Met.ofW (cc := cX2_nth) (maxL := 5) (ret := (some .int)) (by decide) rfl ?_
  intro p e s m args below meth c s₁ B hml hv
  obtain ⟨rfl, hsz, hnw, hP, hK, hD0⟩ := hv
  have hx := B.exec
  have hb := B.bytes
  have hr := B.returns
  have hts := atoms_spec (ws := wo_X2_nth) B.pre
  have hown : s.vm.findClass RX2 = some m.cls := findClass_of_methodNamed B.named
  have hlocks := B.notSynchronized
  clear B
  subst hsz
  have hD := hD0.self (sz := s.heap.size)
  clear hD0
  have kk0_ := hts (.fieldLink RX2 30 "SumRewriter$Rows" "used" "I") (by decide +kernel)
  have kk1_ : ∀ w ∈ wsX20, w ∈ wo_X2_nth := fun _ h => (List.mem_cons_of_mem _ (List.mem_append_right _ (List.mem_append_left _ h)))
  have hA : ∀ q : Nat, s.heap.size ≤ q → (va_A (ww_X2_nth dC dI cI cJ cB ra ra1 ra2 ra3 s.heap.size ra_n ra_u ra_c ra_l ra_o p0 p1) s.heap.size) q := fun q h => Or.inr h
  have hS : va_S (va_A (ww_X2_nth dC dI cI cJ cB ra ra1 ra2 ra3 s.heap.size ra_n ra_u ra_c ra_l ra_o p0 p1) s.heap.size) s.heap s.heap [] := va_S.rf
  have hl := lv_entry ([.ref ra, .int p0, .long p1]) (n := 5) (Nat.le_of_ble_eq_true rfl)
  rw [lg_entry_eq]
  generalize (lg_sl ([.ref ra, .int p0, .long p1]) ++ List.replicate (5 - (lg_sl ([.ref ra, .int p0, .long p1])).length) Slot.unset).toArray = ls at hl ⊢
  have hl : lv_has ls 5 [(0, .ref ra), (1, .int p0), (2, .long p1)] := hl
  have hP : va_P (dC, dI) vwCl [(ra, .inr (2, [.ref ra1, .ref ra2, .ref ra3, .int ra_u])), (ra1, .inl (cI, ra_n * 20, .inl ra_c)), (ra2, .inl (cI, ra_n, .inl ra_l)), (ra3, .inl (cI, 21, .inl ra_o))] s.heap := hP
  have hD : va_D (va_A (ww_X2_nth dC dI cI cJ cB ra ra1 ra2 ra3 s.heap.size ra_n ra_u ra_c ra_l ra_o p0 p1) s.heap.size) [(ra, .inr (2, [.ref ra1, .ref ra2, .ref ra3, .int ra_u])), (ra1, .inl (cI, ra_n * 20, .inl ra_c)), (ra2, .inl (cI, ra_n, .inl ra_l)), (ra3, .inl (cI, 21, .inl ra_o))] := hD
  obtain ⟨H, hH⟩ : ∃ H, H = s.heap := ⟨_, rfl⟩
  obtain ⟨locs, hlc⟩ : ∃ L : List Loc, L = [] := ⟨_, rfl⟩
  have hS : va_S (va_A (ww_X2_nth dC dI cI cJ cB ra ra1 ra2 ra3 s.heap.size ra_n ra_u ra_c ra_l ra_o p0 p1) s.heap.size) s.heap H locs := by rw [hH, hlc]; exact hS
  have hP : va_P (dC, dI) vwCl [(ra, .inr (2, [.ref ra1, .ref ra2, .ref ra3, .int ra_u])), (ra1, .inl (cI, ra_n * 20, .inl ra_c)), (ra2, .inl (cI, ra_n, .inl ra_l)), (ra3, .inl (cI, 21, .inl ra_o))] H := by rw [hH]; exact hP
  suffices hgo : WW_X2_nth p l e s m below meth c dC dI cI cJ cB ra ra1 ra2 ra3 s.heap.size ra_n ra_u ra_c ra_l ra_o p0 p1 H locs (F0 m 0 ls []) by rw [hH, hlc] at hgo; exact hgo
  clear hH hlc
  have L_3 : ∀ (N_3 : Nat), ∀ (x4 : Int32), ((2147483647 - x4.toInt).toNat) < N_3 → ∀ (H : Heap) (locs : List Loc), va_P (dC, dI) vwCl [(ra, .inr (2, [.ref ra1, .ref ra2, .ref ra3, .int ra_u])), (ra1, .inl (cI, ra_n * 20, .inl ra_c)), (ra2, .inl (cI, ra_n, .inl ra_l)), (ra3, .inl (cI, 21, .inl ra_o))] H → va_D (va_A (ww_X2_nth dC dI cI cJ cB ra ra1 ra2 ra3 s.heap.size ra_n ra_u ra_c ra_l ra_o p0 p1) s.heap.size) [(ra, .inr (2, [.ref ra1, .ref ra2, .ref ra3, .int ra_u])), (ra1, .inl (cI, ra_n * 20, .inl ra_c)), (ra2, .inl (cI, ra_n, .inl ra_l)), (ra3, .inl (cI, 21, .inl ra_o))] → va_S (va_A (ww_X2_nth dC dI cI cJ cB ra ra1 ra2 ra3 s.heap.size ra_n ra_u ra_c ra_l ra_o p0 p1) s.heap.size) s.heap H locs → ∀ ls : Array Slot, lv_has ls 5 [(0, .ref ra), (1, .int p0), (2, .long p1), (4, .int x4)] → WW_X2_nth p l e s m below meth c dC dI cI cJ cB ra ra1 ra2 ra3 s.heap.size ra_n ra_u ra_c ra_l ra_o p0 p1 H locs (F0 m 3 ls []) := by
    intro N_3
    induction N_3 with
    | zero => intro x4  hm; exact absurd hm (Nat.not_lt_zero _)
    | succ N_3 ih_3 =>
      intro x4  hm_3 H locs hP hD hS ls hl
      refine lv_iload hx hb dX2_nth_3 (lv_at hl 3 rfl) ?_
      refine lv_aload_n hx hb dX2_nth_5 rfl (lv_at hl 0 rfl) ?_
      refine va_get (D := (dC, dI)) (ci := 2) (v := .int ra_u) (C := RX2) (T := TX2) (N := 4) hx hb hts kk1_ hown hK hP 0 rfl rfl 3 (by decide) kk0_ (fun _ h9 => h9) rfl dX2_nth_6 ?_
      refine lv_icmp_ge (tgt := 43) hx hb dX2_nth_9 (by decide) (fun c_1 => ?_) (fun c_1 => ?_)
      · have tc_1 : ra_u.toInt ≤ x4.toInt := tb_ge_t c_1
        have := ti_rng x4
        have := ti_rng ra_u
        refine lv_iconst (v := -1) hx hb dX2_nth_43 (by decide) ?_
        have hP9 := hP.sub (ws' := [(ra, .inr (2, [.ref ra1, .ref ra2, .ref ra3, .int ra_u])), (ra1, .inl (cI, ra_n * 20, .inl ra_c)), (ra2, .inl (cI, ra_n, .inl ra_l)), (ra3, .inl (cI, 21, .inl ra_o))]) [0, 1, 2, 3] rfl
        have hD9 := hD.sub (ws' := [(ra, .inr (2, [.ref ra1, .ref ra2, .ref ra3, .int ra_u])), (ra1, .inl (cI, ra_n * 20, .inl ra_c)), (ra2, .inl (cI, ra_n, .inl ra_l)), (ra3, .inl (cI, 21, .inl ra_o))]) [0, 1, 2, 3] (by decide) rfl
        exact W.iret (v := (-1 : Int32)) hx hb hr (fun t ht hW => ⟨⟨(-1 : Int32), (), rfl, trivial, by rw [ht]; exact hP9, va_K.moved hW.alike hK, hD9⟩, hS.F ht⟩) hS.2.2 dX2_nth_44
      · have tc_1 : x4.toInt < ra_u.toInt := tb_ge_f c_1
        have := ti_rng x4
        have := ti_rng ra_u
        refine lv_lload_n hx hb dX2_nth_12 rfl (lv_at hl 2 rfl) ?_
        refine lv_iload hx hb dX2_nth_13 (lv_at hl 3 rfl) ?_
        refine lv_lshr hx hb dX2_nth_15 rfl ?_
        refine lv_topl (fun y_2 ey_2 => ?_)
        refine lv_lconst (v := 1) hx hb dX2_nth_16 (by decide) ?_
        refine lv_land hx hb dX2_nth_17 ?_
        refine lv_topl (fun y_3 ey_3 => ?_)
        refine lv_lconst (v := 0) hx hb dX2_nth_18 (by decide) ?_
        refine W.lcmp hx hb dX2_nth_19 ?_
        refine lv_topi (fun y_4 ey_4 => ?_)
        refine lv_if_eq (tgt := 37) hx hb dX2_nth_20 (by decide) (fun c_5 => ?_) (fun c_5 => ?_)
        · have tc_5 : y_4.toInt = 0 := tb_eq_t c_5
          obtain ⟨x4_6, ex4_6⟩ : ∃ y : Int32, y = x4 + (1) := ⟨_, rfl⟩
          refine lv_iinc (v := x4_6) (lv' := [(4, .int x4_6), (0, .ref ra), (1, .int p0), (2, .long p1)]) hx hb dX2_nth_37 hl (k := 3) rfl (by rw [ex4_6]; rfl) (by decide) rfl (fun ls hl => ?_)
          have := ti_rng x4
          have tex4_6 : x4_6.toInt = x4.toInt + (1) := ti_inc ex4_6 (by decide) (by omega) (by omega)
          refine lv_goto (tgt := 3) hx hb dX2_nth_40 (by decide) ?_
          exact ih_3 x4_6 (by omega) _ _ (hP.sub [0, 1, 2, 3] rfl) (hD.sub [0, 1, 2, 3] (by decide) rfl) hS ls (lv_sub hl [1, 2, 3, 0] rfl)
        · have tc_5 : ¬ (y_4.toInt = 0) := tb_eq_f c_5
          refine lv_aload_n hx hb dX2_nth_23 rfl (lv_at hl 0 rfl) ?_
          refine lv_iload hx hb dX2_nth_24 (lv_at hl 3 rfl) ?_
          refine lv_lload_n hx hb dX2_nth_26 rfl (lv_at hl 2 rfl) ?_
          have hPc := hP.sub (ws' := [(ra, .inr (2, [.ref ra1, .ref ra2, .ref ra3, .int ra_u])), (ra1, .inl (cI, ra_n * 20, .inl ra_c)), (ra2, .inl (cI, ra_n, .inl ra_l)), (ra3, .inl (cI, 21, .inl ra_o))]) [0, 1, 2, 3] rfl
          have hDc := hD.sub (ws' := [(ra, .inr (2, [.ref ra1, .ref ra2, .ref ra3, .int ra_u])), (ra1, .inl (cI, ra_n * 20, .inl ra_c)), (ra2, .inl (cI, ra_n, .inl ra_l)), (ra3, .inl (cI, 21, .inl ra_o))]) [0, 1, 2, 3] (by decide) rfl
          have hFc := va_free (wc := [(ra, .inr (2, [.ref ra1, .ref ra2, .ref ra3, .int ra_u])), (ra1, .inl (cI, ra_n * 20, .inl ra_c)), (ra2, .inl (cI, ra_n, .inl ra_l)), (ra3, .inl (cI, 21, .inl ra_o))]) hD hS hA [0, 1, 2, 3] rfl
          refine va_calli (va_runV (As := [.int x4, .long p1]) (rest := []) ⟨hx, hb, hml, hown, hts⟩ (c_X2_ahead l dC dI cI cJ cB ra ra1 ra2 ra3 H.size ra_n ra_u ra_c ra_l ra_o x4 p1 (by first | assumption | omega | decide | (simp only [lt0, lt1, ltm1, lt400] at *; omega))) (cwV 2 hts go_wo_X2_nth_1 rfl rfl rfl (by decide +kernel) ⟨Nat.le_of_ble_eq_true rfl, Nat.le_of_ble_eq_true rfl⟩) ⟨fun a U g mk q => by obtain ⟨q0, q1, qN, qP, qK, qD⟩ := q; exact ⟨q0, q1, NW.calling qN, qP, va_K.moved (u := U) (U := U.calling g mk a) (Vm.Alike.refl U.vm) qK, qD⟩, va_recv hK hPc (ci := 2) (q0 := 0) rfl rfl, fun U hU hW => ⟨rfl, by rw [hU], NW.warm hW hnw, by rw [hU]; exact hPc, va_K.moved hW.alike hK, hDc.weaken (fun _ _ _ _ => trivial)⟩⟩ rfl rfl hl.1 rfl (lv_room (Nat.le_of_ble_eq_true rfl)) dX2_nth_27 ⟨Nat.zero_le _, Nat.zero_le _⟩) hS (fun q _ h => hFc q h) hFc (fun r_7 u t H1 locs ht hvm hw hB hz1 hk1 hS => ?_)
          cases u
          obtain ⟨hP1, hK1, hD1⟩ := hB
          rw [ht] at hP1
          clear hw
          obtain ⟨hP, hD⟩ := va_join (wr := []) (w1 := [(ra, .inr (2, [.ref ra1, .ref ra2, .ref ra3, .int ra_u])), (ra1, .inl (cI, ra_n * 20, .inl ra_c)), (ra2, .inl (cI, ra_n, .inl ra_l)), (ra3, .inl (cI, 21, .inl ra_o))]) hP hD [0, 1, 2, 3] [] rfl rfl (by decide) (by decide) hk1 hFc hP1 hD1
          generalize H1 = H at hP hS ⊢
          have hP : va_P (dC, dI) vwCl [(ra, .inr (2, [.ref ra1, .ref ra2, .ref ra3, .int ra_u])), (ra1, .inl (cI, ra_n * 20, .inl ra_c)), (ra2, .inl (cI, ra_n, .inl ra_l)), (ra3, .inl (cI, 21, .inl ra_o))] H := hP
          have hD : va_D (va_A (ww_X2_nth dC dI cI cJ cB ra ra1 ra2 ra3 s.heap.size ra_n ra_u ra_c ra_l ra_o p0 p1) s.heap.size) [(ra, .inr (2, [.ref ra1, .ref ra2, .ref ra3, .int ra_u])), (ra1, .inl (cI, ra_n * 20, .inl ra_c)), (ra2, .inl (cI, ra_n, .inl ra_l)), (ra3, .inl (cI, 21, .inl ra_o))] := hD
          clear hPc hDc hFc hP1 hK1 hD1 hk1 hz1 ht hvm
          refine lv_iload_n hx hb dX2_nth_30 rfl (lv_at hl 1 rfl) ?_
          refine lv_icmp_ne (tgt := 37) hx hb dX2_nth_31 (by decide) (fun c_8 => ?_) (fun c_8 => ?_)
          · have tc_8 : ¬ (r_7.toInt = p0.toInt) := tb_ne_t c_8
            have := ti_rng r_7
            have := ti_rng p0
            obtain ⟨x4_9, ex4_9⟩ : ∃ y : Int32, y = x4 + (1) := ⟨_, rfl⟩
            refine lv_iinc (v := x4_9) (lv' := [(4, .int x4_9), (0, .ref ra), (1, .int p0), (2, .long p1)]) hx hb dX2_nth_37 hl (k := 3) rfl (by rw [ex4_9]; rfl) (by decide) rfl (fun ls hl => ?_)
            have := ti_rng x4
            have tex4_9 : x4_9.toInt = x4.toInt + (1) := ti_inc ex4_9 (by decide) (by omega) (by omega)
            refine lv_goto (tgt := 3) hx hb dX2_nth_40 (by decide) ?_
            exact ih_3 x4_9 (by omega) _ _ (hP.sub [0, 1, 2, 3] rfl) (hD.sub [0, 1, 2, 3] (by decide) rfl) hS ls (lv_sub hl [1, 2, 3, 0] rfl)
          · have tc_8 : r_7.toInt = p0.toInt := tb_ne_f c_8
            have := ti_rng r_7
            have := ti_rng p0
            refine lv_iload hx hb dX2_nth_34 (lv_at hl 3 rfl) ?_
            have hP9 := hP.sub (ws' := [(ra, .inr (2, [.ref ra1, .ref ra2, .ref ra3, .int ra_u])), (ra1, .inl (cI, ra_n * 20, .inl ra_c)), (ra2, .inl (cI, ra_n, .inl ra_l)), (ra3, .inl (cI, 21, .inl ra_o))]) [0, 1, 2, 3] rfl
            have hD9 := hD.sub (ws' := [(ra, .inr (2, [.ref ra1, .ref ra2, .ref ra3, .int ra_u])), (ra1, .inl (cI, ra_n * 20, .inl ra_c)), (ra2, .inl (cI, ra_n, .inl ra_l)), (ra3, .inl (cI, 21, .inl ra_o))]) [0, 1, 2, 3] (by decide) rfl
            exact W.iret (v := x4) hx hb hr (fun t ht hW => ⟨⟨x4, (), rfl, trivial, by rw [ht]; exact hP9, va_K.moved hW.alike hK, hD9⟩, hS.F ht⟩) hS.2.2 dX2_nth_36
  refine lv_iconst (v := 0) hx hb dX2_nth_0 (by decide) ?_
  refine lv_istore (lv' := [(4, .int ((0 : Int32))), (0, .ref ra), (1, .int p0), (2, .long p1)]) hx hb dX2_nth_1 hl (by decide) rfl (fun ls hl => ?_)
  exact L_3 (((2147483647 - ((0 : Int32)).toInt).toNat) + 1) ((0 : Int32)) (Nat.lt_succ_self _) _ _ (hP.sub [0, 1, 2, 3] rfl) (hD.sub [0, 1, 2, 3] (by decide) rfl) hS ls (lv_sub hl [1, 2, 3, 0] rfl)
def wo_X2_spanAt : List Cond := .code yX2_spanAt cX2_spanAt 6 (some .int) :: (([.initialized RX9, .static yX9_partsIn] : List Cond) ++ ((wsV RX2 46 RX2 yX2_cellAt wo_X2_cellAt) ++ ((wo_X9_partsIn) ++ ((wsV RX2 34 RX2 yX2_lengthOf wo_X2_lengthOf)))))
set_option maxRecDepth 20000 in
theorem go_wo_X2_spanAt_0 : GoodIn wo_X2_spanAt (wsV RX2 46 RX2 yX2_cellAt wo_X2_cellAt) := goodIn_sub (fun _ h => (List.mem_cons_of_mem _ (List.mem_append_right _ (List.mem_append_left _ h)))) (by decide +kernel)
set_option maxRecDepth 20000 in
theorem go_wo_X2_spanAt_1 : GoodIn wo_X2_spanAt (wo_X9_partsIn) := goodIn_sub (fun _ h => (List.mem_cons_of_mem _ (List.mem_append_right _ (List.mem_append_right _ (List.mem_append_left _ h))))) (by decide +kernel)
set_option maxRecDepth 20000 in
theorem go_wo_X2_spanAt_2 : GoodIn wo_X2_spanAt (wsV RX2 34 RX2 yX2_lengthOf wo_X2_lengthOf) := goodIn_sub (fun _ h => (List.mem_cons_of_mem _ (List.mem_append_right _ (List.mem_append_right _ (List.mem_append_right _ h))))) (by decide +kernel)
abbrev ww_X2_spanAt (dC : Nat → ClassId) (dI : Nat → Nat → Nat) (cI cJ cB : ClassId) (ra ra1 ra2 ra3 : Nat) (sz : Nat) (ra_n : Nat) (ra_u : Int32) (ra_c : Nat → Int32) (ra_l : Nat → Int32) (ra_o : Nat → Int32) (p0 : Int32) (p1 : Int32) : va_W := [(ra, .inr (2, [.ref ra1, .ref ra2, .ref ra3, .int ra_u])), (ra1, .inl (cI, ra_n * 20, .inl ra_c)), (ra2, .inl (cI, ra_n, .inl ra_l)), (ra3, .inl (cI, 21, .inl ra_o))]
abbrev at_X2_spanAt (dC : Nat → ClassId) (dI : Nat → Nat → Nat) (cI cJ cB : ClassId) (ra ra1 ra2 ra3 : Nat) (sz : Nat) (ra_n : Nat) (ra_u : Int32) (ra_c : Nat → Int32) (ra_l : Nat → Int32) (ra_o : Nat → Int32) (p0 : Int32) (p1 : Int32) (u : Unit) (t : State) : Prop := match u with
  | () => va_P (dC, dI) vwCl [(ra, .inr (2, [.ref ra1, .ref ra2, .ref ra3, .int ra_u])), (ra1, .inl (cI, ra_n * 20, .inl ra_c)), (ra2, .inl (cI, ra_n, .inl ra_l)), (ra3, .inl (cI, 21, .inl ra_o))] t.heap ∧ va_K (dC, dI) vwCl (tyL cI cJ cB) t ∧ va_D (va_A (ww_X2_spanAt dC dI cI cJ cB ra ra1 ra2 ra3 sz ra_n ra_u ra_c ra_l ra_o p0 p1) sz) [(ra, .inr (2, [.ref ra1, .ref ra2, .ref ra3, .int ra_u])), (ra1, .inl (cI, ra_n * 20, .inl ra_c)), (ra2, .inl (cI, ra_n, .inl ra_l)), (ra3, .inl (cI, 21, .inl ra_o))]
abbrev qc_X2_spanAt (dC : Nat → ClassId) (dI : Nat → Nat → Nat) (cI cJ cB : ClassId) (ra ra1 ra2 ra3 : Nat) (sz : Nat) (ra_n : Nat) (ra_u : Int32) (ra_c : Nat → Int32) (ra_l : Nat → Int32) (ra_o : Nat → Int32) (p0 : Int32) (p1 : Int32) : Array Value → State → Outcome → State → Prop := va_Qi (fun (r : Int32) (u : Unit) => match u with | () => True) (at_X2_spanAt dC dI cI cJ cB ra ra1 ra2 ra3 sz ra_n ra_u ra_c ra_l ra_o p0 p1) (va_A (ww_X2_spanAt dC dI cI cJ cB ra ra1 ra2 ra3 sz ra_n ra_u ra_c ra_l ra_o p0 p1) sz)
abbrev pc_X2_spanAt (dC : Nat → ClassId) (dI : Nat → Nat → Nat) (cI cJ cB : ClassId) (ra ra1 ra2 ra3 : Nat) (sz : Nat) (ra_n : Nat) (ra_u : Int32) (ra_c : Nat → Int32) (ra_l : Nat → Int32) (ra_o : Nat → Int32) (p0 : Int32) (p1 : Int32) : Array Value → State → Prop := va_Pc [.ref ra, .int p0, .int p1] (fun U => U.heap.size = sz ∧ NW U ∧ va_P (dC, dI) vwCl (ww_X2_spanAt dC dI cI cJ cB ra ra1 ra2 ra3 sz ra_n ra_u ra_c ra_l ra_o p0 p1) U.heap ∧ va_K (dC, dI) vwCl (tyL cI cJ cB) U ∧ va_D (fun _ => True) (ww_X2_spanAt dC dI cI cJ cB ra ra1 ra2 ra3 sz ra_n ra_u ra_c ra_l ra_o p0 p1))
abbrev rm_X2_spanAt : Room := { frames := 1, cells := 0, slots := 0, locals := 23 }
abbrev WW_X2_spanAt (p : Program) (l : Launch) (e : Env) (s : State) (m : MethodId) (below : List Frame) (meth : Method) (c : Code) (dC : Nat → ClassId) (dI : Nat → Nat → Nat) (cI cJ cB : ClassId) (ra ra1 ra2 ra3 : Nat) (sz : Nat) (ra_n : Nat) (ra_u : Int32) (ra_c : Nat → Int32) (ra_l : Nat → Int32) (ra_o : Nat → Int32) (p0 : Int32) (p1 : Int32) (H : Heap) (locs : List Loc) (g : JFrame) : Prop := W p l e rm_X2_spanAt s m ([.ref ra, .int p0, .int p1] : List Value).toArray below meth c H locs 0 0 (MQ below (qc_X2_spanAt dC dI cI cJ cB ra ra1 ra2 ra3 sz ra_n ra_u ra_c ra_l ra_o p0 p1) ([.ref ra, .int p0, .int p1] : List Value).toArray s 0 0 (va_A (ww_X2_spanAt dC dI cI cJ cB ra ra1 ra2 ra3 sz ra_n ra_u ra_c ra_l ra_o p0 p1) sz)) g
set_option maxHeartbeats 4000000 in
set_option maxRecDepth 100000 in
theorem c_X2_spanAt (l : Launch) (dC : Nat → ClassId) (dI : Nat → Nat → Nat) (cI cJ cB : ClassId) (ra ra1 ra2 ra3 : Nat) (sz : Nat) (ra_n : Nat) (ra_u : Int32) (ra_c : Nat → Int32) (ra_l : Nat → Int32) (ra_o : Nat → Int32) (p0 : Int32) (p1 : Int32) (hn_ra : 1 ≤ ra_n ∧ ra_n ≤ 201) : Met l yX2_spanAt wo_X2_spanAt rm_X2_spanAt (pc_X2_spanAt dC dI cI cJ cB ra ra1 ra2 ra3 sz ra_n ra_u ra_c ra_l ra_o p0 p1) (qc_X2_spanAt dC dI cI cJ cB ra ra1 ra2 ra3 sz ra_n ra_u ra_c ra_l ra_o p0 p1) 0 0 (va_A (ww_X2_spanAt dC dI cI cJ cB ra ra1 ra2 ra3 sz ra_n ra_u ra_c ra_l ra_o p0 p1) sz) := by
  refine Met.ofW (cc := cX2_spanAt) (maxL := 6) (ret := (some .int)) (by decide) rfl ?_
  intro p e s m args below meth c s₁ B hml hv
  obtain ⟨rfl, hsz, hnw, hP, hK, hD0⟩ := hv
  have hx := B.exec
  have hb := B.bytes
  have hr := B.returns
  have hts := atoms_spec (ws := wo_X2_spanAt) B.pre
  have hown : s.vm.findClass RX2 = some m.cls := findClass_of_methodNamed B.named
  have hlocks := B.notSynchronized
  clear B
  subst hsz
  have hD := hD0.self (sz := s.heap.size)
  clear hD0
  have hA : ∀ q : Nat, s.heap.size ≤ q → (va_A (ww_X2_spanAt dC dI cI cJ cB ra ra1 ra2 ra3 s.heap.size ra_n ra_u ra_c ra_l ra_o p0 p1) s.heap.size) q := fun q h => Or.inr h
  have hS : va_S (va_A (ww_X2_spanAt dC dI cI cJ cB ra ra1 ra2 ra3 s.heap.size ra_n ra_u ra_c ra_l ra_o p0 p1) s.heap.size) s.heap s.heap [] := va_S.rf
  have hl := lv_entry ([.ref ra, .int p0, .int p1]) (n := 6) (Nat.le_of_ble_eq_true rfl)
  rw [lg_entry_eq]
  generalize (lg_sl ([.ref ra, .int p0, .int p1]) ++ List.replicate (6 - (lg_sl ([.ref ra, .int p0, .int p1])).length) Slot.unset).toArray = ls at hl ⊢
  have hl : lv_has ls 6 [(0, .ref ra), (1, .int p0), (2, .int p1)] := hl
  have hP : va_P (dC, dI) vwCl [(ra, .inr (2, [.ref ra1, .ref ra2, .ref ra3, .int ra_u])), (ra1, .inl (cI, ra_n * 20, .inl ra_c)), (ra2, .inl (cI, ra_n, .inl ra_l)), (ra3, .inl (cI, 21, .inl ra_o))] s.heap := hP
  have hD : va_D (va_A (ww_X2_spanAt dC dI cI cJ cB ra ra1 ra2 ra3 s.heap.size ra_n ra_u ra_c ra_l ra_o p0 p1) s.heap.size) [(ra, .inr (2, [.ref ra1, .ref ra2, .ref ra3, .int ra_u])), (ra1, .inl (cI, ra_n * 20, .inl ra_c)), (ra2, .inl (cI, ra_n, .inl ra_l)), (ra3, .inl (cI, 21, .inl ra_o))] := hD
  obtain ⟨H, hH⟩ : ∃ H, H = s.heap := ⟨_, rfl⟩
  obtain ⟨locs, hlc⟩ : ∃ L : List Loc, L = [] := ⟨_, rfl⟩
  have hS : va_S (va_A (ww_X2_spanAt dC dI cI cJ cB ra ra1 ra2 ra3 s.heap.size ra_n ra_u ra_c ra_l ra_o p0 p1) s.heap.size) s.heap H locs := by rw [hH, hlc]; exact hS
  have hP : va_P (dC, dI) vwCl [(ra, .inr (2, [.ref ra1, .ref ra2, .ref ra3, .int ra_u])), (ra1, .inl (cI, ra_n * 20, .inl ra_c)), (ra2, .inl (cI, ra_n, .inl ra_l)), (ra3, .inl (cI, 21, .inl ra_o))] H := by rw [hH]; exact hP
  suffices hgo : WW_X2_spanAt p l e s m below meth c dC dI cI cJ cB ra ra1 ra2 ra3 s.heap.size ra_n ra_u ra_c ra_l ra_o p0 p1 H locs (F0 m 0 ls []) by rw [hH, hlc] at hgo; exact hgo
  clear hH hlc
  have L_12 : ∀ (N_12 : Nat), ∀ (x3 : Int32) (x4 : Int32) (x5 : Int32), ((2147483647 - x4.toInt).toNat) < N_12 → ∀ (H : Heap) (locs : List Loc), va_P (dC, dI) vwCl [(ra, .inr (2, [.ref ra1, .ref ra2, .ref ra3, .int ra_u])), (ra1, .inl (cI, ra_n * 20, .inl ra_c)), (ra2, .inl (cI, ra_n, .inl ra_l)), (ra3, .inl (cI, 21, .inl ra_o))] H → va_D (va_A (ww_X2_spanAt dC dI cI cJ cB ra ra1 ra2 ra3 s.heap.size ra_n ra_u ra_c ra_l ra_o p0 p1) s.heap.size) [(ra, .inr (2, [.ref ra1, .ref ra2, .ref ra3, .int ra_u])), (ra1, .inl (cI, ra_n * 20, .inl ra_c)), (ra2, .inl (cI, ra_n, .inl ra_l)), (ra3, .inl (cI, 21, .inl ra_o))] → va_S (va_A (ww_X2_spanAt dC dI cI cJ cB ra ra1 ra2 ra3 s.heap.size ra_n ra_u ra_c ra_l ra_o p0 p1) s.heap.size) s.heap H locs → ∀ ls : Array Slot, lv_has ls 6 [(0, .ref ra), (1, .int p0), (2, .int p1), (3, .int x3), (4, .int x4), (5, .int x5)] → WW_X2_spanAt p l e s m below meth c dC dI cI cJ cB ra ra1 ra2 ra3 s.heap.size ra_n ra_u ra_c ra_l ra_o p0 p1 H locs (F0 m 12 ls []) := by
    intro N_12
    induction N_12 with
    | zero => intro x3 x4 x5  hm; exact absurd hm (Nat.not_lt_zero _)
    | succ N_12 ih_12 =>
      intro x3 x4 x5  hm_12 H locs hP hD hS ls hl
      refine lv_iload_n hx hb dX2_spanAt_12 rfl (lv_at hl 3 rfl) ?_
      refine lv_if_le (tgt := 44) hx hb dX2_spanAt_13 (by decide) (fun c_1 => ?_) (fun c_1 => ?_)
      · have tc_1 : x3.toInt ≤ 0 := tb_le_t c_1
        refine lv_iload hx hb dX2_spanAt_44 (lv_at hl 4 rfl) ?_
        refine lv_iload_n hx hb dX2_spanAt_46 rfl (lv_at hl 2 rfl) ?_
        refine lv_isub hx hb dX2_spanAt_47 ?_
        refine lv_topi (fun y_2 ey_2 => ?_)
        have hP9 := hP.sub (ws' := [(ra, .inr (2, [.ref ra1, .ref ra2, .ref ra3, .int ra_u])), (ra1, .inl (cI, ra_n * 20, .inl ra_c)), (ra2, .inl (cI, ra_n, .inl ra_l)), (ra3, .inl (cI, 21, .inl ra_o))]) [0, 1, 2, 3] rfl
        have hD9 := hD.sub (ws' := [(ra, .inr (2, [.ref ra1, .ref ra2, .ref ra3, .int ra_u])), (ra1, .inl (cI, ra_n * 20, .inl ra_c)), (ra2, .inl (cI, ra_n, .inl ra_l)), (ra3, .inl (cI, 21, .inl ra_o))]) [0, 1, 2, 3] (by decide) rfl
        exact W.iret (v := y_2) hx hb hr (fun t ht hW => ⟨⟨y_2, (), rfl, trivial, by rw [ht]; exact hP9, va_K.moved hW.alike hK, hD9⟩, hS.F ht⟩) hS.2.2 dX2_spanAt_48
      · have tc_1 : 0 < x3.toInt := tb_le_f c_1
        refine lv_iload hx hb dX2_spanAt_16 (lv_at hl 4 rfl) ?_
        refine lv_iload hx hb dX2_spanAt_18 (lv_at hl 5 rfl) ?_
        refine lv_icmp_ge (tgt := 44) hx hb dX2_spanAt_20 (by decide) (fun c_3 => ?_) (fun c_3 => ?_)
        · have tc_3 : x5.toInt ≤ x4.toInt := tb_ge_t c_3
          have := ti_rng x4
          have := ti_rng x5
          refine lv_iload hx hb dX2_spanAt_44 (lv_at hl 4 rfl) ?_
          refine lv_iload_n hx hb dX2_spanAt_46 rfl (lv_at hl 2 rfl) ?_
          refine lv_isub hx hb dX2_spanAt_47 ?_
          refine lv_topi (fun y_4 ey_4 => ?_)
          have hP9 := hP.sub (ws' := [(ra, .inr (2, [.ref ra1, .ref ra2, .ref ra3, .int ra_u])), (ra1, .inl (cI, ra_n * 20, .inl ra_c)), (ra2, .inl (cI, ra_n, .inl ra_l)), (ra3, .inl (cI, 21, .inl ra_o))]) [0, 1, 2, 3] rfl
          have hD9 := hD.sub (ws' := [(ra, .inr (2, [.ref ra1, .ref ra2, .ref ra3, .int ra_u])), (ra1, .inl (cI, ra_n * 20, .inl ra_c)), (ra2, .inl (cI, ra_n, .inl ra_l)), (ra3, .inl (cI, 21, .inl ra_o))]) [0, 1, 2, 3] (by decide) rfl
          exact W.iret (v := y_4) hx hb hr (fun t ht hW => ⟨⟨y_4, (), rfl, trivial, by rw [ht]; exact hP9, va_K.moved hW.alike hK, hD9⟩, hS.F ht⟩) hS.2.2 dX2_spanAt_48
        · have tc_3 : x4.toInt < x5.toInt := tb_ge_f c_3
          have := ti_rng x4
          have := ti_rng x5
          refine lv_iload_n hx hb dX2_spanAt_23 rfl (lv_at hl 3 rfl) ?_
          refine lv_aload_n hx hb dX2_spanAt_24 rfl (lv_at hl 0 rfl) ?_
          refine lv_iload_n hx hb dX2_spanAt_25 rfl (lv_at hl 1 rfl) ?_
          refine lv_iload hx hb dX2_spanAt_26 (lv_at hl 4 rfl) ?_
          have hPc := hP.sub (ws' := [(ra, .inr (2, [.ref ra1, .ref ra2, .ref ra3, .int ra_u])), (ra1, .inl (cI, ra_n * 20, .inl ra_c)), (ra2, .inl (cI, ra_n, .inl ra_l)), (ra3, .inl (cI, 21, .inl ra_o))]) [0, 1, 2, 3] rfl
          have hDc := hD.sub (ws' := [(ra, .inr (2, [.ref ra1, .ref ra2, .ref ra3, .int ra_u])), (ra1, .inl (cI, ra_n * 20, .inl ra_c)), (ra2, .inl (cI, ra_n, .inl ra_l)), (ra3, .inl (cI, 21, .inl ra_o))]) [0, 1, 2, 3] (by decide) rfl
          have hFc := va_free (wc := [(ra, .inr (2, [.ref ra1, .ref ra2, .ref ra3, .int ra_u])), (ra1, .inl (cI, ra_n * 20, .inl ra_c)), (ra2, .inl (cI, ra_n, .inl ra_l)), (ra3, .inl (cI, 21, .inl ra_o))]) hD hS hA [0, 1, 2, 3] rfl
          refine va_calli (va_runV (As := [.int p0, .int x4]) (rest := [.int x3]) ⟨hx, hb, hml, hown, hts⟩ (c_X2_cellAt l dC dI cI cJ cB ra ra1 ra2 ra3 H.size ra_n ra_u ra_c ra_l ra_o p0 x4 (by first | assumption | omega | decide | (simp only [lt0, lt1, ltm1, lt400] at *; omega))) (cwV 2 hts go_wo_X2_spanAt_0 rfl rfl rfl (by decide +kernel) ⟨Nat.le_of_ble_eq_true rfl, Nat.le_of_ble_eq_true rfl⟩) ⟨fun a U g mk q => by obtain ⟨q0, q1, qN, qP, qK, qD⟩ := q; exact ⟨q0, q1, NW.calling qN, qP, va_K.moved (u := U) (U := U.calling g mk a) (Vm.Alike.refl U.vm) qK, qD⟩, va_recv hK hPc (ci := 2) (q0 := 0) rfl rfl, fun U hU hW => ⟨rfl, by rw [hU], NW.warm hW hnw, by rw [hU]; exact hPc, va_K.moved hW.alike hK, hDc.weaken (fun _ _ _ _ => trivial)⟩⟩ rfl rfl hl.1 rfl (lv_room (Nat.le_of_ble_eq_true rfl)) dX2_spanAt_28 ⟨Nat.zero_le _, Nat.zero_le _⟩) hS (fun q _ h => hFc q h) hFc (fun r_5 u t H1 locs ht hvm hw hB hz1 hk1 hS => ?_)
          cases u
          obtain ⟨hP1, hK1, hD1⟩ := hB
          rw [ht] at hP1
          clear hw
          obtain ⟨hP, hD⟩ := va_join (wr := []) (w1 := [(ra, .inr (2, [.ref ra1, .ref ra2, .ref ra3, .int ra_u])), (ra1, .inl (cI, ra_n * 20, .inl ra_c)), (ra2, .inl (cI, ra_n, .inl ra_l)), (ra3, .inl (cI, 21, .inl ra_o))]) hP hD [0, 1, 2, 3] [] rfl rfl (by decide) (by decide) hk1 hFc hP1 hD1
          generalize H1 = H at hP hS ⊢
          have hP : va_P (dC, dI) vwCl [(ra, .inr (2, [.ref ra1, .ref ra2, .ref ra3, .int ra_u])), (ra1, .inl (cI, ra_n * 20, .inl ra_c)), (ra2, .inl (cI, ra_n, .inl ra_l)), (ra3, .inl (cI, 21, .inl ra_o))] H := hP
          have hD : va_D (va_A (ww_X2_spanAt dC dI cI cJ cB ra ra1 ra2 ra3 s.heap.size ra_n ra_u ra_c ra_l ra_o p0 p1) s.heap.size) [(ra, .inr (2, [.ref ra1, .ref ra2, .ref ra3, .int ra_u])), (ra1, .inl (cI, ra_n * 20, .inl ra_c)), (ra2, .inl (cI, ra_n, .inl ra_l)), (ra3, .inl (cI, 21, .inl ra_o))] := hD
          clear hPc hDc hFc hP1 hK1 hD1 hk1 hz1 ht hvm
          have hPc := hP.sub (ws' := []) [] rfl
          have hDc := hD.sub (ws' := []) [] (by decide) rfl
          have hFc := va_free (wc := []) hD hS hA [] rfl
          refine va_calli (va_runSN (host := "SumRewriter") (As := [.int r_5]) (rest := [.int x3]) ⟨hx, hb, hml, hown, hts⟩ (c_X9_partsIn l dC dI cI cJ cB  H.size r_5) ⟨va_cnB 1 hts go_wo_X2_spanAt_1 rfl rfl rfl (hnw _ (by decide +kernel) : va_Nw (.methodLinkNest RX2 65 yX9_partsIn "SumRewriter") s) (hts (.initialized RX9) (by decide +kernel)) (by decide +kernel) ⟨Nat.le_of_ble_eq_true rfl, Nat.le_of_ble_eq_true rfl⟩, hts (.static yX9_partsIn) (by decide +kernel), trivial⟩ ⟨fun a U g mk q => by obtain ⟨q0, q1, qN, qP, qK, qD⟩ := q; exact ⟨q0, q1, NW.calling qN, qP, va_K.moved (u := U) (U := U.calling g mk a) (Vm.Alike.refl U.vm) qK, qD⟩, fun U hU hW => ⟨rfl, by rw [hU], NW.warm hW hnw, by rw [hU]; exact hPc, va_K.moved hW.alike hK, hDc.weaken (fun _ _ _ _ => trivial)⟩⟩ rfl rfl hl.1 rfl (lv_room (Nat.le_of_ble_eq_true rfl)) dX2_spanAt_31 ⟨Nat.zero_le _, Nat.zero_le _⟩) hS (fun q _ h => hFc q h) hFc (fun r_6 u t H1 locs ht hvm hw hB hz1 hk1 hS => ?_)
          cases u
          obtain ⟨hP1, hK1, hD1⟩ := hB
          rw [ht] at hP1
          have hw : (0 ≤ r_6.toInt ∧ r_6.toInt ≤ 7) := hw
          have h_7 := hw
          obtain ⟨hP, hD⟩ := va_join (wr := [(ra, .inr (2, [.ref ra1, .ref ra2, .ref ra3, .int ra_u])), (ra1, .inl (cI, ra_n * 20, .inl ra_c)), (ra2, .inl (cI, ra_n, .inl ra_l)), (ra3, .inl (cI, 21, .inl ra_o))]) (w1 := []) hP hD [] [0, 1, 2, 3] rfl rfl (by decide) (by decide) hk1 hFc hP1 hD1
          generalize H1 = H at hP hS ⊢
          have hP : va_P (dC, dI) vwCl [(ra, .inr (2, [.ref ra1, .ref ra2, .ref ra3, .int ra_u])), (ra1, .inl (cI, ra_n * 20, .inl ra_c)), (ra2, .inl (cI, ra_n, .inl ra_l)), (ra3, .inl (cI, 21, .inl ra_o))] H := hP
          have hD : va_D (va_A (ww_X2_spanAt dC dI cI cJ cB ra ra1 ra2 ra3 s.heap.size ra_n ra_u ra_c ra_l ra_o p0 p1) s.heap.size) [(ra, .inr (2, [.ref ra1, .ref ra2, .ref ra3, .int ra_u])), (ra1, .inl (cI, ra_n * 20, .inl ra_c)), (ra2, .inl (cI, ra_n, .inl ra_l)), (ra3, .inl (cI, 21, .inl ra_o))] := hD
          clear hPc hDc hFc hP1 hK1 hD1 hk1 hz1 ht hvm
          refine lv_iconst (v := 1) hx hb dX2_spanAt_34 (by decide) ?_
          refine lv_isub hx hb dX2_spanAt_35 ?_
          refine lv_topi (fun y_8 ey_8 => ?_)
          refine lv_iadd hx hb dX2_spanAt_36 ?_
          refine lv_topi (fun y_9 ey_9 => ?_)
          refine lv_istore_n (lv' := [(3, .int y_9), (0, .ref ra), (1, .int p0), (2, .int p1), (4, .int x4), (5, .int x5)]) hx hb dX2_spanAt_37 rfl hl (by decide) rfl (fun ls hl => ?_)
          obtain ⟨x4_10, ex4_10⟩ : ∃ y : Int32, y = x4 + (1) := ⟨_, rfl⟩
          refine lv_iinc (v := x4_10) (lv' := [(4, .int x4_10), (3, .int y_9), (0, .ref ra), (1, .int p0), (2, .int p1), (5, .int x5)]) hx hb dX2_spanAt_38 hl (k := 4) rfl (by rw [ex4_10]; rfl) (by decide) rfl (fun ls hl => ?_)
          have := ti_rng x4
          have tex4_10 : x4_10.toInt = x4.toInt + (1) := ti_inc ex4_10 (by decide) (by omega) (by omega)
          refine lv_goto (tgt := 12) hx hb dX2_spanAt_41 (by decide) ?_
          exact ih_12 y_9 x4_10 x5 (by omega) _ _ (hP.sub [0, 1, 2, 3] rfl) (hD.sub [0, 1, 2, 3] (by decide) rfl) hS ls (lv_sub hl [2, 3, 4, 1, 0, 5] rfl)
  refine lv_iconst (v := 1) hx hb dX2_spanAt_0 (by decide) ?_
  refine lv_istore_n (lv' := [(3, .int ((1 : Int32))), (0, .ref ra), (1, .int p0), (2, .int p1)]) hx hb dX2_spanAt_1 rfl hl (by decide) rfl (fun ls hl => ?_)
  refine lv_iload_n hx hb dX2_spanAt_2 rfl (lv_at hl 3 rfl) ?_
  refine lv_istore (lv' := [(4, .int p1), (3, .int ((1 : Int32))), (0, .ref ra), (1, .int p0), (2, .int p1)]) hx hb dX2_spanAt_3 hl (by decide) rfl (fun ls hl => ?_)
  refine lv_aload_n hx hb dX2_spanAt_5 rfl (lv_at hl 2 rfl) ?_
  refine lv_iload_n hx hb dX2_spanAt_6 rfl (lv_at hl 3 rfl) ?_
  have hPc := hP.sub (ws' := [(ra, .inr (2, [.ref ra1, .ref ra2, .ref ra3, .int ra_u])), (ra1, .inl (cI, ra_n * 20, .inl ra_c)), (ra2, .inl (cI, ra_n, .inl ra_l)), (ra3, .inl (cI, 21, .inl ra_o))]) [0, 1, 2, 3] rfl
  have hDc := hD.sub (ws' := [(ra, .inr (2, [.ref ra1, .ref ra2, .ref ra3, .int ra_u])), (ra1, .inl (cI, ra_n * 20, .inl ra_c)), (ra2, .inl (cI, ra_n, .inl ra_l)), (ra3, .inl (cI, 21, .inl ra_o))]) [0, 1, 2, 3] (by decide) rfl
  have hFc := va_free (wc := [(ra, .inr (2, [.ref ra1, .ref ra2, .ref ra3, .int ra_u])), (ra1, .inl (cI, ra_n * 20, .inl ra_c)), (ra2, .inl (cI, ra_n, .inl ra_l)), (ra3, .inl (cI, 21, .inl ra_o))]) hD hS hA [0, 1, 2, 3] rfl
  refine va_calli (va_runV (As := [.int p0]) (rest := []) ⟨hx, hb, hml, hown, hts⟩ (c_X2_lengthOf l dC dI cI cJ cB ra ra1 ra2 ra3 H.size ra_n ra_u ra_c ra_l ra_o p0 (by first | assumption | omega | decide | (simp only [lt0, lt1, ltm1, lt400] at *; omega))) (cwV 1 hts go_wo_X2_spanAt_2 rfl rfl rfl (by decide +kernel) ⟨Nat.le_of_ble_eq_true rfl, Nat.le_of_ble_eq_true rfl⟩) ⟨fun a U g mk q => by obtain ⟨q0, q1, qN, qP, qK, qD⟩ := q; exact ⟨q0, q1, NW.calling qN, qP, va_K.moved (u := U) (U := U.calling g mk a) (Vm.Alike.refl U.vm) qK, qD⟩, va_recv hK hPc (ci := 2) (q0 := 0) rfl rfl, fun U hU hW => ⟨rfl, by rw [hU], NW.warm hW hnw, by rw [hU]; exact hPc, va_K.moved hW.alike hK, hDc.weaken (fun _ _ _ _ => trivial)⟩⟩ rfl rfl hl.1 rfl (lv_room (Nat.le_of_ble_eq_true rfl)) dX2_spanAt_7 ⟨Nat.zero_le _, Nat.zero_le _⟩) hS (fun q _ h => hFc q h) hFc (fun r_11 u t H1 locs ht hvm hw hB hz1 hk1 hS => ?_)
  cases u
  obtain ⟨hP1, hK1, hD1⟩ := hB
  rw [ht] at hP1
  clear hw
  obtain ⟨hP, hD⟩ := va_join (wr := []) (w1 := [(ra, .inr (2, [.ref ra1, .ref ra2, .ref ra3, .int ra_u])), (ra1, .inl (cI, ra_n * 20, .inl ra_c)), (ra2, .inl (cI, ra_n, .inl ra_l)), (ra3, .inl (cI, 21, .inl ra_o))]) hP hD [0, 1, 2, 3] [] rfl rfl (by decide) (by decide) hk1 hFc hP1 hD1
  generalize H1 = H at hP hS ⊢
  have hP : va_P (dC, dI) vwCl [(ra, .inr (2, [.ref ra1, .ref ra2, .ref ra3, .int ra_u])), (ra1, .inl (cI, ra_n * 20, .inl ra_c)), (ra2, .inl (cI, ra_n, .inl ra_l)), (ra3, .inl (cI, 21, .inl ra_o))] H := hP
  have hD : va_D (va_A (ww_X2_spanAt dC dI cI cJ cB ra ra1 ra2 ra3 s.heap.size ra_n ra_u ra_c ra_l ra_o p0 p1) s.heap.size) [(ra, .inr (2, [.ref ra1, .ref ra2, .ref ra3, .int ra_u])), (ra1, .inl (cI, ra_n * 20, .inl ra_c)), (ra2, .inl (cI, ra_n, .inl ra_l)), (ra3, .inl (cI, 21, .inl ra_o))] := hD
  clear hPc hDc hFc hP1 hK1 hD1 hk1 hz1 ht hvm
  refine lv_istore (lv' := [(5, .int r_11), (4, .int p1), (3, .int ((1 : Int32))), (0, .ref ra), (1, .int p0), (2, .int p1)]) hx hb dX2_spanAt_10 hl (by decide) rfl (fun ls hl => ?_)
  exact L_12 (((2147483647 - p1.toInt).toNat) + 1) ((1 : Int32)) p1 r_11 (Nat.lt_succ_self _) _ _ (hP.sub [0, 1, 2, 3] rfl) (hD.sub [0, 1, 2, 3] (by decide) rfl) hS ls (lv_sub hl [3, 4, 5, 2, 1, 0] rfl)
def wo_X2_leave : List Cond := .code yX2_leave cX2_leave 3 (some .int) :: (([.fieldLink RX2 27 "SumRewriter$Rows" "open" "[I"] : List Cond) ++ ((wsX20)))
abbrev ww_X2_leave (dC : Nat → ClassId) (dI : Nat → Nat → Nat) (cI cJ cB : ClassId) (ra ra1 ra2 ra3 : Nat) (sz : Nat) (ra_n : Nat) (ra_u : Int32) (ra_c : Nat → Int32) (ra_l : Nat → Int32) (ra_o0 : Nat → Int32) (p0 : Int32) : va_W := [(ra, .inr (2, [.ref ra1, .ref ra2, .ref ra3, .int ra_u])), (ra1, .inl (cI, ra_n * 20, .inl ra_c)), (ra2, .inl (cI, ra_n, .inl ra_l)), (ra3, .inl (cI, 21, .inl ra_o0))]
abbrev at_X2_leave (dC : Nat → ClassId) (dI : Nat → Nat → Nat) (cI cJ cB : ClassId) (ra ra1 ra2 ra3 : Nat) (sz : Nat) (ra_n : Nat) (ra_u : Int32) (ra_c : Nat → Int32) (ra_l : Nat → Int32) (ra_o0 : Nat → Int32) (p0 : Int32) (u : (Nat → Int32)) (t : State) : Prop := match u with
  | ra_o => va_P (dC, dI) vwCl [(ra, .inr (2, [.ref ra1, .ref ra2, .ref ra3, .int ra_u])), (ra1, .inl (cI, ra_n * 20, .inl ra_c)), (ra2, .inl (cI, ra_n, .inl ra_l)), (ra3, .inl (cI, 21, .inl ra_o))] t.heap ∧ va_K (dC, dI) vwCl (tyL cI cJ cB) t ∧ va_D (va_A (ww_X2_leave dC dI cI cJ cB ra ra1 ra2 ra3 sz ra_n ra_u ra_c ra_l ra_o0 p0) sz) [(ra, .inr (2, [.ref ra1, .ref ra2, .ref ra3, .int ra_u])), (ra1, .inl (cI, ra_n * 20, .inl ra_c)), (ra2, .inl (cI, ra_n, .inl ra_l)), (ra3, .inl (cI, 21, .inl ra_o))]
abbrev qc_X2_leave (dC : Nat → ClassId) (dI : Nat → Nat → Nat) (cI cJ cB : ClassId) (ra ra1 ra2 ra3 : Nat) (sz : Nat) (ra_n : Nat) (ra_u : Int32) (ra_c : Nat → Int32) (ra_l : Nat → Int32) (ra_o0 : Nat → Int32) (p0 : Int32) : Array Value → State → Outcome → State → Prop := va_Qi (fun (r : Int32) (u : (Nat → Int32)) => match u with | ra_o => (0 ≤ p0.toInt → 0 ≤ r.toInt ∧ r.toInt ≤ p0.toInt)) (at_X2_leave dC dI cI cJ cB ra ra1 ra2 ra3 sz ra_n ra_u ra_c ra_l ra_o0 p0) (va_A (ww_X2_leave dC dI cI cJ cB ra ra1 ra2 ra3 sz ra_n ra_u ra_c ra_l ra_o0 p0) sz)
abbrev pc_X2_leave (dC : Nat → ClassId) (dI : Nat → Nat → Nat) (cI cJ cB : ClassId) (ra ra1 ra2 ra3 : Nat) (sz : Nat) (ra_n : Nat) (ra_u : Int32) (ra_c : Nat → Int32) (ra_l : Nat → Int32) (ra_o0 : Nat → Int32) (p0 : Int32) : Array Value → State → Prop := va_Pc [.ref ra, .int p0] (fun U => U.heap.size = sz ∧ NW U ∧ va_P (dC, dI) vwCl (ww_X2_leave dC dI cI cJ cB ra ra1 ra2 ra3 sz ra_n ra_u ra_c ra_l ra_o0 p0) U.heap ∧ va_K (dC, dI) vwCl (tyL cI cJ cB) U ∧ va_D (fun _ => True) (ww_X2_leave dC dI cI cJ cB ra ra1 ra2 ra3 sz ra_n ra_u ra_c ra_l ra_o0 p0))
abbrev rm_X2_leave : Room := { frames := 0, cells := 0, slots := 0, locals := 0 }
abbrev WW_X2_leave (p : Program) (l : Launch) (e : Env) (s : State) (m : MethodId) (below : List Frame) (meth : Method) (c : Code) (dC : Nat → ClassId) (dI : Nat → Nat → Nat) (cI cJ cB : ClassId) (ra ra1 ra2 ra3 : Nat) (sz : Nat) (ra_n : Nat) (ra_u : Int32) (ra_c : Nat → Int32) (ra_l : Nat → Int32) (ra_o0 : Nat → Int32) (p0 : Int32) (H : Heap) (locs : List Loc) (g : JFrame) : Prop := W p l e rm_X2_leave s m ([.ref ra, .int p0] : List Value).toArray below meth c H locs 0 0 (MQ below (qc_X2_leave dC dI cI cJ cB ra ra1 ra2 ra3 sz ra_n ra_u ra_c ra_l ra_o0 p0) ([.ref ra, .int p0] : List Value).toArray s 0 0 (va_A (ww_X2_leave dC dI cI cJ cB ra ra1 ra2 ra3 sz ra_n ra_u ra_c ra_l ra_o0 p0) sz)) g
set_option maxHeartbeats 4000000 in
set_option maxRecDepth 100000 in
theorem c_X2_leave (l : Launch) (dC : Nat → ClassId) (dI : Nat → Nat → Nat) (cI cJ cB : ClassId) (ra ra1 ra2 ra3 : Nat) (sz : Nat) (ra_n : Nat) (ra_u : Int32) (ra_c : Nat → Int32) (ra_l : Nat → Int32) (ra_o0 : Nat → Int32) (p0 : Int32) : Met l yX2_leave wo_X2_leave rm_X2_leave (pc_X2_leave dC dI cI cJ cB ra ra1 ra2 ra3 sz ra_n ra_u ra_c ra_l ra_o0 p0) (qc_X2_leave dC dI cI cJ cB ra ra1 ra2 ra3 sz ra_n ra_u ra_c ra_l ra_o0 p0) 0 0 (va_A (ww_X2_leave dC dI cI cJ cB ra ra1 ra2 ra3 sz ra_n ra_u ra_c ra_l ra_o0 p0) sz) := by
  refine Met.ofW (cc := cX2_leave) (maxL := 3) (ret := (some .int)) (by decide) rfl ?_
  intro p e s m args below meth c s₁ B hml hv
  obtain ⟨rfl, hsz, hnw, hP, hK, hD0⟩ := hv
  have hx := B.exec
  have hb := B.bytes
  have hr := B.returns
  have hts := atoms_spec (ws := wo_X2_leave) B.pre
  have hown : s.vm.findClass RX2 = some m.cls := findClass_of_methodNamed B.named
  have hlocks := B.notSynchronized
  clear B
  subst hsz
  have hD := hD0.self (sz := s.heap.size)
  clear hD0
  have kk0_ := hts (.fieldLink RX2 27 "SumRewriter$Rows" "open" "[I") (by decide +kernel)
  have kk1_ : ∀ w ∈ wsX20, w ∈ wo_X2_leave := fun _ h => (List.mem_cons_of_mem _ (List.mem_append_right _ h))
  have hA : ∀ q : Nat, s.heap.size ≤ q → (va_A (ww_X2_leave dC dI cI cJ cB ra ra1 ra2 ra3 s.heap.size ra_n ra_u ra_c ra_l ra_o0 p0) s.heap.size) q := fun q h => Or.inr h
  have hS : va_S (va_A (ww_X2_leave dC dI cI cJ cB ra ra1 ra2 ra3 s.heap.size ra_n ra_u ra_c ra_l ra_o0 p0) s.heap.size) s.heap s.heap [] := va_S.rf
  have hl := lv_entry ([.ref ra, .int p0]) (n := 3) (Nat.le_of_ble_eq_true rfl)
  rw [lg_entry_eq]
  generalize (lg_sl ([.ref ra, .int p0]) ++ List.replicate (3 - (lg_sl ([.ref ra, .int p0])).length) Slot.unset).toArray = ls at hl ⊢
  have hl : lv_has ls 3 [(0, .ref ra), (1, .int p0)] := hl
  have hP : va_P (dC, dI) vwCl [(ra, .inr (2, [.ref ra1, .ref ra2, .ref ra3, .int ra_u])), (ra1, .inl (cI, ra_n * 20, .inl ra_c)), (ra2, .inl (cI, ra_n, .inl ra_l)), (ra3, .inl (cI, 21, .inl ra_o0))] s.heap := hP
  have hD : va_D (va_A (ww_X2_leave dC dI cI cJ cB ra ra1 ra2 ra3 s.heap.size ra_n ra_u ra_c ra_l ra_o0 p0) s.heap.size) [(ra, .inr (2, [.ref ra1, .ref ra2, .ref ra3, .int ra_u])), (ra1, .inl (cI, ra_n * 20, .inl ra_c)), (ra2, .inl (cI, ra_n, .inl ra_l)), (ra3, .inl (cI, 21, .inl ra_o0))] := hD
  obtain ⟨H, hH⟩ : ∃ H, H = s.heap := ⟨_, rfl⟩
  obtain ⟨locs, hlc⟩ : ∃ L : List Loc, L = [] := ⟨_, rfl⟩
  have hS : va_S (va_A (ww_X2_leave dC dI cI cJ cB ra ra1 ra2 ra3 s.heap.size ra_n ra_u ra_c ra_l ra_o0 p0) s.heap.size) s.heap H locs := by rw [hH, hlc]; exact hS
  have hP : va_P (dC, dI) vwCl [(ra, .inr (2, [.ref ra1, .ref ra2, .ref ra3, .int ra_u])), (ra1, .inl (cI, ra_n * 20, .inl ra_c)), (ra2, .inl (cI, ra_n, .inl ra_l)), (ra3, .inl (cI, 21, .inl ra_o0))] H := by rw [hH]; exact hP
  suffices hgo : WW_X2_leave p l e s m below meth c dC dI cI cJ cB ra ra1 ra2 ra3 s.heap.size ra_n ra_u ra_c ra_l ra_o0 p0 H locs (F0 m 0 ls []) by rw [hH, hlc] at hgo; exact hgo
  clear hH hlc
  have J_40 : ∀ (x2 : Int32) (ra_o : Nat → Int32), ((0 ≤ p0.toInt → 0 ≤ (x2).toInt) ∧ (x2).toInt ≤ p0.toInt) → ∀ (H : Heap) (locs : List Loc), va_P (dC, dI) vwCl [(ra, .inr (2, [.ref ra1, .ref ra2, .ref ra3, .int ra_u])), (ra1, .inl (cI, ra_n * 20, .inl ra_c)), (ra2, .inl (cI, ra_n, .inl ra_l)), (ra3, .inl (cI, 21, .inl ra_o))] H → va_D (va_A (ww_X2_leave dC dI cI cJ cB ra ra1 ra2 ra3 s.heap.size ra_n ra_u ra_c ra_l ra_o0 p0) s.heap.size) [(ra, .inr (2, [.ref ra1, .ref ra2, .ref ra3, .int ra_u])), (ra1, .inl (cI, ra_n * 20, .inl ra_c)), (ra2, .inl (cI, ra_n, .inl ra_l)), (ra3, .inl (cI, 21, .inl ra_o))] → va_S (va_A (ww_X2_leave dC dI cI cJ cB ra ra1 ra2 ra3 s.heap.size ra_n ra_u ra_c ra_l ra_o0 p0) s.heap.size) s.heap H locs → ∀ ls : Array Slot, lv_has ls 3 [(0, .ref ra), (1, .int p0), (2, .int x2)] → WW_X2_leave p l e s m below meth c dC dI cI cJ cB ra ra1 ra2 ra3 s.heap.size ra_n ra_u ra_c ra_l ra_o0 p0 H locs (F0 m 40 ls []) := by
    intro x2 ra_o i40_0 H locs hP hD hS ls hl
    refine lv_iload_n hx hb dX2_leave_40 rfl (lv_at hl 2 rfl) ?_
    have hP9 := hP.sub (ws' := [(ra, .inr (2, [.ref ra1, .ref ra2, .ref ra3, .int ra_u])), (ra1, .inl (cI, ra_n * 20, .inl ra_c)), (ra2, .inl (cI, ra_n, .inl ra_l)), (ra3, .inl (cI, 21, .inl ra_o))]) [0, 1, 2, 3] rfl
    have hD9 := hD.sub (ws' := [(ra, .inr (2, [.ref ra1, .ref ra2, .ref ra3, .int ra_u])), (ra1, .inl (cI, ra_n * 20, .inl ra_c)), (ra2, .inl (cI, ra_n, .inl ra_l)), (ra3, .inl (cI, 21, .inl ra_o))]) [0, 1, 2, 3] (by decide) rfl
    have r9_0 : 0 ≤ p0.toInt → 0 ≤ x2.toInt ∧ x2.toInt ≤ p0.toInt := by first | assumption | omega | decide | (simp only [lt0, lt1, ltm1, lt400] at *; omega)
    exact W.iret (v := x2) hx hb hr (fun t ht hW => ⟨⟨x2, ra_o, rfl, r9_0, by rw [ht]; exact hP9, va_K.moved hW.alike hK, hD9⟩, hS.F ht⟩) hS.2.2 dX2_leave_41
  have L_2 : ∀ (N_2 : Nat), ∀ (x2 : Int32) (ra_o : Nat → Int32), ((0 ≤ p0.toInt → 0 ≤ (x2).toInt) ∧ (x2).toInt ≤ p0.toInt) → ((x2.toInt + 2147483648).toNat) < N_2 → ∀ (H : Heap) (locs : List Loc), va_P (dC, dI) vwCl [(ra, .inr (2, [.ref ra1, .ref ra2, .ref ra3, .int ra_u])), (ra1, .inl (cI, ra_n * 20, .inl ra_c)), (ra2, .inl (cI, ra_n, .inl ra_l)), (ra3, .inl (cI, 21, .inl ra_o))] H → va_D (va_A (ww_X2_leave dC dI cI cJ cB ra ra1 ra2 ra3 s.heap.size ra_n ra_u ra_c ra_l ra_o0 p0) s.heap.size) [(ra, .inr (2, [.ref ra1, .ref ra2, .ref ra3, .int ra_u])), (ra1, .inl (cI, ra_n * 20, .inl ra_c)), (ra2, .inl (cI, ra_n, .inl ra_l)), (ra3, .inl (cI, 21, .inl ra_o))] → va_S (va_A (ww_X2_leave dC dI cI cJ cB ra ra1 ra2 ra3 s.heap.size ra_n ra_u ra_c ra_l ra_o0 p0) s.heap.size) s.heap H locs → ∀ ls : Array Slot, lv_has ls 3 [(0, .ref ra), (1, .int p0), (2, .int x2)] → WW_X2_leave p l e s m below meth c dC dI cI cJ cB ra ra1 ra2 ra3 s.heap.size ra_n ra_u ra_c ra_l ra_o0 p0 H locs (F0 m 2 ls []) := by
    intro N_2
    induction N_2 with
    | zero => intro x2 ra_o i2_0 hm; exact absurd hm (Nat.not_lt_zero _)
    | succ N_2 ih_2 =>
      intro x2 ra_o i2_0 hm_2 H locs hP hD hS ls hl
      refine lv_iload_n hx hb dX2_leave_2 rfl (lv_at hl 2 rfl) ?_
      refine lv_if_le (tgt := 40) hx hb dX2_leave_3 (by decide) (fun c_1 => ?_) (fun c_1 => ?_)
      · have tc_1 : x2.toInt ≤ 0 := tb_le_t c_1
        exact J_40 x2 ra_o (by first | assumption | omega | decide | (simp only [lt0, lt1, ltm1, lt400] at *; omega)) _ _ (hP.sub [0, 1, 2, 3] rfl) (hD.sub [0, 1, 2, 3] (by decide) rfl) hS ls (lv_sub hl [0, 1, 2] rfl)
      · have tc_1 : 0 < x2.toInt := tb_le_f c_1
        refine lv_iload_n hx hb dX2_leave_6 rfl (lv_at hl 2 rfl) ?_
        refine lv_bipush (v := 20) hx hb dX2_leave_7 (by decide) ?_
        refine lv_icmp_gt (tgt := 40) hx hb dX2_leave_9 (by decide) (fun c_2 => ?_) (fun c_2 => ?_)
        · have tc_2 : 20 < x2.toInt := tb_gt_t c_2
          exact J_40 x2 ra_o (by first | assumption | omega | decide | (simp only [lt0, lt1, ltm1, lt400] at *; omega)) _ _ (hP.sub [0, 1, 2, 3] rfl) (hD.sub [0, 1, 2, 3] (by decide) rfl) hS ls (lv_sub hl [0, 1, 2] rfl)
        · have tc_2 : x2.toInt ≤ 20 := tb_gt_f c_2
          refine lv_aload_n hx hb dX2_leave_12 rfl (lv_at hl 0 rfl) ?_
          refine va_get (D := (dC, dI)) (ci := 2) (v := .ref ra3) (C := RX2) (T := TX2) (N := 4) hx hb hts kk1_ hown hK hP 0 rfl rfl 2 (by decide) kk0_ (fun _ h9 => h9) rfl dX2_leave_13 ?_
          refine lv_iload_n hx hb dX2_leave_16 rfl (lv_at hl 2 rfl) ?_
          refine lv_dup2_11 hx hb dX2_leave_17 rfl rfl ?_
          refine va_iald hx hb hK hP 3 0 rfl rfl (vp_in_iff.mpr ⟨by omega, by omega⟩) dX2_leave_18 ?_
          refine lv_topi (fun y_3 ey_3 => ?_)
          refine lv_iconst (v := 1) hx hb dX2_leave_19 (by decide) ?_
          refine lv_isub hx hb dX2_leave_20 ?_
          refine lv_topi (fun y_4 ey_4 => ?_)
          refine va_iast hx hb hK hP hD hS 3 0 rfl rfl (vp_in_iff.mpr ⟨by omega, by omega⟩) dX2_leave_21 (fun H locs hP hD hS => ?_)
          have hP : va_P (dC, dI) vwCl [(ra, .inr (2, [.ref ra1, .ref ra2, .ref ra3, .int ra_u])), (ra1, .inl (cI, ra_n * 20, .inl ra_c)), (ra2, .inl (cI, ra_n, .inl ra_l)), (ra3, .inl (cI, 21, .inl (upd ra_o (x2).toNatClampNeg y_4)))] H := hP
          have hD : va_D (va_A (ww_X2_leave dC dI cI cJ cB ra ra1 ra2 ra3 s.heap.size ra_n ra_u ra_c ra_l ra_o0 p0) s.heap.size) [(ra, .inr (2, [.ref ra1, .ref ra2, .ref ra3, .int ra_u])), (ra1, .inl (cI, ra_n * 20, .inl ra_c)), (ra2, .inl (cI, ra_n, .inl ra_l)), (ra3, .inl (cI, 21, .inl (upd ra_o (x2).toNatClampNeg y_4)))] := hD
          obtain ⟨f_5, ef_5⟩ : ∃ z, z = upd ra_o (x2).toNatClampNeg y_4 := ⟨_, rfl⟩
          rw [← ef_5] at hP hD
          refine lv_aload_n hx hb dX2_leave_22 rfl (lv_at hl 0 rfl) ?_
          refine va_get (D := (dC, dI)) (ci := 2) (v := .ref ra3) (C := RX2) (T := TX2) (N := 4) hx hb hts kk1_ hown hK hP 0 rfl rfl 2 (by decide) kk0_ (fun _ h9 => h9) rfl dX2_leave_23 ?_
          refine lv_iload_n hx hb dX2_leave_26 rfl (lv_at hl 2 rfl) ?_
          refine va_iald hx hb hK hP 3 0 rfl rfl (vp_in_iff.mpr ⟨by omega, by omega⟩) dX2_leave_27 ?_
          refine lv_topi (fun y_6 ey_6 => ?_)
          refine lv_if_le (tgt := 34) hx hb dX2_leave_28 (by decide) (fun c_7 => ?_) (fun c_7 => ?_)
          · have tc_7 : y_6.toInt ≤ 0 := tb_le_t c_7
            obtain ⟨x2_8, ex2_8⟩ : ∃ y : Int32, y = x2 + (-1) := ⟨_, rfl⟩
            refine lv_iinc (v := x2_8) (lv' := [(2, .int x2_8), (0, .ref ra), (1, .int p0)]) hx hb dX2_leave_34 hl (k := 2) rfl (by rw [ex2_8]; rfl) (by decide) rfl (fun ls hl => ?_)
            have tex2_8 : x2_8.toInt = x2.toInt + (-1) := ti_inc ex2_8 (by decide) (by omega) (by omega)
            refine lv_goto (tgt := 2) hx hb dX2_leave_37 (by decide) ?_
            exact ih_2 x2_8 f_5 (by first | assumption | omega | decide | (simp only [lt0, lt1, ltm1, lt400] at *; omega)) (by omega) _ _ (hP.sub [0, 1, 2, 3] rfl) (hD.sub [0, 1, 2, 3] (by decide) rfl) hS ls (lv_sub hl [1, 2, 0] rfl)
          · have tc_7 : 0 < y_6.toInt := tb_le_f c_7
            refine lv_goto (tgt := 40) hx hb dX2_leave_31 (by decide) ?_
            exact J_40 x2 f_5 (by first | assumption | omega | decide | (simp only [lt0, lt1, ltm1, lt400] at *; omega)) _ _ (hP.sub [0, 1, 2, 3] rfl) (hD.sub [0, 1, 2, 3] (by decide) rfl) hS ls (lv_sub hl [0, 1, 2] rfl)
  refine lv_iload_n hx hb dX2_leave_0 rfl (lv_at hl 1 rfl) ?_
  refine lv_istore_n (lv' := [(2, .int p0), (0, .ref ra), (1, .int p0)]) hx hb dX2_leave_1 rfl hl (by decide) rfl (fun ls hl => ?_)
  exact L_2 (((p0.toInt + 2147483648).toNat) + 1) p0 ra_o0 (by first | assumption | omega | decide | (simp only [lt0, lt1, ltm1, lt400] at *; omega)) (Nat.lt_succ_self _) _ _ (hP.sub [0, 1, 2, 3] rfl) (hD.sub [0, 1, 2, 3] (by decide) rfl) hS ls (lv_sub hl [1, 2, 0] rfl)
def wo_X2_depthOf : List Cond := .code yX2_depthOf cX2_depthOf 7 (some .int) :: (([.methodLink RX2 15 Lib.Math.max.name, .static Lib.Math.max.name, .initialized "java/lang/Math", .code Lib.Math.max.name Lib.Math.max.code 2 (some .int), .fieldLink RX2 27 "SumRewriter$Rows" "open" "[I", .initialized RX9, .static yX9_partsIn] : List Cond) ++ ((wsX20) ++ ((wsV RX2 68 RX2 yX2_leave wo_X2_leave) ++ ((wsV RX2 46 RX2 yX2_cellAt wo_X2_cellAt) ++ ((wo_X9_partsIn) ++ ((wsV RX2 34 RX2 yX2_lengthOf wo_X2_lengthOf)))))))
set_option maxRecDepth 20000 in
theorem go_wo_X2_depthOf_1 : GoodIn wo_X2_depthOf (wsV RX2 68 RX2 yX2_leave wo_X2_leave) := goodIn_sub (fun _ h => (List.mem_cons_of_mem _ (List.mem_append_right _ (List.mem_append_right _ (List.mem_append_left _ h))))) (by decide +kernel)
set_option maxRecDepth 20000 in
theorem go_wo_X2_depthOf_2 : GoodIn wo_X2_depthOf (wsV RX2 46 RX2 yX2_cellAt wo_X2_cellAt) := goodIn_sub (fun _ h => (List.mem_cons_of_mem _ (List.mem_append_right _ (List.mem_append_right _ (List.mem_append_right _ (List.mem_append_left _ h)))))) (by decide +kernel)
set_option maxRecDepth 20000 in
theorem go_wo_X2_depthOf_3 : GoodIn wo_X2_depthOf (wo_X9_partsIn) := goodIn_sub (fun _ h => (List.mem_cons_of_mem _ (List.mem_append_right _ (List.mem_append_right _ (List.mem_append_right _ (List.mem_append_right _ (List.mem_append_left _ h))))))) (by decide +kernel)
set_option maxRecDepth 20000 in
theorem go_wo_X2_depthOf_4 : GoodIn wo_X2_depthOf (wsV RX2 34 RX2 yX2_lengthOf wo_X2_lengthOf) := goodIn_sub (fun _ h => (List.mem_cons_of_mem _ (List.mem_append_right _ (List.mem_append_right _ (List.mem_append_right _ (List.mem_append_right _ (List.mem_append_right _ h))))))) (by decide +kernel)
abbrev ww_X2_depthOf (dC : Nat → ClassId) (dI : Nat → Nat → Nat) (cI cJ cB : ClassId) (ra ra1 ra2 ra3 : Nat) (sz : Nat) (ra_n : Nat) (ra_u : Int32) (ra_c : Nat → Int32) (ra_l : Nat → Int32) (ra_o0 : Nat → Int32) (p0 : Int32) : va_W := [(ra, .inr (2, [.ref ra1, .ref ra2, .ref ra3, .int ra_u])), (ra1, .inl (cI, ra_n * 20, .inl ra_c)), (ra2, .inl (cI, ra_n, .inl ra_l)), (ra3, .inl (cI, 21, .inl ra_o0))]
abbrev at_X2_depthOf (dC : Nat → ClassId) (dI : Nat → Nat → Nat) (cI cJ cB : ClassId) (ra ra1 ra2 ra3 : Nat) (sz : Nat) (ra_n : Nat) (ra_u : Int32) (ra_c : Nat → Int32) (ra_l : Nat → Int32) (ra_o0 : Nat → Int32) (p0 : Int32) (u : (Nat → Int32)) (t : State) : Prop := match u with
  | ra_o => va_P (dC, dI) vwCl [(ra, .inr (2, [.ref ra1, .ref ra2, .ref ra3, .int ra_u])), (ra1, .inl (cI, ra_n * 20, .inl ra_c)), (ra2, .inl (cI, ra_n, .inl ra_l)), (ra3, .inl (cI, 21, .inl ra_o))] t.heap ∧ va_K (dC, dI) vwCl (tyL cI cJ cB) t ∧ va_D (va_A (ww_X2_depthOf dC dI cI cJ cB ra ra1 ra2 ra3 sz ra_n ra_u ra_c ra_l ra_o0 p0) sz) [(ra, .inr (2, [.ref ra1, .ref ra2, .ref ra3, .int ra_u])), (ra1, .inl (cI, ra_n * 20, .inl ra_c)), (ra2, .inl (cI, ra_n, .inl ra_l)), (ra3, .inl (cI, 21, .inl ra_o))]
abbrev qc_X2_depthOf (dC : Nat → ClassId) (dI : Nat → Nat → Nat) (cI cJ cB : ClassId) (ra ra1 ra2 ra3 : Nat) (sz : Nat) (ra_n : Nat) (ra_u : Int32) (ra_c : Nat → Int32) (ra_l : Nat → Int32) (ra_o0 : Nat → Int32) (p0 : Int32) : Array Value → State → Outcome → State → Prop := va_Qi (fun (r : Int32) (u : (Nat → Int32)) => match u with | ra_o => True) (at_X2_depthOf dC dI cI cJ cB ra ra1 ra2 ra3 sz ra_n ra_u ra_c ra_l ra_o0 p0) (va_A (ww_X2_depthOf dC dI cI cJ cB ra ra1 ra2 ra3 sz ra_n ra_u ra_c ra_l ra_o0 p0) sz)
abbrev pc_X2_depthOf (dC : Nat → ClassId) (dI : Nat → Nat → Nat) (cI cJ cB : ClassId) (ra ra1 ra2 ra3 : Nat) (sz : Nat) (ra_n : Nat) (ra_u : Int32) (ra_c : Nat → Int32) (ra_l : Nat → Int32) (ra_o0 : Nat → Int32) (p0 : Int32) : Array Value → State → Prop := va_Pc [.ref ra, .int p0] (fun U => U.heap.size = sz ∧ NW U ∧ va_P (dC, dI) vwCl (ww_X2_depthOf dC dI cI cJ cB ra ra1 ra2 ra3 sz ra_n ra_u ra_c ra_l ra_o0 p0) U.heap ∧ va_K (dC, dI) vwCl (tyL cI cJ cB) U ∧ va_D (fun _ => True) (ww_X2_depthOf dC dI cI cJ cB ra ra1 ra2 ra3 sz ra_n ra_u ra_c ra_l ra_o0 p0))
abbrev rm_X2_depthOf : Room := { frames := 2, cells := 0, slots := 0, locals := 60 }
abbrev WW_X2_depthOf (p : Program) (l : Launch) (e : Env) (s : State) (m : MethodId) (below : List Frame) (meth : Method) (c : Code) (dC : Nat → ClassId) (dI : Nat → Nat → Nat) (cI cJ cB : ClassId) (ra ra1 ra2 ra3 : Nat) (sz : Nat) (ra_n : Nat) (ra_u : Int32) (ra_c : Nat → Int32) (ra_l : Nat → Int32) (ra_o0 : Nat → Int32) (p0 : Int32) (H : Heap) (locs : List Loc) (g : JFrame) : Prop := W p l e rm_X2_depthOf s m ([.ref ra, .int p0] : List Value).toArray below meth c H locs 0 0 (MQ below (qc_X2_depthOf dC dI cI cJ cB ra ra1 ra2 ra3 sz ra_n ra_u ra_c ra_l ra_o0 p0) ([.ref ra, .int p0] : List Value).toArray s 0 0 (va_A (ww_X2_depthOf dC dI cI cJ cB ra ra1 ra2 ra3 sz ra_n ra_u ra_c ra_l ra_o0 p0) sz)) g
set_option maxHeartbeats 4000000 in
set_option maxRecDepth 100000 in
theorem c_X2_depthOf (l : Launch) (dC : Nat → ClassId) (dI : Nat → Nat → Nat) (cI cJ cB : ClassId) (ra ra1 ra2 ra3 : Nat) (sz : Nat) (ra_n : Nat) (ra_u : Int32) (ra_c : Nat → Int32) (ra_l : Nat → Int32) (ra_o0 : Nat → Int32) (p0 : Int32) (hn_ra : 1 ≤ ra_n ∧ ra_n ≤ 201) : Met l yX2_depthOf wo_X2_depthOf rm_X2_depthOf (pc_X2_depthOf dC dI cI cJ cB ra ra1 ra2 ra3 sz ra_n ra_u ra_c ra_l ra_o0 p0) (qc_X2_depthOf dC dI cI cJ cB ra ra1 ra2 ra3 sz ra_n ra_u ra_c ra_l ra_o0 p0) 0 0 (va_A (ww_X2_depthOf dC dI cI cJ cB ra ra1 ra2 ra3 sz ra_n ra_u ra_c ra_l ra_o0 p0) sz) := by
  refine Met.ofW (cc := cX2_depthOf) (maxL := 7) (ret := (some .int)) (by decide) rfl ?_
  intro p e s m args below meth c s₁ B hml hv
  obtain ⟨rfl, hsz, hnw, hP, hK, hD0⟩ := hv
  have hx := B.exec
  have hb := B.bytes
  have hr := B.returns
  have hts := atoms_spec (ws := wo_X2_depthOf) B.pre
  have hown : s.vm.findClass RX2 = some m.cls := findClass_of_methodNamed B.named
  have hlocks := B.notSynchronized
  clear B
  subst hsz
  have hD := hD0.self (sz := s.heap.size)
  clear hD0
  have kk0_ := hts (.methodLink RX2 15 Lib.Math.max.name) (by decide +kernel)
  have kk1_ := hts (.static Lib.Math.max.name) (by decide +kernel)
  have kk2_ := hts (.initialized "java/lang/Math") (by decide +kernel)
  have kk3_ := hts (.code Lib.Math.max.name Lib.Math.max.code 2 (some .int)) (by decide +kernel)
  have kk4_ := hts (.fieldLink RX2 27 "SumRewriter$Rows" "open" "[I") (by decide +kernel)
  have kk5_ : ∀ w ∈ wsX20, w ∈ wo_X2_depthOf := fun _ h => (List.mem_cons_of_mem _ (List.mem_append_right _ (List.mem_append_left _ h)))
  have hA : ∀ q : Nat, s.heap.size ≤ q → (va_A (ww_X2_depthOf dC dI cI cJ cB ra ra1 ra2 ra3 s.heap.size ra_n ra_u ra_c ra_l ra_o0 p0) s.heap.size) q := fun q h => Or.inr h
  have hS : va_S (va_A (ww_X2_depthOf dC dI cI cJ cB ra ra1 ra2 ra3 s.heap.size ra_n ra_u ra_c ra_l ra_o0 p0) s.heap.size) s.heap s.heap [] := va_S.rf
  have hl := lv_entry ([.ref ra, .int p0]) (n := 7) (Nat.le_of_ble_eq_true rfl)
  rw [lg_entry_eq]
  generalize (lg_sl ([.ref ra, .int p0]) ++ List.replicate (7 - (lg_sl ([.ref ra, .int p0])).length) Slot.unset).toArray = ls at hl ⊢
  have hl : lv_has ls 7 [(0, .ref ra), (1, .int p0)] := hl
  have hP : va_P (dC, dI) vwCl [(ra, .inr (2, [.ref ra1, .ref ra2, .ref ra3, .int ra_u])), (ra1, .inl (cI, ra_n * 20, .inl ra_c)), (ra2, .inl (cI, ra_n, .inl ra_l)), (ra3, .inl (cI, 21, .inl ra_o0))] s.heap := hP
  have hD : va_D (va_A (ww_X2_depthOf dC dI cI cJ cB ra ra1 ra2 ra3 s.heap.size ra_n ra_u ra_c ra_l ra_o0 p0) s.heap.size) [(ra, .inr (2, [.ref ra1, .ref ra2, .ref ra3, .int ra_u])), (ra1, .inl (cI, ra_n * 20, .inl ra_c)), (ra2, .inl (cI, ra_n, .inl ra_l)), (ra3, .inl (cI, 21, .inl ra_o0))] := hD
  obtain ⟨H, hH⟩ : ∃ H, H = s.heap := ⟨_, rfl⟩
  obtain ⟨locs, hlc⟩ : ∃ L : List Loc, L = [] := ⟨_, rfl⟩
  have hS : va_S (va_A (ww_X2_depthOf dC dI cI cJ cB ra ra1 ra2 ra3 s.heap.size ra_n ra_u ra_c ra_l ra_o0 p0) s.heap.size) s.heap H locs := by rw [hH, hlc]; exact hS
  have hP : va_P (dC, dI) vwCl [(ra, .inr (2, [.ref ra1, .ref ra2, .ref ra3, .int ra_u])), (ra1, .inl (cI, ra_n * 20, .inl ra_c)), (ra2, .inl (cI, ra_n, .inl ra_l)), (ra3, .inl (cI, 21, .inl ra_o0))] H := by rw [hH]; exact hP
  suffices hgo : WW_X2_depthOf p l e s m below meth c dC dI cI cJ cB ra ra1 ra2 ra3 s.heap.size ra_n ra_u ra_c ra_l ra_o0 p0 H locs (F0 m 0 ls []) by rw [hH, hlc] at hgo; exact hgo
  clear hH hlc
  have L_14 : ∀ (N_14 : Nat), ∀ (x2 : Int32) (x3 : Int32) (x4 : Int32) (x5 : Int32) (ra_o : Nat → Int32), (0 ≤ x3.toInt ∧ x3.toInt ≤ 20) → ((2147483647 - x5.toInt).toNat) < N_14 → ∀ (H : Heap) (locs : List Loc), va_P (dC, dI) vwCl [(ra, .inr (2, [.ref ra1, .ref ra2, .ref ra3, .int ra_u])), (ra1, .inl (cI, ra_n * 20, .inl ra_c)), (ra2, .inl (cI, ra_n, .inl ra_l)), (ra3, .inl (cI, 21, .inl ra_o))] H → va_D (va_A (ww_X2_depthOf dC dI cI cJ cB ra ra1 ra2 ra3 s.heap.size ra_n ra_u ra_c ra_l ra_o0 p0) s.heap.size) [(ra, .inr (2, [.ref ra1, .ref ra2, .ref ra3, .int ra_u])), (ra1, .inl (cI, ra_n * 20, .inl ra_c)), (ra2, .inl (cI, ra_n, .inl ra_l)), (ra3, .inl (cI, 21, .inl ra_o))] → va_S (va_A (ww_X2_depthOf dC dI cI cJ cB ra ra1 ra2 ra3 s.heap.size ra_n ra_u ra_c ra_l ra_o0 p0) s.heap.size) s.heap H locs → ∀ ls : Array Slot, lv_has ls 7 [(0, .ref ra), (1, .int p0), (2, .int x2), (3, .int x3), (4, .int x4), (5, .int x5)] → WW_X2_depthOf p l e s m below meth c dC dI cI cJ cB ra ra1 ra2 ra3 s.heap.size ra_n ra_u ra_c ra_l ra_o0 p0 H locs (F0 m 14 ls []) := by
    intro N_14
    induction N_14 with
    | zero => intro x2 x3 x4 x5 ra_o i14_0 hm; exact absurd hm (Nat.not_lt_zero _)
    | succ N_14 ih_14 =>
      intro x2 x3 x4 x5 ra_o i14_0 hm_14 H locs hP hD hS ls hl
      have J_64 : ∀ (x2 : Int32) (x3 : Int32) (x4 : Int32) (x5 : Int32) (x6 : Int32) (ra_o : Nat → Int32), (x5.toInt ≤ 2147483646) → (0 ≤ x3.toInt ∧ x3.toInt ≤ 20) → (((2147483647 - x5.toInt).toNat) < N_14 + 1) → ∀ (H : Heap) (locs : List Loc), va_P (dC, dI) vwCl [(ra, .inr (2, [.ref ra1, .ref ra2, .ref ra3, .int ra_u])), (ra1, .inl (cI, ra_n * 20, .inl ra_c)), (ra2, .inl (cI, ra_n, .inl ra_l)), (ra3, .inl (cI, 21, .inl ra_o))] H → va_D (va_A (ww_X2_depthOf dC dI cI cJ cB ra ra1 ra2 ra3 s.heap.size ra_n ra_u ra_c ra_l ra_o0 p0) s.heap.size) [(ra, .inr (2, [.ref ra1, .ref ra2, .ref ra3, .int ra_u])), (ra1, .inl (cI, ra_n * 20, .inl ra_c)), (ra2, .inl (cI, ra_n, .inl ra_l)), (ra3, .inl (cI, 21, .inl ra_o))] → va_S (va_A (ww_X2_depthOf dC dI cI cJ cB ra ra1 ra2 ra3 s.heap.size ra_n ra_u ra_c ra_l ra_o0 p0) s.heap.size) s.heap H locs → ∀ ls : Array Slot, lv_has ls 7 [(0, .ref ra), (1, .int p0), (2, .int x2), (3, .int x3), (4, .int x4), (5, .int x5), (6, .int x6)] → WW_X2_depthOf p l e s m below meth c dC dI cI cJ cB ra ra1 ra2 ra3 s.heap.size ra_n ra_u ra_c ra_l ra_o0 p0 H locs (F0 m 64 ls []) := by
        intro x2 x3 x4 x5 x6 ra_o i64_0 i64_1 i64_2 H locs hP hD hS ls hl
        refine lv_aload_n hx hb dX2_depthOf_64 rfl (lv_at hl 0 rfl) ?_
        refine lv_iload_n hx hb dX2_depthOf_65 rfl (lv_at hl 3 rfl) ?_
        have hPc := hP.sub (ws' := [(ra, .inr (2, [.ref ra1, .ref ra2, .ref ra3, .int ra_u])), (ra1, .inl (cI, ra_n * 20, .inl ra_c)), (ra2, .inl (cI, ra_n, .inl ra_l)), (ra3, .inl (cI, 21, .inl ra_o))]) [0, 1, 2, 3] rfl
        have hDc := hD.sub (ws' := [(ra, .inr (2, [.ref ra1, .ref ra2, .ref ra3, .int ra_u])), (ra1, .inl (cI, ra_n * 20, .inl ra_c)), (ra2, .inl (cI, ra_n, .inl ra_l)), (ra3, .inl (cI, 21, .inl ra_o))]) [0, 1, 2, 3] (by decide) rfl
        have hFc := va_free (wc := [(ra, .inr (2, [.ref ra1, .ref ra2, .ref ra3, .int ra_u])), (ra1, .inl (cI, ra_n * 20, .inl ra_c)), (ra2, .inl (cI, ra_n, .inl ra_l)), (ra3, .inl (cI, 21, .inl ra_o))]) hD hS hA [0, 1, 2, 3] rfl
        refine va_calli (va_runV (As := [.int x3]) (rest := []) ⟨hx, hb, hml, hown, hts⟩ (c_X2_leave l dC dI cI cJ cB ra ra1 ra2 ra3 H.size ra_n ra_u ra_c ra_l ra_o x3) (cwV 1 hts go_wo_X2_depthOf_1 rfl rfl rfl (by decide +kernel) ⟨Nat.le_of_ble_eq_true rfl, Nat.le_of_ble_eq_true rfl⟩) ⟨fun a U g mk q => by obtain ⟨q0, q1, qN, qP, qK, qD⟩ := q; exact ⟨q0, q1, NW.calling qN, qP, va_K.moved (u := U) (U := U.calling g mk a) (Vm.Alike.refl U.vm) qK, qD⟩, va_recv hK hPc (ci := 2) (q0 := 0) rfl rfl, fun U hU hW => ⟨rfl, by rw [hU], NW.warm hW hnw, by rw [hU]; exact hPc, va_K.moved hW.alike hK, hDc.weaken (fun _ _ _ _ => trivial)⟩⟩ rfl rfl hl.1 rfl (lv_room (Nat.le_of_ble_eq_true rfl)) dX2_depthOf_66 ⟨Nat.zero_le _, Nat.zero_le _⟩) hS (fun q _ h => hFc q h) hFc (fun r_1 u t H1 locs ht hvm hw hB hz1 hk1 hS => ?_)
        obtain ⟨ra_o_2, rfl⟩ : ∃ z, z = u := ⟨_, rfl⟩
        obtain ⟨hP1, hK1, hD1⟩ := hB
        rw [ht] at hP1
        have hw : (0 ≤ x3.toInt → 0 ≤ r_1.toInt ∧ r_1.toInt ≤ x3.toInt) := hw
        have h_3 := hw
        obtain ⟨hP, hD⟩ := va_join (wr := []) (w1 := [(ra, .inr (2, [.ref ra1, .ref ra2, .ref ra3, .int ra_u])), (ra1, .inl (cI, ra_n * 20, .inl ra_c)), (ra2, .inl (cI, ra_n, .inl ra_l)), (ra3, .inl (cI, 21, .inl ra_o_2))]) hP hD [0, 1, 2, 3] [] rfl rfl (by decide) (by decide) hk1 hFc hP1 hD1
        generalize H1 = H at hP hS ⊢
        have hP : va_P (dC, dI) vwCl [(ra, .inr (2, [.ref ra1, .ref ra2, .ref ra3, .int ra_u])), (ra1, .inl (cI, ra_n * 20, .inl ra_c)), (ra2, .inl (cI, ra_n, .inl ra_l)), (ra3, .inl (cI, 21, .inl ra_o_2))] H := hP
        have hD : va_D (va_A (ww_X2_depthOf dC dI cI cJ cB ra ra1 ra2 ra3 s.heap.size ra_n ra_u ra_c ra_l ra_o0 p0) s.heap.size) [(ra, .inr (2, [.ref ra1, .ref ra2, .ref ra3, .int ra_u])), (ra1, .inl (cI, ra_n * 20, .inl ra_c)), (ra2, .inl (cI, ra_n, .inl ra_l)), (ra3, .inl (cI, 21, .inl ra_o_2))] := hD
        clear hPc hDc hFc hP1 hK1 hD1 hk1 hz1 ht hvm
        refine lv_istore_n (lv' := [(3, .int r_1), (0, .ref ra), (1, .int p0), (2, .int x2), (4, .int x4), (5, .int x5), (6, .int x6)]) hx hb dX2_depthOf_69 rfl hl (by decide) rfl (fun ls hl => ?_)
        obtain ⟨x5_4, ex5_4⟩ : ∃ y : Int32, y = x5 + (1) := ⟨_, rfl⟩
        refine lv_iinc (v := x5_4) (lv' := [(5, .int x5_4), (3, .int r_1), (0, .ref ra), (1, .int p0), (2, .int x2), (4, .int x4), (6, .int x6)]) hx hb dX2_depthOf_70 hl (k := 5) rfl (by rw [ex5_4]; rfl) (by decide) rfl (fun ls hl => ?_)
        have := ti_rng x5
        have tex5_4 : x5_4.toInt = x5.toInt + (1) := ti_inc ex5_4 (by decide) (by omega) (by omega)
        refine lv_goto (tgt := 14) hx hb dX2_depthOf_73 (by decide) ?_
        exact ih_14 x2 r_1 x4 x5_4 ra_o_2 (by first | assumption | omega | decide | (simp only [lt0, lt1, ltm1, lt400] at *; omega)) (by omega) _ _ (hP.sub [0, 1, 2, 3] rfl) (hD.sub [0, 1, 2, 3] (by decide) rfl) hS ls (lv_sub hl [2, 3, 4, 1, 5, 0] rfl)
      refine lv_iload hx hb dX2_depthOf_14 (lv_at hl 5 rfl) ?_
      refine lv_iload hx hb dX2_depthOf_16 (lv_at hl 4 rfl) ?_
      refine lv_icmp_ge (tgt := 76) hx hb dX2_depthOf_18 (by decide) (fun c_5 => ?_) (fun c_5 => ?_)
      · have tc_5 : x4.toInt ≤ x5.toInt := tb_ge_t c_5
        have := ti_rng x5
        have := ti_rng x4
        refine lv_iload_n hx hb dX2_depthOf_76 rfl (lv_at hl 2 rfl) ?_
        have hP9 := hP.sub (ws' := [(ra, .inr (2, [.ref ra1, .ref ra2, .ref ra3, .int ra_u])), (ra1, .inl (cI, ra_n * 20, .inl ra_c)), (ra2, .inl (cI, ra_n, .inl ra_l)), (ra3, .inl (cI, 21, .inl ra_o))]) [0, 1, 2, 3] rfl
        have hD9 := hD.sub (ws' := [(ra, .inr (2, [.ref ra1, .ref ra2, .ref ra3, .int ra_u])), (ra1, .inl (cI, ra_n * 20, .inl ra_c)), (ra2, .inl (cI, ra_n, .inl ra_l)), (ra3, .inl (cI, 21, .inl ra_o))]) [0, 1, 2, 3] (by decide) rfl
        exact W.iret (v := x2) hx hb hr (fun t ht hW => ⟨⟨x2, ra_o, rfl, trivial, by rw [ht]; exact hP9, va_K.moved hW.alike hK, hD9⟩, hS.F ht⟩) hS.2.2 dX2_depthOf_77
      · have tc_5 : x5.toInt < x4.toInt := tb_ge_f c_5
        have := ti_rng x5
        have := ti_rng x4
        refine lv_iload_n hx hb dX2_depthOf_21 rfl (lv_at hl 2 rfl) ?_
        refine lv_iload_n hx hb dX2_depthOf_22 rfl (lv_at hl 3 rfl) ?_
        refine va_mmax hx hb (by rw [hml]; exact hl.1.symm) hown kk0_ kk1_ kk2_ kk3_ (Nat.le_of_ble_eq_true rfl) (Nat.le_of_ble_eq_true rfl) (Nat.zero_le _) (Nat.zero_le _) dX2_depthOf_23 ?_
        refine lv_topi (fun y_6 ey_6 => ?_)
        have tey_6 := ti_mmax ey_6 (show x2.toInt = x2.toInt from rfl) (show x3.toInt = x3.toInt from rfl)
        refine lv_istore_n (lv' := [(2, .int y_6), (0, .ref ra), (1, .int p0), (3, .int x3), (4, .int x4), (5, .int x5)]) hx hb dX2_depthOf_26 rfl hl (by decide) rfl (fun ls hl => ?_)
        refine lv_aload_n hx hb dX2_depthOf_27 rfl (lv_at hl 1 rfl) ?_
        refine lv_iload_n hx hb dX2_depthOf_28 rfl (lv_at hl 2 rfl) ?_
        refine lv_iload hx hb dX2_depthOf_29 (lv_at hl 5 rfl) ?_
        have hPc := hP.sub (ws' := [(ra, .inr (2, [.ref ra1, .ref ra2, .ref ra3, .int ra_u])), (ra1, .inl (cI, ra_n * 20, .inl ra_c)), (ra2, .inl (cI, ra_n, .inl ra_l)), (ra3, .inl (cI, 21, .inl ra_o))]) [0, 1, 2, 3] rfl
        have hDc := hD.sub (ws' := [(ra, .inr (2, [.ref ra1, .ref ra2, .ref ra3, .int ra_u])), (ra1, .inl (cI, ra_n * 20, .inl ra_c)), (ra2, .inl (cI, ra_n, .inl ra_l)), (ra3, .inl (cI, 21, .inl ra_o))]) [0, 1, 2, 3] (by decide) rfl
        have hFc := va_free (wc := [(ra, .inr (2, [.ref ra1, .ref ra2, .ref ra3, .int ra_u])), (ra1, .inl (cI, ra_n * 20, .inl ra_c)), (ra2, .inl (cI, ra_n, .inl ra_l)), (ra3, .inl (cI, 21, .inl ra_o))]) hD hS hA [0, 1, 2, 3] rfl
        refine va_calli (va_runV (As := [.int p0, .int x5]) (rest := []) ⟨hx, hb, hml, hown, hts⟩ (c_X2_cellAt l dC dI cI cJ cB ra ra1 ra2 ra3 H.size ra_n ra_u ra_c ra_l ra_o p0 x5 (by first | assumption | omega | decide | (simp only [lt0, lt1, ltm1, lt400] at *; omega))) (cwV 2 hts go_wo_X2_depthOf_2 rfl rfl rfl (by decide +kernel) ⟨Nat.le_of_ble_eq_true rfl, Nat.le_of_ble_eq_true rfl⟩) ⟨fun a U g mk q => by obtain ⟨q0, q1, qN, qP, qK, qD⟩ := q; exact ⟨q0, q1, NW.calling qN, qP, va_K.moved (u := U) (U := U.calling g mk a) (Vm.Alike.refl U.vm) qK, qD⟩, va_recv hK hPc (ci := 2) (q0 := 0) rfl rfl, fun U hU hW => ⟨rfl, by rw [hU], NW.warm hW hnw, by rw [hU]; exact hPc, va_K.moved hW.alike hK, hDc.weaken (fun _ _ _ _ => trivial)⟩⟩ rfl rfl hl.1 rfl (lv_room (Nat.le_of_ble_eq_true rfl)) dX2_depthOf_31 ⟨Nat.zero_le _, Nat.zero_le _⟩) hS (fun q _ h => hFc q h) hFc (fun r_7 u t H1 locs ht hvm hw hB hz1 hk1 hS => ?_)
        cases u
        obtain ⟨hP1, hK1, hD1⟩ := hB
        rw [ht] at hP1
        clear hw
        obtain ⟨hP, hD⟩ := va_join (wr := []) (w1 := [(ra, .inr (2, [.ref ra1, .ref ra2, .ref ra3, .int ra_u])), (ra1, .inl (cI, ra_n * 20, .inl ra_c)), (ra2, .inl (cI, ra_n, .inl ra_l)), (ra3, .inl (cI, 21, .inl ra_o))]) hP hD [0, 1, 2, 3] [] rfl rfl (by decide) (by decide) hk1 hFc hP1 hD1
        generalize H1 = H at hP hS ⊢
        have hP : va_P (dC, dI) vwCl [(ra, .inr (2, [.ref ra1, .ref ra2, .ref ra3, .int ra_u])), (ra1, .inl (cI, ra_n * 20, .inl ra_c)), (ra2, .inl (cI, ra_n, .inl ra_l)), (ra3, .inl (cI, 21, .inl ra_o))] H := hP
        have hD : va_D (va_A (ww_X2_depthOf dC dI cI cJ cB ra ra1 ra2 ra3 s.heap.size ra_n ra_u ra_c ra_l ra_o0 p0) s.heap.size) [(ra, .inr (2, [.ref ra1, .ref ra2, .ref ra3, .int ra_u])), (ra1, .inl (cI, ra_n * 20, .inl ra_c)), (ra2, .inl (cI, ra_n, .inl ra_l)), (ra3, .inl (cI, 21, .inl ra_o))] := hD
        clear hPc hDc hFc hP1 hK1 hD1 hk1 hz1 ht hvm
        have hPc := hP.sub (ws' := []) [] rfl
        have hDc := hD.sub (ws' := []) [] (by decide) rfl
        have hFc := va_free (wc := []) hD hS hA [] rfl
        refine va_calli (va_runSN (host := "SumRewriter") (As := [.int r_7]) (rest := []) ⟨hx, hb, hml, hown, hts⟩ (c_X9_partsIn l dC dI cI cJ cB  H.size r_7) ⟨va_cnB 1 hts go_wo_X2_depthOf_3 rfl rfl rfl (hnw _ (by decide +kernel) : va_Nw (.methodLinkNest RX2 65 yX9_partsIn "SumRewriter") s) (hts (.initialized RX9) (by decide +kernel)) (by decide +kernel) ⟨Nat.le_of_ble_eq_true rfl, Nat.le_of_ble_eq_true rfl⟩, hts (.static yX9_partsIn) (by decide +kernel), trivial⟩ ⟨fun a U g mk q => by obtain ⟨q0, q1, qN, qP, qK, qD⟩ := q; exact ⟨q0, q1, NW.calling qN, qP, va_K.moved (u := U) (U := U.calling g mk a) (Vm.Alike.refl U.vm) qK, qD⟩, fun U hU hW => ⟨rfl, by rw [hU], NW.warm hW hnw, by rw [hU]; exact hPc, va_K.moved hW.alike hK, hDc.weaken (fun _ _ _ _ => trivial)⟩⟩ rfl rfl hl.1 rfl (lv_room (Nat.le_of_ble_eq_true rfl)) dX2_depthOf_34 ⟨Nat.zero_le _, Nat.zero_le _⟩) hS (fun q _ h => hFc q h) hFc (fun r_8 u t H1 locs ht hvm hw hB hz1 hk1 hS => ?_)
        cases u
        obtain ⟨hP1, hK1, hD1⟩ := hB
        rw [ht] at hP1
        have hw : (0 ≤ r_8.toInt ∧ r_8.toInt ≤ 7) := hw
        have h_9 := hw
        obtain ⟨hP, hD⟩ := va_join (wr := [(ra, .inr (2, [.ref ra1, .ref ra2, .ref ra3, .int ra_u])), (ra1, .inl (cI, ra_n * 20, .inl ra_c)), (ra2, .inl (cI, ra_n, .inl ra_l)), (ra3, .inl (cI, 21, .inl ra_o))]) (w1 := []) hP hD [] [0, 1, 2, 3] rfl rfl (by decide) (by decide) hk1 hFc hP1 hD1
        generalize H1 = H at hP hS ⊢
        have hP : va_P (dC, dI) vwCl [(ra, .inr (2, [.ref ra1, .ref ra2, .ref ra3, .int ra_u])), (ra1, .inl (cI, ra_n * 20, .inl ra_c)), (ra2, .inl (cI, ra_n, .inl ra_l)), (ra3, .inl (cI, 21, .inl ra_o))] H := hP
        have hD : va_D (va_A (ww_X2_depthOf dC dI cI cJ cB ra ra1 ra2 ra3 s.heap.size ra_n ra_u ra_c ra_l ra_o0 p0) s.heap.size) [(ra, .inr (2, [.ref ra1, .ref ra2, .ref ra3, .int ra_u])), (ra1, .inl (cI, ra_n * 20, .inl ra_c)), (ra2, .inl (cI, ra_n, .inl ra_l)), (ra3, .inl (cI, 21, .inl ra_o))] := hD
        clear hPc hDc hFc hP1 hK1 hD1 hk1 hz1 ht hvm
        refine lv_istore (lv' := [(6, .int r_8), (2, .int y_6), (0, .ref ra), (1, .int p0), (3, .int x3), (4, .int x4), (5, .int x5)]) hx hb dX2_depthOf_37 hl (by decide) rfl (fun ls hl => ?_)
        refine lv_iload hx hb dX2_depthOf_39 (lv_at hl 0 rfl) ?_
        refine lv_if_le (tgt := 64) hx hb dX2_depthOf_41 (by decide) (fun c_10 => ?_) (fun c_10 => ?_)
        · have tc_10 : r_8.toInt ≤ 0 := tb_le_t c_10
          exact J_64 y_6 x3 x4 x5 r_8 ra_o (by first | assumption | omega | decide | (simp only [lt0, lt1, ltm1, lt400] at *; omega)) (by first | assumption | omega | decide | (simp only [lt0, lt1, ltm1, lt400] at *; omega)) (by first | assumption | omega | decide | (simp only [lt0, lt1, ltm1, lt400] at *; omega)) _ _ (hP.sub [0, 1, 2, 3] rfl) (hD.sub [0, 1, 2, 3] (by decide) rfl) hS ls (lv_sub hl [2, 3, 1, 4, 5, 6, 0] rfl)
        · have tc_10 : 0 < r_8.toInt := tb_le_f c_10
          refine lv_iload_n hx hb dX2_depthOf_44 rfl (lv_at hl 4 rfl) ?_
          refine lv_bipush (v := 20) hx hb dX2_depthOf_45 (by decide) ?_
          refine lv_icmp_ge (tgt := 64) hx hb dX2_depthOf_47 (by decide) (fun c_11 => ?_) (fun c_11 => ?_)
          · have tc_11 : 20 ≤ x3.toInt := tb_ge_t c_11
            exact J_64 y_6 x3 x4 x5 r_8 ra_o (by first | assumption | omega | decide | (simp only [lt0, lt1, ltm1, lt400] at *; omega)) (by first | assumption | omega | decide | (simp only [lt0, lt1, ltm1, lt400] at *; omega)) (by first | assumption | omega | decide | (simp only [lt0, lt1, ltm1, lt400] at *; omega)) _ _ (hP.sub [0, 1, 2, 3] rfl) (hD.sub [0, 1, 2, 3] (by decide) rfl) hS ls (lv_sub hl [2, 3, 1, 4, 5, 6, 0] rfl)
          · have tc_11 : x3.toInt < 20 := tb_ge_f c_11
            obtain ⟨x3_12, ex3_12⟩ : ∃ y : Int32, y = x3 + (1) := ⟨_, rfl⟩
            refine lv_iinc (v := x3_12) (lv' := [(3, .int x3_12), (6, .int r_8), (2, .int y_6), (0, .ref ra), (1, .int p0), (4, .int x4), (5, .int x5)]) hx hb dX2_depthOf_50 hl (k := 4) rfl (by rw [ex3_12]; rfl) (by decide) rfl (fun ls hl => ?_)
            have tex3_12 : x3_12.toInt = x3.toInt + (1) := ti_inc ex3_12 (by decide) (by omega) (by omega)
            refine lv_aload_n hx hb dX2_depthOf_53 rfl (lv_at hl 3 rfl) ?_
            refine va_get (D := (dC, dI)) (ci := 2) (v := .ref ra3) (C := RX2) (T := TX2) (N := 4) hx hb hts kk5_ hown hK hP 0 rfl rfl 2 (by decide) kk4_ (fun _ h9 => h9) rfl dX2_depthOf_54 ?_
            refine lv_iload_n hx hb dX2_depthOf_57 rfl (lv_at hl 0 rfl) ?_
            refine lv_iload hx hb dX2_depthOf_58 (lv_at hl 1 rfl) ?_
            refine va_iast hx hb hK hP hD hS 3 0 rfl rfl (vp_in_iff.mpr ⟨by omega, by omega⟩) dX2_depthOf_60 (fun H locs hP hD hS => ?_)
            have hP : va_P (dC, dI) vwCl [(ra, .inr (2, [.ref ra1, .ref ra2, .ref ra3, .int ra_u])), (ra1, .inl (cI, ra_n * 20, .inl ra_c)), (ra2, .inl (cI, ra_n, .inl ra_l)), (ra3, .inl (cI, 21, .inl (upd ra_o (x3_12).toNatClampNeg r_8)))] H := hP
            have hD : va_D (va_A (ww_X2_depthOf dC dI cI cJ cB ra ra1 ra2 ra3 s.heap.size ra_n ra_u ra_c ra_l ra_o0 p0) s.heap.size) [(ra, .inr (2, [.ref ra1, .ref ra2, .ref ra3, .int ra_u])), (ra1, .inl (cI, ra_n * 20, .inl ra_c)), (ra2, .inl (cI, ra_n, .inl ra_l)), (ra3, .inl (cI, 21, .inl (upd ra_o (x3_12).toNatClampNeg r_8)))] := hD
            obtain ⟨f_13, ef_13⟩ : ∃ z, z = upd ra_o (x3_12).toNatClampNeg r_8 := ⟨_, rfl⟩
            rw [← ef_13] at hP hD
            refine lv_goto (tgt := 70) hx hb dX2_depthOf_61 (by decide) ?_
            obtain ⟨x5_14, ex5_14⟩ : ∃ y : Int32, y = x5 + (1) := ⟨_, rfl⟩
            refine lv_iinc (v := x5_14) (lv' := [(5, .int x5_14), (3, .int x3_12), (6, .int r_8), (2, .int y_6), (0, .ref ra), (1, .int p0), (4, .int x4)]) hx hb dX2_depthOf_70 hl (k := 6) rfl (by rw [ex5_14]; rfl) (by decide) rfl (fun ls hl => ?_)
            have := ti_rng x5
            have tex5_14 : x5_14.toInt = x5.toInt + (1) := ti_inc ex5_14 (by decide) (by omega) (by omega)
            refine lv_goto (tgt := 14) hx hb dX2_depthOf_73 (by decide) ?_
            exact ih_14 y_6 x3_12 x4 x5_14 f_13 (by first | assumption | omega | decide | (simp only [lt0, lt1, ltm1, lt400] at *; omega)) (by omega) _ _ (hP.sub [0, 1, 2, 3] rfl) (hD.sub [0, 1, 2, 3] (by decide) rfl) hS ls (lv_sub hl [4, 5, 3, 1, 6, 0] rfl)
  refine lv_iconst (v := 0) hx hb dX2_depthOf_0 (by decide) ?_
  refine lv_istore_n (lv' := [(2, .int ((0 : Int32))), (0, .ref ra), (1, .int p0)]) hx hb dX2_depthOf_1 rfl hl (by decide) rfl (fun ls hl => ?_)
  refine lv_iconst (v := 0) hx hb dX2_depthOf_2 (by decide) ?_
  refine lv_istore_n (lv' := [(3, .int ((0 : Int32))), (2, .int ((0 : Int32))), (0, .ref ra), (1, .int p0)]) hx hb dX2_depthOf_3 rfl hl (by decide) rfl (fun ls hl => ?_)
  refine lv_aload_n hx hb dX2_depthOf_4 rfl (lv_at hl 2 rfl) ?_
  refine lv_iload_n hx hb dX2_depthOf_5 rfl (lv_at hl 3 rfl) ?_
  have hPc := hP.sub (ws' := [(ra, .inr (2, [.ref ra1, .ref ra2, .ref ra3, .int ra_u])), (ra1, .inl (cI, ra_n * 20, .inl ra_c)), (ra2, .inl (cI, ra_n, .inl ra_l)), (ra3, .inl (cI, 21, .inl ra_o0))]) [0, 1, 2, 3] rfl
  have hDc := hD.sub (ws' := [(ra, .inr (2, [.ref ra1, .ref ra2, .ref ra3, .int ra_u])), (ra1, .inl (cI, ra_n * 20, .inl ra_c)), (ra2, .inl (cI, ra_n, .inl ra_l)), (ra3, .inl (cI, 21, .inl ra_o0))]) [0, 1, 2, 3] (by decide) rfl
  have hFc := va_free (wc := [(ra, .inr (2, [.ref ra1, .ref ra2, .ref ra3, .int ra_u])), (ra1, .inl (cI, ra_n * 20, .inl ra_c)), (ra2, .inl (cI, ra_n, .inl ra_l)), (ra3, .inl (cI, 21, .inl ra_o0))]) hD hS hA [0, 1, 2, 3] rfl
  refine va_calli (va_runV (As := [.int p0]) (rest := []) ⟨hx, hb, hml, hown, hts⟩ (c_X2_lengthOf l dC dI cI cJ cB ra ra1 ra2 ra3 H.size ra_n ra_u ra_c ra_l ra_o0 p0 (by first | assumption | omega | decide | (simp only [lt0, lt1, ltm1, lt400] at *; omega))) (cwV 1 hts go_wo_X2_depthOf_4 rfl rfl rfl (by decide +kernel) ⟨Nat.le_of_ble_eq_true rfl, Nat.le_of_ble_eq_true rfl⟩) ⟨fun a U g mk q => by obtain ⟨q0, q1, qN, qP, qK, qD⟩ := q; exact ⟨q0, q1, NW.calling qN, qP, va_K.moved (u := U) (U := U.calling g mk a) (Vm.Alike.refl U.vm) qK, qD⟩, va_recv hK hPc (ci := 2) (q0 := 0) rfl rfl, fun U hU hW => ⟨rfl, by rw [hU], NW.warm hW hnw, by rw [hU]; exact hPc, va_K.moved hW.alike hK, hDc.weaken (fun _ _ _ _ => trivial)⟩⟩ rfl rfl hl.1 rfl (lv_room (Nat.le_of_ble_eq_true rfl)) dX2_depthOf_6 ⟨Nat.zero_le _, Nat.zero_le _⟩) hS (fun q _ h => hFc q h) hFc (fun r_15 u t H1 locs ht hvm hw hB hz1 hk1 hS => ?_)
  cases u
  obtain ⟨hP1, hK1, hD1⟩ := hB
  rw [ht] at hP1
  clear hw
  obtain ⟨hP, hD⟩ := va_join (wr := []) (w1 := [(ra, .inr (2, [.ref ra1, .ref ra2, .ref ra3, .int ra_u])), (ra1, .inl (cI, ra_n * 20, .inl ra_c)), (ra2, .inl (cI, ra_n, .inl ra_l)), (ra3, .inl (cI, 21, .inl ra_o0))]) hP hD [0, 1, 2, 3] [] rfl rfl (by decide) (by decide) hk1 hFc hP1 hD1
  generalize H1 = H at hP hS ⊢
  have hP : va_P (dC, dI) vwCl [(ra, .inr (2, [.ref ra1, .ref ra2, .ref ra3, .int ra_u])), (ra1, .inl (cI, ra_n * 20, .inl ra_c)), (ra2, .inl (cI, ra_n, .inl ra_l)), (ra3, .inl (cI, 21, .inl ra_o0))] H := hP
  have hD : va_D (va_A (ww_X2_depthOf dC dI cI cJ cB ra ra1 ra2 ra3 s.heap.size ra_n ra_u ra_c ra_l ra_o0 p0) s.heap.size) [(ra, .inr (2, [.ref ra1, .ref ra2, .ref ra3, .int ra_u])), (ra1, .inl (cI, ra_n * 20, .inl ra_c)), (ra2, .inl (cI, ra_n, .inl ra_l)), (ra3, .inl (cI, 21, .inl ra_o0))] := hD
  clear hPc hDc hFc hP1 hK1 hD1 hk1 hz1 ht hvm
  refine lv_istore (lv' := [(4, .int r_15), (3, .int ((0 : Int32))), (2, .int ((0 : Int32))), (0, .ref ra), (1, .int p0)]) hx hb dX2_depthOf_9 hl (by decide) rfl (fun ls hl => ?_)
  refine lv_iconst (v := 0) hx hb dX2_depthOf_11 (by decide) ?_
  refine lv_istore (lv' := [(5, .int ((0 : Int32))), (4, .int r_15), (3, .int ((0 : Int32))), (2, .int ((0 : Int32))), (0, .ref ra), (1, .int p0)]) hx hb dX2_depthOf_12 hl (by decide) rfl (fun ls hl => ?_)
  exact L_14 (((2147483647 - ((0 : Int32)).toInt).toNat) + 1) ((0 : Int32)) ((0 : Int32)) r_15 ((0 : Int32)) ra_o0 (by first | assumption | omega | decide | (simp only [lt0, lt1, ltm1, lt400] at *; omega)) (Nat.lt_succ_self _) _ _ (hP.sub [0, 1, 2, 3] rfl) (hD.sub [0, 1, 2, 3] (by decide) rfl) hS ls (lv_sub hl [4, 5, 3, 2, 1, 0] rfl)
def wo_X2_variablesIn : List Cond := .code yX2_variablesIn cX2_variablesIn 5 (some .int) :: (([] : List Cond) ++ ((wsV RX2 34 RX2 yX2_lengthOf wo_X2_lengthOf) ++ ((wsV RX2 46 RX2 yX2_cellAt wo_X2_cellAt))))
set_option maxRecDepth 20000 in
theorem go_wo_X2_variablesIn_0 : GoodIn wo_X2_variablesIn (wsV RX2 34 RX2 yX2_lengthOf wo_X2_lengthOf) := goodIn_sub (fun _ h => (List.mem_cons_of_mem _ (List.mem_append_right _ (List.mem_append_left _ h)))) (by decide +kernel)
set_option maxRecDepth 20000 in
theorem go_wo_X2_variablesIn_1 : GoodIn wo_X2_variablesIn (wsV RX2 46 RX2 yX2_cellAt wo_X2_cellAt) := goodIn_sub (fun _ h => (List.mem_cons_of_mem _ (List.mem_append_right _ (List.mem_append_right _ h)))) (by decide +kernel)
abbrev ww_X2_variablesIn (dC : Nat → ClassId) (dI : Nat → Nat → Nat) (cI cJ cB : ClassId) (ra ra1 ra2 ra3 : Nat) (sz : Nat) (ra_n : Nat) (ra_u : Int32) (ra_c : Nat → Int32) (ra_l : Nat → Int32) (ra_o : Nat → Int32) (p0 : Int32) : va_W := [(ra, .inr (2, [.ref ra1, .ref ra2, .ref ra3, .int ra_u])), (ra1, .inl (cI, ra_n * 20, .inl ra_c)), (ra2, .inl (cI, ra_n, .inl ra_l)), (ra3, .inl (cI, 21, .inl ra_o))]
abbrev at_X2_variablesIn (dC : Nat → ClassId) (dI : Nat → Nat → Nat) (cI cJ cB : ClassId) (ra ra1 ra2 ra3 : Nat) (sz : Nat) (ra_n : Nat) (ra_u : Int32) (ra_c : Nat → Int32) (ra_l : Nat → Int32) (ra_o : Nat → Int32) (p0 : Int32) (u : Unit) (t : State) : Prop := match u with
  | () => va_P (dC, dI) vwCl [(ra, .inr (2, [.ref ra1, .ref ra2, .ref ra3, .int ra_u])), (ra1, .inl (cI, ra_n * 20, .inl ra_c)), (ra2, .inl (cI, ra_n, .inl ra_l)), (ra3, .inl (cI, 21, .inl ra_o))] t.heap ∧ va_K (dC, dI) vwCl (tyL cI cJ cB) t ∧ va_D (va_A (ww_X2_variablesIn dC dI cI cJ cB ra ra1 ra2 ra3 sz ra_n ra_u ra_c ra_l ra_o p0) sz) [(ra, .inr (2, [.ref ra1, .ref ra2, .ref ra3, .int ra_u])), (ra1, .inl (cI, ra_n * 20, .inl ra_c)), (ra2, .inl (cI, ra_n, .inl ra_l)), (ra3, .inl (cI, 21, .inl ra_o))]
abbrev qc_X2_variablesIn (dC : Nat → ClassId) (dI : Nat → Nat → Nat) (cI cJ cB : ClassId) (ra ra1 ra2 ra3 : Nat) (sz : Nat) (ra_n : Nat) (ra_u : Int32) (ra_c : Nat → Int32) (ra_l : Nat → Int32) (ra_o : Nat → Int32) (p0 : Int32) : Array Value → State → Outcome → State → Prop := va_Qi (fun (r : Int32) (u : Unit) => match u with | () => True) (at_X2_variablesIn dC dI cI cJ cB ra ra1 ra2 ra3 sz ra_n ra_u ra_c ra_l ra_o p0) (va_A (ww_X2_variablesIn dC dI cI cJ cB ra ra1 ra2 ra3 sz ra_n ra_u ra_c ra_l ra_o p0) sz)
abbrev pc_X2_variablesIn (dC : Nat → ClassId) (dI : Nat → Nat → Nat) (cI cJ cB : ClassId) (ra ra1 ra2 ra3 : Nat) (sz : Nat) (ra_n : Nat) (ra_u : Int32) (ra_c : Nat → Int32) (ra_l : Nat → Int32) (ra_o : Nat → Int32) (p0 : Int32) : Array Value → State → Prop := va_Pc [.ref ra, .int p0] (fun U => U.heap.size = sz ∧ NW U ∧ va_P (dC, dI) vwCl (ww_X2_variablesIn dC dI cI cJ cB ra ra1 ra2 ra3 sz ra_n ra_u ra_c ra_l ra_o p0) U.heap ∧ va_K (dC, dI) vwCl (tyL cI cJ cB) U ∧ va_D (fun _ => True) (ww_X2_variablesIn dC dI cI cJ cB ra ra1 ra2 ra3 sz ra_n ra_u ra_c ra_l ra_o p0))
abbrev rm_X2_variablesIn : Room := { frames := 1, cells := 0, slots := 0, locals := 23 }
abbrev WW_X2_variablesIn (p : Program) (l : Launch) (e : Env) (s : State) (m : MethodId) (below : List Frame) (meth : Method) (c : Code) (dC : Nat → ClassId) (dI : Nat → Nat → Nat) (cI cJ cB : ClassId) (ra ra1 ra2 ra3 : Nat) (sz : Nat) (ra_n : Nat) (ra_u : Int32) (ra_c : Nat → Int32) (ra_l : Nat → Int32) (ra_o : Nat → Int32) (p0 : Int32) (H : Heap) (locs : List Loc) (g : JFrame) : Prop := W p l e rm_X2_variablesIn s m ([.ref ra, .int p0] : List Value).toArray below meth c H locs 0 0 (MQ below (qc_X2_variablesIn dC dI cI cJ cB ra ra1 ra2 ra3 sz ra_n ra_u ra_c ra_l ra_o p0) ([.ref ra, .int p0] : List Value).toArray s 0 0 (va_A (ww_X2_variablesIn dC dI cI cJ cB ra ra1 ra2 ra3 sz ra_n ra_u ra_c ra_l ra_o p0) sz)) g
set_option maxHeartbeats 4000000 in
set_option maxRecDepth 100000 in
theorem c_X2_variablesIn (l : Launch) (dC : Nat → ClassId) (dI : Nat → Nat → Nat) (cI cJ cB : ClassId) (ra ra1 ra2 ra3 : Nat) (sz : Nat) (ra_n : Nat) (ra_u : Int32) (ra_c : Nat → Int32) (ra_l : Nat → Int32) (ra_o : Nat → Int32) (p0 : Int32) (hn_ra : 1 ≤ ra_n ∧ ra_n ≤ 201) : Met l yX2_variablesIn wo_X2_variablesIn rm_X2_variablesIn (pc_X2_variablesIn dC dI cI cJ cB ra ra1 ra2 ra3 sz ra_n ra_u ra_c ra_l ra_o p0) (qc_X2_variablesIn dC dI cI cJ cB ra ra1 ra2 ra3 sz ra_n ra_u ra_c ra_l ra_o p0) 0 0 (va_A (ww_X2_variablesIn dC dI cI cJ cB ra ra1 ra2 ra3 sz ra_n ra_u ra_c ra_l ra_o p0) sz) := by
  refine Met.ofW (cc := cX2_variablesIn) (maxL := 5) (ret := (some .int)) (by decide) rfl ?_
  intro p e s m args below meth c s₁ B hml hv
  obtain ⟨rfl, hsz, hnw, hP, hK, hD0⟩ := hv
  have hx := B.exec
  have hb := B.bytes
  have hr := B.returns
  have hts := atoms_spec (ws := wo_X2_variablesIn) B.pre
  have hown : s.vm.findClass RX2 = some m.cls := findClass_of_methodNamed B.named
  have hlocks := B.notSynchronized
  clear B
  subst hsz
  have hD := hD0.self (sz := s.heap.size)
  clear hD0
  have hA : ∀ q : Nat, s.heap.size ≤ q → (va_A (ww_X2_variablesIn dC dI cI cJ cB ra ra1 ra2 ra3 s.heap.size ra_n ra_u ra_c ra_l ra_o p0) s.heap.size) q := fun q h => Or.inr h
  have hS : va_S (va_A (ww_X2_variablesIn dC dI cI cJ cB ra ra1 ra2 ra3 s.heap.size ra_n ra_u ra_c ra_l ra_o p0) s.heap.size) s.heap s.heap [] := va_S.rf
  have hl := lv_entry ([.ref ra, .int p0]) (n := 5) (Nat.le_of_ble_eq_true rfl)
  rw [lg_entry_eq]
  generalize (lg_sl ([.ref ra, .int p0]) ++ List.replicate (5 - (lg_sl ([.ref ra, .int p0])).length) Slot.unset).toArray = ls at hl ⊢
  have hl : lv_has ls 5 [(0, .ref ra), (1, .int p0)] := hl
  have hP : va_P (dC, dI) vwCl [(ra, .inr (2, [.ref ra1, .ref ra2, .ref ra3, .int ra_u])), (ra1, .inl (cI, ra_n * 20, .inl ra_c)), (ra2, .inl (cI, ra_n, .inl ra_l)), (ra3, .inl (cI, 21, .inl ra_o))] s.heap := hP
  have hD : va_D (va_A (ww_X2_variablesIn dC dI cI cJ cB ra ra1 ra2 ra3 s.heap.size ra_n ra_u ra_c ra_l ra_o p0) s.heap.size) [(ra, .inr (2, [.ref ra1, .ref ra2, .ref ra3, .int ra_u])), (ra1, .inl (cI, ra_n * 20, .inl ra_c)), (ra2, .inl (cI, ra_n, .inl ra_l)), (ra3, .inl (cI, 21, .inl ra_o))] := hD
  obtain ⟨H, hH⟩ : ∃ H, H = s.heap := ⟨_, rfl⟩
  obtain ⟨locs, hlc⟩ : ∃ L : List Loc, L = [] := ⟨_, rfl⟩
  have hS : va_S (va_A (ww_X2_variablesIn dC dI cI cJ cB ra ra1 ra2 ra3 s.heap.size ra_n ra_u ra_c ra_l ra_o p0) s.heap.size) s.heap H locs := by rw [hH, hlc]; exact hS
  have hP : va_P (dC, dI) vwCl [(ra, .inr (2, [.ref ra1, .ref ra2, .ref ra3, .int ra_u])), (ra1, .inl (cI, ra_n * 20, .inl ra_c)), (ra2, .inl (cI, ra_n, .inl ra_l)), (ra3, .inl (cI, 21, .inl ra_o))] H := by rw [hH]; exact hP
  suffices hgo : WW_X2_variablesIn p l e s m below meth c dC dI cI cJ cB ra ra1 ra2 ra3 s.heap.size ra_n ra_u ra_c ra_l ra_o p0 H locs (F0 m 0 ls []) by rw [hH, hlc] at hgo; exact hgo
  clear hH hlc
  have L_4 : ∀ (N_4 : Nat), ∀ (x2 : Int32) (x3 : Int32), ((2147483647 - x3.toInt).toNat) < N_4 → ∀ (H : Heap) (locs : List Loc), va_P (dC, dI) vwCl [(ra, .inr (2, [.ref ra1, .ref ra2, .ref ra3, .int ra_u])), (ra1, .inl (cI, ra_n * 20, .inl ra_c)), (ra2, .inl (cI, ra_n, .inl ra_l)), (ra3, .inl (cI, 21, .inl ra_o))] H → va_D (va_A (ww_X2_variablesIn dC dI cI cJ cB ra ra1 ra2 ra3 s.heap.size ra_n ra_u ra_c ra_l ra_o p0) s.heap.size) [(ra, .inr (2, [.ref ra1, .ref ra2, .ref ra3, .int ra_u])), (ra1, .inl (cI, ra_n * 20, .inl ra_c)), (ra2, .inl (cI, ra_n, .inl ra_l)), (ra3, .inl (cI, 21, .inl ra_o))] → va_S (va_A (ww_X2_variablesIn dC dI cI cJ cB ra ra1 ra2 ra3 s.heap.size ra_n ra_u ra_c ra_l ra_o p0) s.heap.size) s.heap H locs → ∀ ls : Array Slot, lv_has ls 5 [(0, .ref ra), (1, .int p0), (2, .int x2), (3, .int x3)] → WW_X2_variablesIn p l e s m below meth c dC dI cI cJ cB ra ra1 ra2 ra3 s.heap.size ra_n ra_u ra_c ra_l ra_o p0 H locs (F0 m 4 ls []) := by
    intro N_4
    induction N_4 with
    | zero => intro x2 x3  hm; exact absurd hm (Nat.not_lt_zero _)
    | succ N_4 ih_4 =>
      intro x2 x3  hm_4 H locs hP hD hS ls hl
      refine lv_iload_n hx hb dX2_variablesIn_4 rfl (lv_at hl 3 rfl) ?_
      refine lv_aload_n hx hb dX2_variablesIn_5 rfl (lv_at hl 0 rfl) ?_
      refine lv_iload_n hx hb dX2_variablesIn_6 rfl (lv_at hl 1 rfl) ?_
      have hPc := hP.sub (ws' := [(ra, .inr (2, [.ref ra1, .ref ra2, .ref ra3, .int ra_u])), (ra1, .inl (cI, ra_n * 20, .inl ra_c)), (ra2, .inl (cI, ra_n, .inl ra_l)), (ra3, .inl (cI, 21, .inl ra_o))]) [0, 1, 2, 3] rfl
      have hDc := hD.sub (ws' := [(ra, .inr (2, [.ref ra1, .ref ra2, .ref ra3, .int ra_u])), (ra1, .inl (cI, ra_n * 20, .inl ra_c)), (ra2, .inl (cI, ra_n, .inl ra_l)), (ra3, .inl (cI, 21, .inl ra_o))]) [0, 1, 2, 3] (by decide) rfl
      have hFc := va_free (wc := [(ra, .inr (2, [.ref ra1, .ref ra2, .ref ra3, .int ra_u])), (ra1, .inl (cI, ra_n * 20, .inl ra_c)), (ra2, .inl (cI, ra_n, .inl ra_l)), (ra3, .inl (cI, 21, .inl ra_o))]) hD hS hA [0, 1, 2, 3] rfl
      refine va_calli (va_runV (As := [.int p0]) (rest := [.int x3]) ⟨hx, hb, hml, hown, hts⟩ (c_X2_lengthOf l dC dI cI cJ cB ra ra1 ra2 ra3 H.size ra_n ra_u ra_c ra_l ra_o p0 (by first | assumption | omega | decide | (simp only [lt0, lt1, ltm1, lt400] at *; omega))) (cwV 1 hts go_wo_X2_variablesIn_0 rfl rfl rfl (by decide +kernel) ⟨Nat.le_of_ble_eq_true rfl, Nat.le_of_ble_eq_true rfl⟩) ⟨fun a U g mk q => by obtain ⟨q0, q1, qN, qP, qK, qD⟩ := q; exact ⟨q0, q1, NW.calling qN, qP, va_K.moved (u := U) (U := U.calling g mk a) (Vm.Alike.refl U.vm) qK, qD⟩, va_recv hK hPc (ci := 2) (q0 := 0) rfl rfl, fun U hU hW => ⟨rfl, by rw [hU], NW.warm hW hnw, by rw [hU]; exact hPc, va_K.moved hW.alike hK, hDc.weaken (fun _ _ _ _ => trivial)⟩⟩ rfl rfl hl.1 rfl (lv_room (Nat.le_of_ble_eq_true rfl)) dX2_variablesIn_7 ⟨Nat.zero_le _, Nat.zero_le _⟩) hS (fun q _ h => hFc q h) hFc (fun r_1 u t H1 locs ht hvm hw hB hz1 hk1 hS => ?_)
      cases u
      obtain ⟨hP1, hK1, hD1⟩ := hB
      rw [ht] at hP1
      clear hw
      obtain ⟨hP, hD⟩ := va_join (wr := []) (w1 := [(ra, .inr (2, [.ref ra1, .ref ra2, .ref ra3, .int ra_u])), (ra1, .inl (cI, ra_n * 20, .inl ra_c)), (ra2, .inl (cI, ra_n, .inl ra_l)), (ra3, .inl (cI, 21, .inl ra_o))]) hP hD [0, 1, 2, 3] [] rfl rfl (by decide) (by decide) hk1 hFc hP1 hD1
      generalize H1 = H at hP hS ⊢
      have hP : va_P (dC, dI) vwCl [(ra, .inr (2, [.ref ra1, .ref ra2, .ref ra3, .int ra_u])), (ra1, .inl (cI, ra_n * 20, .inl ra_c)), (ra2, .inl (cI, ra_n, .inl ra_l)), (ra3, .inl (cI, 21, .inl ra_o))] H := hP
      have hD : va_D (va_A (ww_X2_variablesIn dC dI cI cJ cB ra ra1 ra2 ra3 s.heap.size ra_n ra_u ra_c ra_l ra_o p0) s.heap.size) [(ra, .inr (2, [.ref ra1, .ref ra2, .ref ra3, .int ra_u])), (ra1, .inl (cI, ra_n * 20, .inl ra_c)), (ra2, .inl (cI, ra_n, .inl ra_l)), (ra3, .inl (cI, 21, .inl ra_o))] := hD
      clear hPc hDc hFc hP1 hK1 hD1 hk1 hz1 ht hvm
      refine lv_icmp_ge (tgt := 45) hx hb dX2_variablesIn_10 (by decide) (fun c_2 => ?_) (fun c_2 => ?_)
      · have tc_2 : r_1.toInt ≤ x3.toInt := tb_ge_t c_2
        have := ti_rng x3
        have := ti_rng r_1
        refine lv_iload_n hx hb dX2_variablesIn_45 rfl (lv_at hl 2 rfl) ?_
        have hP9 := hP.sub (ws' := [(ra, .inr (2, [.ref ra1, .ref ra2, .ref ra3, .int ra_u])), (ra1, .inl (cI, ra_n * 20, .inl ra_c)), (ra2, .inl (cI, ra_n, .inl ra_l)), (ra3, .inl (cI, 21, .inl ra_o))]) [0, 1, 2, 3] rfl
        have hD9 := hD.sub (ws' := [(ra, .inr (2, [.ref ra1, .ref ra2, .ref ra3, .int ra_u])), (ra1, .inl (cI, ra_n * 20, .inl ra_c)), (ra2, .inl (cI, ra_n, .inl ra_l)), (ra3, .inl (cI, 21, .inl ra_o))]) [0, 1, 2, 3] (by decide) rfl
        exact W.iret (v := x2) hx hb hr (fun t ht hW => ⟨⟨x2, (), rfl, trivial, by rw [ht]; exact hP9, va_K.moved hW.alike hK, hD9⟩, hS.F ht⟩) hS.2.2 dX2_variablesIn_46
      · have tc_2 : x3.toInt < r_1.toInt := tb_ge_f c_2
        have := ti_rng x3
        have := ti_rng r_1
        refine lv_aload_n hx hb dX2_variablesIn_13 rfl (lv_at hl 0 rfl) ?_
        refine lv_iload_n hx hb dX2_variablesIn_14 rfl (lv_at hl 1 rfl) ?_
        refine lv_iload_n hx hb dX2_variablesIn_15 rfl (lv_at hl 3 rfl) ?_
        have hPc := hP.sub (ws' := [(ra, .inr (2, [.ref ra1, .ref ra2, .ref ra3, .int ra_u])), (ra1, .inl (cI, ra_n * 20, .inl ra_c)), (ra2, .inl (cI, ra_n, .inl ra_l)), (ra3, .inl (cI, 21, .inl ra_o))]) [0, 1, 2, 3] rfl
        have hDc := hD.sub (ws' := [(ra, .inr (2, [.ref ra1, .ref ra2, .ref ra3, .int ra_u])), (ra1, .inl (cI, ra_n * 20, .inl ra_c)), (ra2, .inl (cI, ra_n, .inl ra_l)), (ra3, .inl (cI, 21, .inl ra_o))]) [0, 1, 2, 3] (by decide) rfl
        have hFc := va_free (wc := [(ra, .inr (2, [.ref ra1, .ref ra2, .ref ra3, .int ra_u])), (ra1, .inl (cI, ra_n * 20, .inl ra_c)), (ra2, .inl (cI, ra_n, .inl ra_l)), (ra3, .inl (cI, 21, .inl ra_o))]) hD hS hA [0, 1, 2, 3] rfl
        refine va_calli (va_runV (As := [.int p0, .int x3]) (rest := []) ⟨hx, hb, hml, hown, hts⟩ (c_X2_cellAt l dC dI cI cJ cB ra ra1 ra2 ra3 H.size ra_n ra_u ra_c ra_l ra_o p0 x3 (by first | assumption | omega | decide | (simp only [lt0, lt1, ltm1, lt400] at *; omega))) (cwV 2 hts go_wo_X2_variablesIn_1 rfl rfl rfl (by decide +kernel) ⟨Nat.le_of_ble_eq_true rfl, Nat.le_of_ble_eq_true rfl⟩) ⟨fun a U g mk q => by obtain ⟨q0, q1, qN, qP, qK, qD⟩ := q; exact ⟨q0, q1, NW.calling qN, qP, va_K.moved (u := U) (U := U.calling g mk a) (Vm.Alike.refl U.vm) qK, qD⟩, va_recv hK hPc (ci := 2) (q0 := 0) rfl rfl, fun U hU hW => ⟨rfl, by rw [hU], NW.warm hW hnw, by rw [hU]; exact hPc, va_K.moved hW.alike hK, hDc.weaken (fun _ _ _ _ => trivial)⟩⟩ rfl rfl hl.1 rfl (lv_room (Nat.le_of_ble_eq_true rfl)) dX2_variablesIn_16 ⟨Nat.zero_le _, Nat.zero_le _⟩) hS (fun q _ h => hFc q h) hFc (fun r_3 u t H1 locs ht hvm hw hB hz1 hk1 hS => ?_)
        cases u
        obtain ⟨hP1, hK1, hD1⟩ := hB
        rw [ht] at hP1
        clear hw
        obtain ⟨hP, hD⟩ := va_join (wr := []) (w1 := [(ra, .inr (2, [.ref ra1, .ref ra2, .ref ra3, .int ra_u])), (ra1, .inl (cI, ra_n * 20, .inl ra_c)), (ra2, .inl (cI, ra_n, .inl ra_l)), (ra3, .inl (cI, 21, .inl ra_o))]) hP hD [0, 1, 2, 3] [] rfl rfl (by decide) (by decide) hk1 hFc hP1 hD1
        generalize H1 = H at hP hS ⊢
        have hP : va_P (dC, dI) vwCl [(ra, .inr (2, [.ref ra1, .ref ra2, .ref ra3, .int ra_u])), (ra1, .inl (cI, ra_n * 20, .inl ra_c)), (ra2, .inl (cI, ra_n, .inl ra_l)), (ra3, .inl (cI, 21, .inl ra_o))] H := hP
        have hD : va_D (va_A (ww_X2_variablesIn dC dI cI cJ cB ra ra1 ra2 ra3 s.heap.size ra_n ra_u ra_c ra_l ra_o p0) s.heap.size) [(ra, .inr (2, [.ref ra1, .ref ra2, .ref ra3, .int ra_u])), (ra1, .inl (cI, ra_n * 20, .inl ra_c)), (ra2, .inl (cI, ra_n, .inl ra_l)), (ra3, .inl (cI, 21, .inl ra_o))] := hD
        clear hPc hDc hFc hP1 hK1 hD1 hk1 hz1 ht hvm
        refine lv_istore (lv' := [(4, .int r_3), (0, .ref ra), (1, .int p0), (2, .int x2), (3, .int x3)]) hx hb dX2_variablesIn_19 hl (by decide) rfl (fun ls hl => ?_)
        refine lv_iload_n hx hb dX2_variablesIn_21 rfl (lv_at hl 3 rfl) ?_
        refine lv_iload hx hb dX2_variablesIn_22 (lv_at hl 0 rfl) ?_
        refine lv_bipush (v := 8) hx hb dX2_variablesIn_24 (by decide) ?_
        refine lv_icmp_ge (tgt := 36) hx hb dX2_variablesIn_26 (by decide) (fun c_4 => ?_) (fun c_4 => ?_)
        · have tc_4 : 8 ≤ r_3.toInt := tb_ge_t c_4
          refine lv_iconst (v := 0) hx hb dX2_variablesIn_36 (by decide) ?_
          refine lv_ior hx hb dX2_variablesIn_37 ?_
          refine lv_topi (fun y_5 ey_5 => ?_)
          refine lv_istore_n (lv' := [(2, .int y_5), (4, .int r_3), (0, .ref ra), (1, .int p0), (3, .int x3)]) hx hb dX2_variablesIn_38 rfl hl (by decide) rfl (fun ls hl => ?_)
          obtain ⟨x3_6, ex3_6⟩ : ∃ y : Int32, y = x3 + (1) := ⟨_, rfl⟩
          refine lv_iinc (v := x3_6) (lv' := [(3, .int x3_6), (2, .int y_5), (4, .int r_3), (0, .ref ra), (1, .int p0)]) hx hb dX2_variablesIn_39 hl (k := 4) rfl (by rw [ex3_6]; rfl) (by decide) rfl (fun ls hl => ?_)
          have := ti_rng x3
          have tex3_6 : x3_6.toInt = x3.toInt + (1) := ti_inc ex3_6 (by decide) (by omega) (by omega)
          refine lv_goto (tgt := 4) hx hb dX2_variablesIn_42 (by decide) ?_
          exact ih_4 y_5 x3_6 (by omega) _ _ (hP.sub [0, 1, 2, 3] rfl) (hD.sub [0, 1, 2, 3] (by decide) rfl) hS ls (lv_sub hl [3, 4, 1, 0] rfl)
        · have tc_4 : r_3.toInt < 8 := tb_ge_f c_4
          refine lv_iconst (v := 1) hx hb dX2_variablesIn_29 (by decide) ?_
          refine lv_iload hx hb dX2_variablesIn_30 (lv_at hl 0 rfl) ?_
          refine lv_ishl hx hb dX2_variablesIn_32 ?_
          refine lv_topi (fun y_7 ey_7 => ?_)
          refine lv_goto (tgt := 37) hx hb dX2_variablesIn_33 (by decide) ?_
          refine lv_ior hx hb dX2_variablesIn_37 ?_
          refine lv_topi (fun y_8 ey_8 => ?_)
          refine lv_istore_n (lv' := [(2, .int y_8), (4, .int r_3), (0, .ref ra), (1, .int p0), (3, .int x3)]) hx hb dX2_variablesIn_38 rfl hl (by decide) rfl (fun ls hl => ?_)
          obtain ⟨x3_9, ex3_9⟩ : ∃ y : Int32, y = x3 + (1) := ⟨_, rfl⟩
          refine lv_iinc (v := x3_9) (lv' := [(3, .int x3_9), (2, .int y_8), (4, .int r_3), (0, .ref ra), (1, .int p0)]) hx hb dX2_variablesIn_39 hl (k := 4) rfl (by rw [ex3_9]; rfl) (by decide) rfl (fun ls hl => ?_)
          have := ti_rng x3
          have tex3_9 : x3_9.toInt = x3.toInt + (1) := ti_inc ex3_9 (by decide) (by omega) (by omega)
          refine lv_goto (tgt := 4) hx hb dX2_variablesIn_42 (by decide) ?_
          exact ih_4 y_8 x3_9 (by omega) _ _ (hP.sub [0, 1, 2, 3] rfl) (hD.sub [0, 1, 2, 3] (by decide) rfl) hS ls (lv_sub hl [3, 4, 1, 0] rfl)
  refine lv_iconst (v := 0) hx hb dX2_variablesIn_0 (by decide) ?_
  refine lv_istore_n (lv' := [(2, .int ((0 : Int32))), (0, .ref ra), (1, .int p0)]) hx hb dX2_variablesIn_1 rfl hl (by decide) rfl (fun ls hl => ?_)
  refine lv_iconst (v := 0) hx hb dX2_variablesIn_2 (by decide) ?_
  refine lv_istore_n (lv' := [(3, .int ((0 : Int32))), (2, .int ((0 : Int32))), (0, .ref ra), (1, .int p0)]) hx hb dX2_variablesIn_3 rfl hl (by decide) rfl (fun ls hl => ?_)
  exact L_4 (((2147483647 - ((0 : Int32)).toInt).toNat) + 1) ((0 : Int32)) ((0 : Int32)) (Nat.lt_succ_self _) _ _ (hP.sub [0, 1, 2, 3] rfl) (hD.sub [0, 1, 2, 3] (by decide) rfl) hS ls (lv_sub hl [2, 3, 1, 0] rfl)
def wo_X2_timesOfVariables : List Cond := .code yX2_timesOfVariables cX2_timesOfVariables 4 (some .int) :: (([] : List Cond) ++ ((wsV RX2 34 RX2 yX2_lengthOf wo_X2_lengthOf) ++ ((wsV RX2 46 RX2 yX2_cellAt wo_X2_cellAt))))
set_option maxRecDepth 20000 in
theorem go_wo_X2_timesOfVariables_0 : GoodIn wo_X2_timesOfVariables (wsV RX2 34 RX2 yX2_lengthOf wo_X2_lengthOf) := goodIn_sub (fun _ h => (List.mem_cons_of_mem _ (List.mem_append_right _ (List.mem_append_left _ h)))) (by decide +kernel)
set_option maxRecDepth 20000 in
theorem go_wo_X2_timesOfVariables_1 : GoodIn wo_X2_timesOfVariables (wsV RX2 46 RX2 yX2_cellAt wo_X2_cellAt) := goodIn_sub (fun _ h => (List.mem_cons_of_mem _ (List.mem_append_right _ (List.mem_append_right _ h)))) (by decide +kernel)
abbrev ww_X2_timesOfVariables (dC : Nat → ClassId) (dI : Nat → Nat → Nat) (cI cJ cB : ClassId) (ra ra1 ra2 ra3 : Nat) (sz : Nat) (ra_n : Nat) (ra_u : Int32) (ra_c : Nat → Int32) (ra_l : Nat → Int32) (ra_o : Nat → Int32) (p0 : Int32) : va_W := [(ra, .inr (2, [.ref ra1, .ref ra2, .ref ra3, .int ra_u])), (ra1, .inl (cI, ra_n * 20, .inl ra_c)), (ra2, .inl (cI, ra_n, .inl ra_l)), (ra3, .inl (cI, 21, .inl ra_o))]
abbrev at_X2_timesOfVariables (dC : Nat → ClassId) (dI : Nat → Nat → Nat) (cI cJ cB : ClassId) (ra ra1 ra2 ra3 : Nat) (sz : Nat) (ra_n : Nat) (ra_u : Int32) (ra_c : Nat → Int32) (ra_l : Nat → Int32) (ra_o : Nat → Int32) (p0 : Int32) (u : Unit) (t : State) : Prop := match u with
  | () => va_P (dC, dI) vwCl [(ra, .inr (2, [.ref ra1, .ref ra2, .ref ra3, .int ra_u])), (ra1, .inl (cI, ra_n * 20, .inl ra_c)), (ra2, .inl (cI, ra_n, .inl ra_l)), (ra3, .inl (cI, 21, .inl ra_o))] t.heap ∧ va_K (dC, dI) vwCl (tyL cI cJ cB) t ∧ va_D (va_A (ww_X2_timesOfVariables dC dI cI cJ cB ra ra1 ra2 ra3 sz ra_n ra_u ra_c ra_l ra_o p0) sz) [(ra, .inr (2, [.ref ra1, .ref ra2, .ref ra3, .int ra_u])), (ra1, .inl (cI, ra_n * 20, .inl ra_c)), (ra2, .inl (cI, ra_n, .inl ra_l)), (ra3, .inl (cI, 21, .inl ra_o))]
abbrev qc_X2_timesOfVariables (dC : Nat → ClassId) (dI : Nat → Nat → Nat) (cI cJ cB : ClassId) (ra ra1 ra2 ra3 : Nat) (sz : Nat) (ra_n : Nat) (ra_u : Int32) (ra_c : Nat → Int32) (ra_l : Nat → Int32) (ra_o : Nat → Int32) (p0 : Int32) : Array Value → State → Outcome → State → Prop := va_Qi (fun (r : Int32) (u : Unit) => match u with | () => True) (at_X2_timesOfVariables dC dI cI cJ cB ra ra1 ra2 ra3 sz ra_n ra_u ra_c ra_l ra_o p0) (va_A (ww_X2_timesOfVariables dC dI cI cJ cB ra ra1 ra2 ra3 sz ra_n ra_u ra_c ra_l ra_o p0) sz)
abbrev pc_X2_timesOfVariables (dC : Nat → ClassId) (dI : Nat → Nat → Nat) (cI cJ cB : ClassId) (ra ra1 ra2 ra3 : Nat) (sz : Nat) (ra_n : Nat) (ra_u : Int32) (ra_c : Nat → Int32) (ra_l : Nat → Int32) (ra_o : Nat → Int32) (p0 : Int32) : Array Value → State → Prop := va_Pc [.ref ra, .int p0] (fun U => U.heap.size = sz ∧ NW U ∧ va_P (dC, dI) vwCl (ww_X2_timesOfVariables dC dI cI cJ cB ra ra1 ra2 ra3 sz ra_n ra_u ra_c ra_l ra_o p0) U.heap ∧ va_K (dC, dI) vwCl (tyL cI cJ cB) U ∧ va_D (fun _ => True) (ww_X2_timesOfVariables dC dI cI cJ cB ra ra1 ra2 ra3 sz ra_n ra_u ra_c ra_l ra_o p0))
abbrev rm_X2_timesOfVariables : Room := { frames := 1, cells := 0, slots := 0, locals := 23 }
abbrev WW_X2_timesOfVariables (p : Program) (l : Launch) (e : Env) (s : State) (m : MethodId) (below : List Frame) (meth : Method) (c : Code) (dC : Nat → ClassId) (dI : Nat → Nat → Nat) (cI cJ cB : ClassId) (ra ra1 ra2 ra3 : Nat) (sz : Nat) (ra_n : Nat) (ra_u : Int32) (ra_c : Nat → Int32) (ra_l : Nat → Int32) (ra_o : Nat → Int32) (p0 : Int32) (H : Heap) (locs : List Loc) (g : JFrame) : Prop := W p l e rm_X2_timesOfVariables s m ([.ref ra, .int p0] : List Value).toArray below meth c H locs 0 0 (MQ below (qc_X2_timesOfVariables dC dI cI cJ cB ra ra1 ra2 ra3 sz ra_n ra_u ra_c ra_l ra_o p0) ([.ref ra, .int p0] : List Value).toArray s 0 0 (va_A (ww_X2_timesOfVariables dC dI cI cJ cB ra ra1 ra2 ra3 sz ra_n ra_u ra_c ra_l ra_o p0) sz)) g
set_option maxHeartbeats 4000000 in
set_option maxRecDepth 100000 in
theorem c_X2_timesOfVariables (l : Launch) (dC : Nat → ClassId) (dI : Nat → Nat → Nat) (cI cJ cB : ClassId) (ra ra1 ra2 ra3 : Nat) (sz : Nat) (ra_n : Nat) (ra_u : Int32) (ra_c : Nat → Int32) (ra_l : Nat → Int32) (ra_o : Nat → Int32) (p0 : Int32) (hn_ra : 1 ≤ ra_n ∧ ra_n ≤ 201) : Met l yX2_timesOfVariables wo_X2_timesOfVariables rm_X2_timesOfVariables (pc_X2_timesOfVariables dC dI cI cJ cB ra ra1 ra2 ra3 sz ra_n ra_u ra_c ra_l ra_o p0) (qc_X2_timesOfVariables dC dI cI cJ cB ra ra1 ra2 ra3 sz ra_n ra_u ra_c ra_l ra_o p0) 0 0 (va_A (ww_X2_timesOfVariables dC dI cI cJ cB ra ra1 ra2 ra3 sz ra_n ra_u ra_c ra_l ra_o p0) sz) := by
  refine Met.ofW (cc := cX2_timesOfVariables) (maxL := 4) (ret := (some .int)) (by decide) rfl ?_
  intro p e s m args below meth c s₁ B hml hv
  obtain ⟨rfl, hsz, hnw, hP, hK, hD0⟩ := hv
  have hx := B.exec
  have hb := B.bytes
  have hr := B.returns
  have hts := atoms_spec (ws := wo_X2_timesOfVariables) B.pre
  have hown : s.vm.findClass RX2 = some m.cls := findClass_of_methodNamed B.named
  have hlocks := B.notSynchronized
  clear B
  subst hsz
  have hD := hD0.self (sz := s.heap.size)
  clear hD0
  have hA : ∀ q : Nat, s.heap.size ≤ q → (va_A (ww_X2_timesOfVariables dC dI cI cJ cB ra ra1 ra2 ra3 s.heap.size ra_n ra_u ra_c ra_l ra_o p0) s.heap.size) q := fun q h => Or.inr h
  have hS : va_S (va_A (ww_X2_timesOfVariables dC dI cI cJ cB ra ra1 ra2 ra3 s.heap.size ra_n ra_u ra_c ra_l ra_o p0) s.heap.size) s.heap s.heap [] := va_S.rf
  have hl := lv_entry ([.ref ra, .int p0]) (n := 4) (Nat.le_of_ble_eq_true rfl)
  rw [lg_entry_eq]
  generalize (lg_sl ([.ref ra, .int p0]) ++ List.replicate (4 - (lg_sl ([.ref ra, .int p0])).length) Slot.unset).toArray = ls at hl ⊢
  have hl : lv_has ls 4 [(0, .ref ra), (1, .int p0)] := hl
  have hP : va_P (dC, dI) vwCl [(ra, .inr (2, [.ref ra1, .ref ra2, .ref ra3, .int ra_u])), (ra1, .inl (cI, ra_n * 20, .inl ra_c)), (ra2, .inl (cI, ra_n, .inl ra_l)), (ra3, .inl (cI, 21, .inl ra_o))] s.heap := hP
  have hD : va_D (va_A (ww_X2_timesOfVariables dC dI cI cJ cB ra ra1 ra2 ra3 s.heap.size ra_n ra_u ra_c ra_l ra_o p0) s.heap.size) [(ra, .inr (2, [.ref ra1, .ref ra2, .ref ra3, .int ra_u])), (ra1, .inl (cI, ra_n * 20, .inl ra_c)), (ra2, .inl (cI, ra_n, .inl ra_l)), (ra3, .inl (cI, 21, .inl ra_o))] := hD
  obtain ⟨H, hH⟩ : ∃ H, H = s.heap := ⟨_, rfl⟩
  obtain ⟨locs, hlc⟩ : ∃ L : List Loc, L = [] := ⟨_, rfl⟩
  have hS : va_S (va_A (ww_X2_timesOfVariables dC dI cI cJ cB ra ra1 ra2 ra3 s.heap.size ra_n ra_u ra_c ra_l ra_o p0) s.heap.size) s.heap H locs := by rw [hH, hlc]; exact hS
  have hP : va_P (dC, dI) vwCl [(ra, .inr (2, [.ref ra1, .ref ra2, .ref ra3, .int ra_u])), (ra1, .inl (cI, ra_n * 20, .inl ra_c)), (ra2, .inl (cI, ra_n, .inl ra_l)), (ra3, .inl (cI, 21, .inl ra_o))] H := by rw [hH]; exact hP
  suffices hgo : WW_X2_timesOfVariables p l e s m below meth c dC dI cI cJ cB ra ra1 ra2 ra3 s.heap.size ra_n ra_u ra_c ra_l ra_o p0 H locs (F0 m 0 ls []) by rw [hH, hlc] at hgo; exact hgo
  clear hH hlc
  have L_4 : ∀ (N_4 : Nat), ∀ (x2 : Int32) (x3 : Int32), ((2147483647 - x3.toInt).toNat) < N_4 → ∀ (H : Heap) (locs : List Loc), va_P (dC, dI) vwCl [(ra, .inr (2, [.ref ra1, .ref ra2, .ref ra3, .int ra_u])), (ra1, .inl (cI, ra_n * 20, .inl ra_c)), (ra2, .inl (cI, ra_n, .inl ra_l)), (ra3, .inl (cI, 21, .inl ra_o))] H → va_D (va_A (ww_X2_timesOfVariables dC dI cI cJ cB ra ra1 ra2 ra3 s.heap.size ra_n ra_u ra_c ra_l ra_o p0) s.heap.size) [(ra, .inr (2, [.ref ra1, .ref ra2, .ref ra3, .int ra_u])), (ra1, .inl (cI, ra_n * 20, .inl ra_c)), (ra2, .inl (cI, ra_n, .inl ra_l)), (ra3, .inl (cI, 21, .inl ra_o))] → va_S (va_A (ww_X2_timesOfVariables dC dI cI cJ cB ra ra1 ra2 ra3 s.heap.size ra_n ra_u ra_c ra_l ra_o p0) s.heap.size) s.heap H locs → ∀ ls : Array Slot, lv_has ls 4 [(0, .ref ra), (1, .int p0), (2, .int x2), (3, .int x3)] → WW_X2_timesOfVariables p l e s m below meth c dC dI cI cJ cB ra ra1 ra2 ra3 s.heap.size ra_n ra_u ra_c ra_l ra_o p0 H locs (F0 m 4 ls []) := by
    intro N_4
    induction N_4 with
    | zero => intro x2 x3  hm; exact absurd hm (Nat.not_lt_zero _)
    | succ N_4 ih_4 =>
      intro x2 x3  hm_4 H locs hP hD hS ls hl
      refine lv_iload_n hx hb dX2_timesOfVariables_4 rfl (lv_at hl 3 rfl) ?_
      refine lv_aload_n hx hb dX2_timesOfVariables_5 rfl (lv_at hl 0 rfl) ?_
      refine lv_iload_n hx hb dX2_timesOfVariables_6 rfl (lv_at hl 1 rfl) ?_
      have hPc := hP.sub (ws' := [(ra, .inr (2, [.ref ra1, .ref ra2, .ref ra3, .int ra_u])), (ra1, .inl (cI, ra_n * 20, .inl ra_c)), (ra2, .inl (cI, ra_n, .inl ra_l)), (ra3, .inl (cI, 21, .inl ra_o))]) [0, 1, 2, 3] rfl
      have hDc := hD.sub (ws' := [(ra, .inr (2, [.ref ra1, .ref ra2, .ref ra3, .int ra_u])), (ra1, .inl (cI, ra_n * 20, .inl ra_c)), (ra2, .inl (cI, ra_n, .inl ra_l)), (ra3, .inl (cI, 21, .inl ra_o))]) [0, 1, 2, 3] (by decide) rfl
      have hFc := va_free (wc := [(ra, .inr (2, [.ref ra1, .ref ra2, .ref ra3, .int ra_u])), (ra1, .inl (cI, ra_n * 20, .inl ra_c)), (ra2, .inl (cI, ra_n, .inl ra_l)), (ra3, .inl (cI, 21, .inl ra_o))]) hD hS hA [0, 1, 2, 3] rfl
      refine va_calli (va_runV (As := [.int p0]) (rest := [.int x3]) ⟨hx, hb, hml, hown, hts⟩ (c_X2_lengthOf l dC dI cI cJ cB ra ra1 ra2 ra3 H.size ra_n ra_u ra_c ra_l ra_o p0 (by first | assumption | omega | decide | (simp only [lt0, lt1, ltm1, lt400] at *; omega))) (cwV 1 hts go_wo_X2_timesOfVariables_0 rfl rfl rfl (by decide +kernel) ⟨Nat.le_of_ble_eq_true rfl, Nat.le_of_ble_eq_true rfl⟩) ⟨fun a U g mk q => by obtain ⟨q0, q1, qN, qP, qK, qD⟩ := q; exact ⟨q0, q1, NW.calling qN, qP, va_K.moved (u := U) (U := U.calling g mk a) (Vm.Alike.refl U.vm) qK, qD⟩, va_recv hK hPc (ci := 2) (q0 := 0) rfl rfl, fun U hU hW => ⟨rfl, by rw [hU], NW.warm hW hnw, by rw [hU]; exact hPc, va_K.moved hW.alike hK, hDc.weaken (fun _ _ _ _ => trivial)⟩⟩ rfl rfl hl.1 rfl (lv_room (Nat.le_of_ble_eq_true rfl)) dX2_timesOfVariables_7 ⟨Nat.zero_le _, Nat.zero_le _⟩) hS (fun q _ h => hFc q h) hFc (fun r_1 u t H1 locs ht hvm hw hB hz1 hk1 hS => ?_)
      cases u
      obtain ⟨hP1, hK1, hD1⟩ := hB
      rw [ht] at hP1
      clear hw
      obtain ⟨hP, hD⟩ := va_join (wr := []) (w1 := [(ra, .inr (2, [.ref ra1, .ref ra2, .ref ra3, .int ra_u])), (ra1, .inl (cI, ra_n * 20, .inl ra_c)), (ra2, .inl (cI, ra_n, .inl ra_l)), (ra3, .inl (cI, 21, .inl ra_o))]) hP hD [0, 1, 2, 3] [] rfl rfl (by decide) (by decide) hk1 hFc hP1 hD1
      generalize H1 = H at hP hS ⊢
      have hP : va_P (dC, dI) vwCl [(ra, .inr (2, [.ref ra1, .ref ra2, .ref ra3, .int ra_u])), (ra1, .inl (cI, ra_n * 20, .inl ra_c)), (ra2, .inl (cI, ra_n, .inl ra_l)), (ra3, .inl (cI, 21, .inl ra_o))] H := hP
      have hD : va_D (va_A (ww_X2_timesOfVariables dC dI cI cJ cB ra ra1 ra2 ra3 s.heap.size ra_n ra_u ra_c ra_l ra_o p0) s.heap.size) [(ra, .inr (2, [.ref ra1, .ref ra2, .ref ra3, .int ra_u])), (ra1, .inl (cI, ra_n * 20, .inl ra_c)), (ra2, .inl (cI, ra_n, .inl ra_l)), (ra3, .inl (cI, 21, .inl ra_o))] := hD
      clear hPc hDc hFc hP1 hK1 hD1 hk1 hz1 ht hvm
      refine lv_icmp_ge (tgt := 38) hx hb dX2_timesOfVariables_10 (by decide) (fun c_2 => ?_) (fun c_2 => ?_)
      · have tc_2 : r_1.toInt ≤ x3.toInt := tb_ge_t c_2
        have := ti_rng x3
        have := ti_rng r_1
        refine lv_iload_n hx hb dX2_timesOfVariables_38 rfl (lv_at hl 2 rfl) ?_
        have hP9 := hP.sub (ws' := [(ra, .inr (2, [.ref ra1, .ref ra2, .ref ra3, .int ra_u])), (ra1, .inl (cI, ra_n * 20, .inl ra_c)), (ra2, .inl (cI, ra_n, .inl ra_l)), (ra3, .inl (cI, 21, .inl ra_o))]) [0, 1, 2, 3] rfl
        have hD9 := hD.sub (ws' := [(ra, .inr (2, [.ref ra1, .ref ra2, .ref ra3, .int ra_u])), (ra1, .inl (cI, ra_n * 20, .inl ra_c)), (ra2, .inl (cI, ra_n, .inl ra_l)), (ra3, .inl (cI, 21, .inl ra_o))]) [0, 1, 2, 3] (by decide) rfl
        exact W.iret (v := x2) hx hb hr (fun t ht hW => ⟨⟨x2, (), rfl, trivial, by rw [ht]; exact hP9, va_K.moved hW.alike hK, hD9⟩, hS.F ht⟩) hS.2.2 dX2_timesOfVariables_39
      · have tc_2 : x3.toInt < r_1.toInt := tb_ge_f c_2
        have := ti_rng x3
        have := ti_rng r_1
        refine lv_iload_n hx hb dX2_timesOfVariables_13 rfl (lv_at hl 2 rfl) ?_
        refine lv_aload_n hx hb dX2_timesOfVariables_14 rfl (lv_at hl 0 rfl) ?_
        refine lv_iload_n hx hb dX2_timesOfVariables_15 rfl (lv_at hl 1 rfl) ?_
        refine lv_iload_n hx hb dX2_timesOfVariables_16 rfl (lv_at hl 3 rfl) ?_
        have hPc := hP.sub (ws' := [(ra, .inr (2, [.ref ra1, .ref ra2, .ref ra3, .int ra_u])), (ra1, .inl (cI, ra_n * 20, .inl ra_c)), (ra2, .inl (cI, ra_n, .inl ra_l)), (ra3, .inl (cI, 21, .inl ra_o))]) [0, 1, 2, 3] rfl
        have hDc := hD.sub (ws' := [(ra, .inr (2, [.ref ra1, .ref ra2, .ref ra3, .int ra_u])), (ra1, .inl (cI, ra_n * 20, .inl ra_c)), (ra2, .inl (cI, ra_n, .inl ra_l)), (ra3, .inl (cI, 21, .inl ra_o))]) [0, 1, 2, 3] (by decide) rfl
        have hFc := va_free (wc := [(ra, .inr (2, [.ref ra1, .ref ra2, .ref ra3, .int ra_u])), (ra1, .inl (cI, ra_n * 20, .inl ra_c)), (ra2, .inl (cI, ra_n, .inl ra_l)), (ra3, .inl (cI, 21, .inl ra_o))]) hD hS hA [0, 1, 2, 3] rfl
        refine va_calli (va_runV (As := [.int p0, .int x3]) (rest := [.int x2]) ⟨hx, hb, hml, hown, hts⟩ (c_X2_cellAt l dC dI cI cJ cB ra ra1 ra2 ra3 H.size ra_n ra_u ra_c ra_l ra_o p0 x3 (by first | assumption | omega | decide | (simp only [lt0, lt1, ltm1, lt400] at *; omega))) (cwV 2 hts go_wo_X2_timesOfVariables_1 rfl rfl rfl (by decide +kernel) ⟨Nat.le_of_ble_eq_true rfl, Nat.le_of_ble_eq_true rfl⟩) ⟨fun a U g mk q => by obtain ⟨q0, q1, qN, qP, qK, qD⟩ := q; exact ⟨q0, q1, NW.calling qN, qP, va_K.moved (u := U) (U := U.calling g mk a) (Vm.Alike.refl U.vm) qK, qD⟩, va_recv hK hPc (ci := 2) (q0 := 0) rfl rfl, fun U hU hW => ⟨rfl, by rw [hU], NW.warm hW hnw, by rw [hU]; exact hPc, va_K.moved hW.alike hK, hDc.weaken (fun _ _ _ _ => trivial)⟩⟩ rfl rfl hl.1 rfl (lv_room (Nat.le_of_ble_eq_true rfl)) dX2_timesOfVariables_17 ⟨Nat.zero_le _, Nat.zero_le _⟩) hS (fun q _ h => hFc q h) hFc (fun r_3 u t H1 locs ht hvm hw hB hz1 hk1 hS => ?_)
        cases u
        obtain ⟨hP1, hK1, hD1⟩ := hB
        rw [ht] at hP1
        clear hw
        obtain ⟨hP, hD⟩ := va_join (wr := []) (w1 := [(ra, .inr (2, [.ref ra1, .ref ra2, .ref ra3, .int ra_u])), (ra1, .inl (cI, ra_n * 20, .inl ra_c)), (ra2, .inl (cI, ra_n, .inl ra_l)), (ra3, .inl (cI, 21, .inl ra_o))]) hP hD [0, 1, 2, 3] [] rfl rfl (by decide) (by decide) hk1 hFc hP1 hD1
        generalize H1 = H at hP hS ⊢
        have hP : va_P (dC, dI) vwCl [(ra, .inr (2, [.ref ra1, .ref ra2, .ref ra3, .int ra_u])), (ra1, .inl (cI, ra_n * 20, .inl ra_c)), (ra2, .inl (cI, ra_n, .inl ra_l)), (ra3, .inl (cI, 21, .inl ra_o))] H := hP
        have hD : va_D (va_A (ww_X2_timesOfVariables dC dI cI cJ cB ra ra1 ra2 ra3 s.heap.size ra_n ra_u ra_c ra_l ra_o p0) s.heap.size) [(ra, .inr (2, [.ref ra1, .ref ra2, .ref ra3, .int ra_u])), (ra1, .inl (cI, ra_n * 20, .inl ra_c)), (ra2, .inl (cI, ra_n, .inl ra_l)), (ra3, .inl (cI, 21, .inl ra_o))] := hD
        clear hPc hDc hFc hP1 hK1 hD1 hk1 hz1 ht hvm
        refine lv_bipush (v := 8) hx hb dX2_timesOfVariables_20 (by decide) ?_
        refine lv_icmp_ge (tgt := 29) hx hb dX2_timesOfVariables_22 (by decide) (fun c_4 => ?_) (fun c_4 => ?_)
        · have tc_4 : 8 ≤ r_3.toInt := tb_ge_t c_4
          refine lv_iconst (v := 0) hx hb dX2_timesOfVariables_29 (by decide) ?_
          refine lv_iadd hx hb dX2_timesOfVariables_30 ?_
          refine lv_topi (fun y_5 ey_5 => ?_)
          have := ti_rng x2
          have tey_5 : y_5.toInt = x2.toInt + 0 := ti_add2 ey_5 rfl (by decide) (by omega) (by omega)
          refine lv_istore_n (lv' := [(2, .int y_5), (0, .ref ra), (1, .int p0), (3, .int x3)]) hx hb dX2_timesOfVariables_31 rfl hl (by decide) rfl (fun ls hl => ?_)
          obtain ⟨x3_6, ex3_6⟩ : ∃ y : Int32, y = x3 + (1) := ⟨_, rfl⟩
          refine lv_iinc (v := x3_6) (lv' := [(3, .int x3_6), (2, .int y_5), (0, .ref ra), (1, .int p0)]) hx hb dX2_timesOfVariables_32 hl (k := 3) rfl (by rw [ex3_6]; rfl) (by decide) rfl (fun ls hl => ?_)
          have := ti_rng x3
          have tex3_6 : x3_6.toInt = x3.toInt + (1) := ti_inc ex3_6 (by decide) (by omega) (by omega)
          refine lv_goto (tgt := 4) hx hb dX2_timesOfVariables_35 (by decide) ?_
          exact ih_4 y_5 x3_6 (by omega) _ _ (hP.sub [0, 1, 2, 3] rfl) (hD.sub [0, 1, 2, 3] (by decide) rfl) hS ls (lv_sub hl [2, 3, 1, 0] rfl)
        · have tc_4 : r_3.toInt < 8 := tb_ge_f c_4
          refine lv_iconst (v := 1) hx hb dX2_timesOfVariables_25 (by decide) ?_
          refine lv_goto (tgt := 30) hx hb dX2_timesOfVariables_26 (by decide) ?_
          refine lv_iadd hx hb dX2_timesOfVariables_30 ?_
          refine lv_topi (fun y_7 ey_7 => ?_)
          refine lv_istore_n (lv' := [(2, .int y_7), (0, .ref ra), (1, .int p0), (3, .int x3)]) hx hb dX2_timesOfVariables_31 rfl hl (by decide) rfl (fun ls hl => ?_)
          obtain ⟨x3_8, ex3_8⟩ : ∃ y : Int32, y = x3 + (1) := ⟨_, rfl⟩
          refine lv_iinc (v := x3_8) (lv' := [(3, .int x3_8), (2, .int y_7), (0, .ref ra), (1, .int p0)]) hx hb dX2_timesOfVariables_32 hl (k := 3) rfl (by rw [ex3_8]; rfl) (by decide) rfl (fun ls hl => ?_)
          have := ti_rng x3
          have tex3_8 : x3_8.toInt = x3.toInt + (1) := ti_inc ex3_8 (by decide) (by omega) (by omega)
          refine lv_goto (tgt := 4) hx hb dX2_timesOfVariables_35 (by decide) ?_
          exact ih_4 y_7 x3_8 (by omega) _ _ (hP.sub [0, 1, 2, 3] rfl) (hD.sub [0, 1, 2, 3] (by decide) rfl) hS ls (lv_sub hl [2, 3, 1, 0] rfl)
  refine lv_iconst (v := 0) hx hb dX2_timesOfVariables_0 (by decide) ?_
  refine lv_istore_n (lv' := [(2, .int ((0 : Int32))), (0, .ref ra), (1, .int p0)]) hx hb dX2_timesOfVariables_1 rfl hl (by decide) rfl (fun ls hl => ?_)
  refine lv_iconst (v := 0) hx hb dX2_timesOfVariables_2 (by decide) ?_
  refine lv_istore_n (lv' := [(3, .int ((0 : Int32))), (2, .int ((0 : Int32))), (0, .ref ra), (1, .int p0)]) hx hb dX2_timesOfVariables_3 rfl hl (by decide) rfl (fun ls hl => ?_)
  exact L_4 (((2147483647 - ((0 : Int32)).toInt).toNat) + 1) ((0 : Int32)) ((0 : Int32)) (Nat.lt_succ_self _) _ _ (hP.sub [0, 1, 2, 3] rfl) (hD.sub [0, 1, 2, 3] (by decide) rfl) hS ls (lv_sub hl [2, 3, 1, 0] rfl)
def wo_X2_operatorsIn : List Cond := .code yX2_operatorsIn cX2_operatorsIn 5 (some .int) :: (([.initialized RX9, .static yX9_operatorIn] : List Cond) ++ ((wsV RX2 34 RX2 yX2_lengthOf wo_X2_lengthOf) ++ ((wsV RX2 46 RX2 yX2_cellAt wo_X2_cellAt) ++ ((wo_X9_operatorIn)))))
set_option maxRecDepth 20000 in
theorem go_wo_X2_operatorsIn_0 : GoodIn wo_X2_operatorsIn (wsV RX2 34 RX2 yX2_lengthOf wo_X2_lengthOf) := goodIn_sub (fun _ h => (List.mem_cons_of_mem _ (List.mem_append_right _ (List.mem_append_left _ h)))) (by decide +kernel)
set_option maxRecDepth 20000 in
theorem go_wo_X2_operatorsIn_1 : GoodIn wo_X2_operatorsIn (wsV RX2 46 RX2 yX2_cellAt wo_X2_cellAt) := goodIn_sub (fun _ h => (List.mem_cons_of_mem _ (List.mem_append_right _ (List.mem_append_right _ (List.mem_append_left _ h))))) (by decide +kernel)
set_option maxRecDepth 20000 in
theorem go_wo_X2_operatorsIn_2 : GoodIn wo_X2_operatorsIn (wo_X9_operatorIn) := goodIn_sub (fun _ h => (List.mem_cons_of_mem _ (List.mem_append_right _ (List.mem_append_right _ (List.mem_append_right _ h))))) (by decide +kernel)
abbrev ww_X2_operatorsIn (dC : Nat → ClassId) (dI : Nat → Nat → Nat) (cI cJ cB : ClassId) (ra ra1 ra2 ra3 : Nat) (sz : Nat) (ra_n : Nat) (ra_u : Int32) (ra_c : Nat → Int32) (ra_l : Nat → Int32) (ra_o : Nat → Int32) (p0 : Int32) : va_W := [(ra, .inr (2, [.ref ra1, .ref ra2, .ref ra3, .int ra_u])), (ra1, .inl (cI, ra_n * 20, .inl ra_c)), (ra2, .inl (cI, ra_n, .inl ra_l)), (ra3, .inl (cI, 21, .inl ra_o))]
abbrev at_X2_operatorsIn (dC : Nat → ClassId) (dI : Nat → Nat → Nat) (cI cJ cB : ClassId) (ra ra1 ra2 ra3 : Nat) (sz : Nat) (ra_n : Nat) (ra_u : Int32) (ra_c : Nat → Int32) (ra_l : Nat → Int32) (ra_o : Nat → Int32) (p0 : Int32) (u : Unit) (t : State) : Prop := match u with
  | () => va_P (dC, dI) vwCl [(ra, .inr (2, [.ref ra1, .ref ra2, .ref ra3, .int ra_u])), (ra1, .inl (cI, ra_n * 20, .inl ra_c)), (ra2, .inl (cI, ra_n, .inl ra_l)), (ra3, .inl (cI, 21, .inl ra_o))] t.heap ∧ va_K (dC, dI) vwCl (tyL cI cJ cB) t ∧ va_D (va_A (ww_X2_operatorsIn dC dI cI cJ cB ra ra1 ra2 ra3 sz ra_n ra_u ra_c ra_l ra_o p0) sz) [(ra, .inr (2, [.ref ra1, .ref ra2, .ref ra3, .int ra_u])), (ra1, .inl (cI, ra_n * 20, .inl ra_c)), (ra2, .inl (cI, ra_n, .inl ra_l)), (ra3, .inl (cI, 21, .inl ra_o))]
abbrev qc_X2_operatorsIn (dC : Nat → ClassId) (dI : Nat → Nat → Nat) (cI cJ cB : ClassId) (ra ra1 ra2 ra3 : Nat) (sz : Nat) (ra_n : Nat) (ra_u : Int32) (ra_c : Nat → Int32) (ra_l : Nat → Int32) (ra_o : Nat → Int32) (p0 : Int32) : Array Value → State → Outcome → State → Prop := va_Qi (fun (r : Int32) (u : Unit) => match u with | () => True) (at_X2_operatorsIn dC dI cI cJ cB ra ra1 ra2 ra3 sz ra_n ra_u ra_c ra_l ra_o p0) (va_A (ww_X2_operatorsIn dC dI cI cJ cB ra ra1 ra2 ra3 sz ra_n ra_u ra_c ra_l ra_o p0) sz)
abbrev pc_X2_operatorsIn (dC : Nat → ClassId) (dI : Nat → Nat → Nat) (cI cJ cB : ClassId) (ra ra1 ra2 ra3 : Nat) (sz : Nat) (ra_n : Nat) (ra_u : Int32) (ra_c : Nat → Int32) (ra_l : Nat → Int32) (ra_o : Nat → Int32) (p0 : Int32) : Array Value → State → Prop := va_Pc [.ref ra, .int p0] (fun U => U.heap.size = sz ∧ NW U ∧ va_P (dC, dI) vwCl (ww_X2_operatorsIn dC dI cI cJ cB ra ra1 ra2 ra3 sz ra_n ra_u ra_c ra_l ra_o p0) U.heap ∧ va_K (dC, dI) vwCl (tyL cI cJ cB) U ∧ va_D (fun _ => True) (ww_X2_operatorsIn dC dI cI cJ cB ra ra1 ra2 ra3 sz ra_n ra_u ra_c ra_l ra_o p0))
abbrev rm_X2_operatorsIn : Room := { frames := 1, cells := 0, slots := 0, locals := 23 }
abbrev WW_X2_operatorsIn (p : Program) (l : Launch) (e : Env) (s : State) (m : MethodId) (below : List Frame) (meth : Method) (c : Code) (dC : Nat → ClassId) (dI : Nat → Nat → Nat) (cI cJ cB : ClassId) (ra ra1 ra2 ra3 : Nat) (sz : Nat) (ra_n : Nat) (ra_u : Int32) (ra_c : Nat → Int32) (ra_l : Nat → Int32) (ra_o : Nat → Int32) (p0 : Int32) (H : Heap) (locs : List Loc) (g : JFrame) : Prop := W p l e rm_X2_operatorsIn s m ([.ref ra, .int p0] : List Value).toArray below meth c H locs 0 0 (MQ below (qc_X2_operatorsIn dC dI cI cJ cB ra ra1 ra2 ra3 sz ra_n ra_u ra_c ra_l ra_o p0) ([.ref ra, .int p0] : List Value).toArray s 0 0 (va_A (ww_X2_operatorsIn dC dI cI cJ cB ra ra1 ra2 ra3 sz ra_n ra_u ra_c ra_l ra_o p0) sz)) g
set_option maxHeartbeats 4000000 in
set_option maxRecDepth 100000 in
theorem c_X2_operatorsIn (l : Launch) (dC : Nat → ClassId) (dI : Nat → Nat → Nat) (cI cJ cB : ClassId) (ra ra1 ra2 ra3 : Nat) (sz : Nat) (ra_n : Nat) (ra_u : Int32) (ra_c : Nat → Int32) (ra_l : Nat → Int32) (ra_o : Nat → Int32) (p0 : Int32) (hn_ra : 1 ≤ ra_n ∧ ra_n ≤ 201) : Met l yX2_operatorsIn wo_X2_operatorsIn rm_X2_operatorsIn (pc_X2_operatorsIn dC dI cI cJ cB ra ra1 ra2 ra3 sz ra_n ra_u ra_c ra_l ra_o p0) (qc_X2_operatorsIn dC dI cI cJ cB ra ra1 ra2 ra3 sz ra_n ra_u ra_c ra_l ra_o p0) 0 0 (va_A (ww_X2_operatorsIn dC dI cI cJ cB ra ra1 ra2 ra3 sz ra_n ra_u ra_c ra_l ra_o p0) sz) := by
  refine Met.ofW (cc := cX2_operatorsIn) (maxL := 5) (ret := (some .int)) (by decide) rfl ?_
  intro p e s m args below meth c s₁ B hml hv
  obtain ⟨rfl, hsz, hnw, hP, hK, hD0⟩ := hv
  have hx := B.exec
  have hb := B.bytes
  have hr := B.returns
  have hts := atoms_spec (ws := wo_X2_operatorsIn) B.pre
  have hown : s.vm.findClass RX2 = some m.cls := findClass_of_methodNamed B.named
  have hlocks := B.notSynchronized
  clear B
  subst hsz
  have hD := hD0.self (sz := s.heap.size)
  clear hD0
  have hA : ∀ q : Nat, s.heap.size ≤ q → (va_A (ww_X2_operatorsIn dC dI cI cJ cB ra ra1 ra2 ra3 s.heap.size ra_n ra_u ra_c ra_l ra_o p0) s.heap.size) q := fun q h => Or.inr h
  have hS : va_S (va_A (ww_X2_operatorsIn dC dI cI cJ cB ra ra1 ra2 ra3 s.heap.size ra_n ra_u ra_c ra_l ra_o p0) s.heap.size) s.heap s.heap [] := va_S.rf
  have hl := lv_entry ([.ref ra, .int p0]) (n := 5) (Nat.le_of_ble_eq_true rfl)
  rw [lg_entry_eq]
  generalize (lg_sl ([.ref ra, .int p0]) ++ List.replicate (5 - (lg_sl ([.ref ra, .int p0])).length) Slot.unset).toArray = ls at hl ⊢
  have hl : lv_has ls 5 [(0, .ref ra), (1, .int p0)] := hl
  have hP : va_P (dC, dI) vwCl [(ra, .inr (2, [.ref ra1, .ref ra2, .ref ra3, .int ra_u])), (ra1, .inl (cI, ra_n * 20, .inl ra_c)), (ra2, .inl (cI, ra_n, .inl ra_l)), (ra3, .inl (cI, 21, .inl ra_o))] s.heap := hP
  have hD : va_D (va_A (ww_X2_operatorsIn dC dI cI cJ cB ra ra1 ra2 ra3 s.heap.size ra_n ra_u ra_c ra_l ra_o p0) s.heap.size) [(ra, .inr (2, [.ref ra1, .ref ra2, .ref ra3, .int ra_u])), (ra1, .inl (cI, ra_n * 20, .inl ra_c)), (ra2, .inl (cI, ra_n, .inl ra_l)), (ra3, .inl (cI, 21, .inl ra_o))] := hD
  obtain ⟨H, hH⟩ : ∃ H, H = s.heap := ⟨_, rfl⟩
  obtain ⟨locs, hlc⟩ : ∃ L : List Loc, L = [] := ⟨_, rfl⟩
  have hS : va_S (va_A (ww_X2_operatorsIn dC dI cI cJ cB ra ra1 ra2 ra3 s.heap.size ra_n ra_u ra_c ra_l ra_o p0) s.heap.size) s.heap H locs := by rw [hH, hlc]; exact hS
  have hP : va_P (dC, dI) vwCl [(ra, .inr (2, [.ref ra1, .ref ra2, .ref ra3, .int ra_u])), (ra1, .inl (cI, ra_n * 20, .inl ra_c)), (ra2, .inl (cI, ra_n, .inl ra_l)), (ra3, .inl (cI, 21, .inl ra_o))] H := by rw [hH]; exact hP
  suffices hgo : WW_X2_operatorsIn p l e s m below meth c dC dI cI cJ cB ra ra1 ra2 ra3 s.heap.size ra_n ra_u ra_c ra_l ra_o p0 H locs (F0 m 0 ls []) by rw [hH, hlc] at hgo; exact hgo
  clear hH hlc
  have L_4 : ∀ (N_4 : Nat), ∀ (x2 : Int32) (x3 : Int32), ((2147483647 - x3.toInt).toNat) < N_4 → ∀ (H : Heap) (locs : List Loc), va_P (dC, dI) vwCl [(ra, .inr (2, [.ref ra1, .ref ra2, .ref ra3, .int ra_u])), (ra1, .inl (cI, ra_n * 20, .inl ra_c)), (ra2, .inl (cI, ra_n, .inl ra_l)), (ra3, .inl (cI, 21, .inl ra_o))] H → va_D (va_A (ww_X2_operatorsIn dC dI cI cJ cB ra ra1 ra2 ra3 s.heap.size ra_n ra_u ra_c ra_l ra_o p0) s.heap.size) [(ra, .inr (2, [.ref ra1, .ref ra2, .ref ra3, .int ra_u])), (ra1, .inl (cI, ra_n * 20, .inl ra_c)), (ra2, .inl (cI, ra_n, .inl ra_l)), (ra3, .inl (cI, 21, .inl ra_o))] → va_S (va_A (ww_X2_operatorsIn dC dI cI cJ cB ra ra1 ra2 ra3 s.heap.size ra_n ra_u ra_c ra_l ra_o p0) s.heap.size) s.heap H locs → ∀ ls : Array Slot, lv_has ls 5 [(0, .ref ra), (1, .int p0), (2, .int x2), (3, .int x3)] → WW_X2_operatorsIn p l e s m below meth c dC dI cI cJ cB ra ra1 ra2 ra3 s.heap.size ra_n ra_u ra_c ra_l ra_o p0 H locs (F0 m 4 ls []) := by
    intro N_4
    induction N_4 with
    | zero => intro x2 x3  hm; exact absurd hm (Nat.not_lt_zero _)
    | succ N_4 ih_4 =>
      intro x2 x3  hm_4 H locs hP hD hS ls hl
      refine lv_iload_n hx hb dX2_operatorsIn_4 rfl (lv_at hl 3 rfl) ?_
      refine lv_aload_n hx hb dX2_operatorsIn_5 rfl (lv_at hl 0 rfl) ?_
      refine lv_iload_n hx hb dX2_operatorsIn_6 rfl (lv_at hl 1 rfl) ?_
      have hPc := hP.sub (ws' := [(ra, .inr (2, [.ref ra1, .ref ra2, .ref ra3, .int ra_u])), (ra1, .inl (cI, ra_n * 20, .inl ra_c)), (ra2, .inl (cI, ra_n, .inl ra_l)), (ra3, .inl (cI, 21, .inl ra_o))]) [0, 1, 2, 3] rfl
      have hDc := hD.sub (ws' := [(ra, .inr (2, [.ref ra1, .ref ra2, .ref ra3, .int ra_u])), (ra1, .inl (cI, ra_n * 20, .inl ra_c)), (ra2, .inl (cI, ra_n, .inl ra_l)), (ra3, .inl (cI, 21, .inl ra_o))]) [0, 1, 2, 3] (by decide) rfl
      have hFc := va_free (wc := [(ra, .inr (2, [.ref ra1, .ref ra2, .ref ra3, .int ra_u])), (ra1, .inl (cI, ra_n * 20, .inl ra_c)), (ra2, .inl (cI, ra_n, .inl ra_l)), (ra3, .inl (cI, 21, .inl ra_o))]) hD hS hA [0, 1, 2, 3] rfl
      refine va_calli (va_runV (As := [.int p0]) (rest := [.int x3]) ⟨hx, hb, hml, hown, hts⟩ (c_X2_lengthOf l dC dI cI cJ cB ra ra1 ra2 ra3 H.size ra_n ra_u ra_c ra_l ra_o p0 (by first | assumption | omega | decide | (simp only [lt0, lt1, ltm1, lt400] at *; omega))) (cwV 1 hts go_wo_X2_operatorsIn_0 rfl rfl rfl (by decide +kernel) ⟨Nat.le_of_ble_eq_true rfl, Nat.le_of_ble_eq_true rfl⟩) ⟨fun a U g mk q => by obtain ⟨q0, q1, qN, qP, qK, qD⟩ := q; exact ⟨q0, q1, NW.calling qN, qP, va_K.moved (u := U) (U := U.calling g mk a) (Vm.Alike.refl U.vm) qK, qD⟩, va_recv hK hPc (ci := 2) (q0 := 0) rfl rfl, fun U hU hW => ⟨rfl, by rw [hU], NW.warm hW hnw, by rw [hU]; exact hPc, va_K.moved hW.alike hK, hDc.weaken (fun _ _ _ _ => trivial)⟩⟩ rfl rfl hl.1 rfl (lv_room (Nat.le_of_ble_eq_true rfl)) dX2_operatorsIn_7 ⟨Nat.zero_le _, Nat.zero_le _⟩) hS (fun q _ h => hFc q h) hFc (fun r_1 u t H1 locs ht hvm hw hB hz1 hk1 hS => ?_)
      cases u
      obtain ⟨hP1, hK1, hD1⟩ := hB
      rw [ht] at hP1
      clear hw
      obtain ⟨hP, hD⟩ := va_join (wr := []) (w1 := [(ra, .inr (2, [.ref ra1, .ref ra2, .ref ra3, .int ra_u])), (ra1, .inl (cI, ra_n * 20, .inl ra_c)), (ra2, .inl (cI, ra_n, .inl ra_l)), (ra3, .inl (cI, 21, .inl ra_o))]) hP hD [0, 1, 2, 3] [] rfl rfl (by decide) (by decide) hk1 hFc hP1 hD1
      generalize H1 = H at hP hS ⊢
      have hP : va_P (dC, dI) vwCl [(ra, .inr (2, [.ref ra1, .ref ra2, .ref ra3, .int ra_u])), (ra1, .inl (cI, ra_n * 20, .inl ra_c)), (ra2, .inl (cI, ra_n, .inl ra_l)), (ra3, .inl (cI, 21, .inl ra_o))] H := hP
      have hD : va_D (va_A (ww_X2_operatorsIn dC dI cI cJ cB ra ra1 ra2 ra3 s.heap.size ra_n ra_u ra_c ra_l ra_o p0) s.heap.size) [(ra, .inr (2, [.ref ra1, .ref ra2, .ref ra3, .int ra_u])), (ra1, .inl (cI, ra_n * 20, .inl ra_c)), (ra2, .inl (cI, ra_n, .inl ra_l)), (ra3, .inl (cI, 21, .inl ra_o))] := hD
      clear hPc hDc hFc hP1 hK1 hD1 hk1 hz1 ht hvm
      refine lv_icmp_ge (tgt := 48) hx hb dX2_operatorsIn_10 (by decide) (fun c_2 => ?_) (fun c_2 => ?_)
      · have tc_2 : r_1.toInt ≤ x3.toInt := tb_ge_t c_2
        have := ti_rng x3
        have := ti_rng r_1
        refine lv_iload_n hx hb dX2_operatorsIn_48 rfl (lv_at hl 2 rfl) ?_
        have hP9 := hP.sub (ws' := [(ra, .inr (2, [.ref ra1, .ref ra2, .ref ra3, .int ra_u])), (ra1, .inl (cI, ra_n * 20, .inl ra_c)), (ra2, .inl (cI, ra_n, .inl ra_l)), (ra3, .inl (cI, 21, .inl ra_o))]) [0, 1, 2, 3] rfl
        have hD9 := hD.sub (ws' := [(ra, .inr (2, [.ref ra1, .ref ra2, .ref ra3, .int ra_u])), (ra1, .inl (cI, ra_n * 20, .inl ra_c)), (ra2, .inl (cI, ra_n, .inl ra_l)), (ra3, .inl (cI, 21, .inl ra_o))]) [0, 1, 2, 3] (by decide) rfl
        exact W.iret (v := x2) hx hb hr (fun t ht hW => ⟨⟨x2, (), rfl, trivial, by rw [ht]; exact hP9, va_K.moved hW.alike hK, hD9⟩, hS.F ht⟩) hS.2.2 dX2_operatorsIn_49
      · have tc_2 : x3.toInt < r_1.toInt := tb_ge_f c_2
        have := ti_rng x3
        have := ti_rng r_1
        refine lv_aload_n hx hb dX2_operatorsIn_13 rfl (lv_at hl 0 rfl) ?_
        refine lv_iload_n hx hb dX2_operatorsIn_14 rfl (lv_at hl 1 rfl) ?_
        refine lv_iload_n hx hb dX2_operatorsIn_15 rfl (lv_at hl 3 rfl) ?_
        have hPc := hP.sub (ws' := [(ra, .inr (2, [.ref ra1, .ref ra2, .ref ra3, .int ra_u])), (ra1, .inl (cI, ra_n * 20, .inl ra_c)), (ra2, .inl (cI, ra_n, .inl ra_l)), (ra3, .inl (cI, 21, .inl ra_o))]) [0, 1, 2, 3] rfl
        have hDc := hD.sub (ws' := [(ra, .inr (2, [.ref ra1, .ref ra2, .ref ra3, .int ra_u])), (ra1, .inl (cI, ra_n * 20, .inl ra_c)), (ra2, .inl (cI, ra_n, .inl ra_l)), (ra3, .inl (cI, 21, .inl ra_o))]) [0, 1, 2, 3] (by decide) rfl
        have hFc := va_free (wc := [(ra, .inr (2, [.ref ra1, .ref ra2, .ref ra3, .int ra_u])), (ra1, .inl (cI, ra_n * 20, .inl ra_c)), (ra2, .inl (cI, ra_n, .inl ra_l)), (ra3, .inl (cI, 21, .inl ra_o))]) hD hS hA [0, 1, 2, 3] rfl
        refine va_calli (va_runV (As := [.int p0, .int x3]) (rest := []) ⟨hx, hb, hml, hown, hts⟩ (c_X2_cellAt l dC dI cI cJ cB ra ra1 ra2 ra3 H.size ra_n ra_u ra_c ra_l ra_o p0 x3 (by first | assumption | omega | decide | (simp only [lt0, lt1, ltm1, lt400] at *; omega))) (cwV 2 hts go_wo_X2_operatorsIn_1 rfl rfl rfl (by decide +kernel) ⟨Nat.le_of_ble_eq_true rfl, Nat.le_of_ble_eq_true rfl⟩) ⟨fun a U g mk q => by obtain ⟨q0, q1, qN, qP, qK, qD⟩ := q; exact ⟨q0, q1, NW.calling qN, qP, va_K.moved (u := U) (U := U.calling g mk a) (Vm.Alike.refl U.vm) qK, qD⟩, va_recv hK hPc (ci := 2) (q0 := 0) rfl rfl, fun U hU hW => ⟨rfl, by rw [hU], NW.warm hW hnw, by rw [hU]; exact hPc, va_K.moved hW.alike hK, hDc.weaken (fun _ _ _ _ => trivial)⟩⟩ rfl rfl hl.1 rfl (lv_room (Nat.le_of_ble_eq_true rfl)) dX2_operatorsIn_16 ⟨Nat.zero_le _, Nat.zero_le _⟩) hS (fun q _ h => hFc q h) hFc (fun r_3 u t H1 locs ht hvm hw hB hz1 hk1 hS => ?_)
        cases u
        obtain ⟨hP1, hK1, hD1⟩ := hB
        rw [ht] at hP1
        clear hw
        obtain ⟨hP, hD⟩ := va_join (wr := []) (w1 := [(ra, .inr (2, [.ref ra1, .ref ra2, .ref ra3, .int ra_u])), (ra1, .inl (cI, ra_n * 20, .inl ra_c)), (ra2, .inl (cI, ra_n, .inl ra_l)), (ra3, .inl (cI, 21, .inl ra_o))]) hP hD [0, 1, 2, 3] [] rfl rfl (by decide) (by decide) hk1 hFc hP1 hD1
        generalize H1 = H at hP hS ⊢
        have hP : va_P (dC, dI) vwCl [(ra, .inr (2, [.ref ra1, .ref ra2, .ref ra3, .int ra_u])), (ra1, .inl (cI, ra_n * 20, .inl ra_c)), (ra2, .inl (cI, ra_n, .inl ra_l)), (ra3, .inl (cI, 21, .inl ra_o))] H := hP
        have hD : va_D (va_A (ww_X2_operatorsIn dC dI cI cJ cB ra ra1 ra2 ra3 s.heap.size ra_n ra_u ra_c ra_l ra_o p0) s.heap.size) [(ra, .inr (2, [.ref ra1, .ref ra2, .ref ra3, .int ra_u])), (ra1, .inl (cI, ra_n * 20, .inl ra_c)), (ra2, .inl (cI, ra_n, .inl ra_l)), (ra3, .inl (cI, 21, .inl ra_o))] := hD
        clear hPc hDc hFc hP1 hK1 hD1 hk1 hz1 ht hvm
        refine lv_istore (lv' := [(4, .int r_3), (0, .ref ra), (1, .int p0), (2, .int x2), (3, .int x3)]) hx hb dX2_operatorsIn_19 hl (by decide) rfl (fun ls hl => ?_)
        refine lv_iload_n hx hb dX2_operatorsIn_21 rfl (lv_at hl 3 rfl) ?_
        refine lv_iload hx hb dX2_operatorsIn_22 (lv_at hl 0 rfl) ?_
        refine lv_bipush (v := 8) hx hb dX2_operatorsIn_24 (by decide) ?_
        refine lv_icmp_ge (tgt := 33) hx hb dX2_operatorsIn_26 (by decide) (fun c_4 => ?_) (fun c_4 => ?_)
        · have tc_4 : 8 ≤ r_3.toInt := tb_ge_t c_4
          refine lv_iconst (v := 1) hx hb dX2_operatorsIn_33 (by decide) ?_
          refine lv_iload hx hb dX2_operatorsIn_34 (lv_at hl 0 rfl) ?_
          have hPc := hP.sub (ws' := []) [] rfl
          have hDc := hD.sub (ws' := []) [] (by decide) rfl
          have hFc := va_free (wc := []) hD hS hA [] rfl
          refine va_calli (va_runSN (host := "SumRewriter") (As := [.int r_3]) (rest := [.int ((1 : Int32)), .int x2]) ⟨hx, hb, hml, hown, hts⟩ (c_X9_operatorIn l dC dI cI cJ cB  H.size r_3) ⟨va_cnB 1 hts go_wo_X2_operatorsIn_2 rfl rfl rfl (hnw _ (by decide +kernel) : va_Nw (.methodLinkNest RX2 71 yX9_operatorIn "SumRewriter") s) (hts (.initialized RX9) (by decide +kernel)) (by decide +kernel) ⟨Nat.le_of_ble_eq_true rfl, Nat.le_of_ble_eq_true rfl⟩, hts (.static yX9_operatorIn) (by decide +kernel), trivial⟩ ⟨fun a U g mk q => by obtain ⟨q0, q1, qN, qP, qK, qD⟩ := q; exact ⟨q0, q1, NW.calling qN, qP, va_K.moved (u := U) (U := U.calling g mk a) (Vm.Alike.refl U.vm) qK, qD⟩, fun U hU hW => ⟨rfl, by rw [hU], NW.warm hW hnw, by rw [hU]; exact hPc, va_K.moved hW.alike hK, hDc.weaken (fun _ _ _ _ => trivial)⟩⟩ rfl rfl hl.1 rfl (lv_room (Nat.le_of_ble_eq_true rfl)) dX2_operatorsIn_36 ⟨Nat.zero_le _, Nat.zero_le _⟩) hS (fun q _ h => hFc q h) hFc (fun r_5 u t H1 locs ht hvm hw hB hz1 hk1 hS => ?_)
          cases u
          obtain ⟨hP1, hK1, hD1⟩ := hB
          rw [ht] at hP1
          clear hw
          obtain ⟨hP, hD⟩ := va_join (wr := [(ra, .inr (2, [.ref ra1, .ref ra2, .ref ra3, .int ra_u])), (ra1, .inl (cI, ra_n * 20, .inl ra_c)), (ra2, .inl (cI, ra_n, .inl ra_l)), (ra3, .inl (cI, 21, .inl ra_o))]) (w1 := []) hP hD [] [0, 1, 2, 3] rfl rfl (by decide) (by decide) hk1 hFc hP1 hD1
          generalize H1 = H at hP hS ⊢
          have hP : va_P (dC, dI) vwCl [(ra, .inr (2, [.ref ra1, .ref ra2, .ref ra3, .int ra_u])), (ra1, .inl (cI, ra_n * 20, .inl ra_c)), (ra2, .inl (cI, ra_n, .inl ra_l)), (ra3, .inl (cI, 21, .inl ra_o))] H := hP
          have hD : va_D (va_A (ww_X2_operatorsIn dC dI cI cJ cB ra ra1 ra2 ra3 s.heap.size ra_n ra_u ra_c ra_l ra_o p0) s.heap.size) [(ra, .inr (2, [.ref ra1, .ref ra2, .ref ra3, .int ra_u])), (ra1, .inl (cI, ra_n * 20, .inl ra_c)), (ra2, .inl (cI, ra_n, .inl ra_l)), (ra3, .inl (cI, 21, .inl ra_o))] := hD
          clear hPc hDc hFc hP1 hK1 hD1 hk1 hz1 ht hvm
          refine lv_ishl hx hb dX2_operatorsIn_39 ?_
          refine lv_topi (fun y_6 ey_6 => ?_)
          refine lv_ior hx hb dX2_operatorsIn_40 ?_
          refine lv_topi (fun y_7 ey_7 => ?_)
          refine lv_istore_n (lv' := [(2, .int y_7), (4, .int r_3), (0, .ref ra), (1, .int p0), (3, .int x3)]) hx hb dX2_operatorsIn_41 rfl hl (by decide) rfl (fun ls hl => ?_)
          obtain ⟨x3_8, ex3_8⟩ : ∃ y : Int32, y = x3 + (1) := ⟨_, rfl⟩
          refine lv_iinc (v := x3_8) (lv' := [(3, .int x3_8), (2, .int y_7), (4, .int r_3), (0, .ref ra), (1, .int p0)]) hx hb dX2_operatorsIn_42 hl (k := 4) rfl (by rw [ex3_8]; rfl) (by decide) rfl (fun ls hl => ?_)
          have := ti_rng x3
          have tex3_8 : x3_8.toInt = x3.toInt + (1) := ti_inc ex3_8 (by decide) (by omega) (by omega)
          refine lv_goto (tgt := 4) hx hb dX2_operatorsIn_45 (by decide) ?_
          exact ih_4 y_7 x3_8 (by omega) _ _ (hP.sub [0, 1, 2, 3] rfl) (hD.sub [0, 1, 2, 3] (by decide) rfl) hS ls (lv_sub hl [3, 4, 1, 0] rfl)
        · have tc_4 : r_3.toInt < 8 := tb_ge_f c_4
          refine lv_iconst (v := 0) hx hb dX2_operatorsIn_29 (by decide) ?_
          refine lv_goto (tgt := 40) hx hb dX2_operatorsIn_30 (by decide) ?_
          refine lv_ior hx hb dX2_operatorsIn_40 ?_
          refine lv_topi (fun y_9 ey_9 => ?_)
          refine lv_istore_n (lv' := [(2, .int y_9), (4, .int r_3), (0, .ref ra), (1, .int p0), (3, .int x3)]) hx hb dX2_operatorsIn_41 rfl hl (by decide) rfl (fun ls hl => ?_)
          obtain ⟨x3_10, ex3_10⟩ : ∃ y : Int32, y = x3 + (1) := ⟨_, rfl⟩
          refine lv_iinc (v := x3_10) (lv' := [(3, .int x3_10), (2, .int y_9), (4, .int r_3), (0, .ref ra), (1, .int p0)]) hx hb dX2_operatorsIn_42 hl (k := 4) rfl (by rw [ex3_10]; rfl) (by decide) rfl (fun ls hl => ?_)
          have := ti_rng x3
          have tex3_10 : x3_10.toInt = x3.toInt + (1) := ti_inc ex3_10 (by decide) (by omega) (by omega)
          refine lv_goto (tgt := 4) hx hb dX2_operatorsIn_45 (by decide) ?_
          exact ih_4 y_9 x3_10 (by omega) _ _ (hP.sub [0, 1, 2, 3] rfl) (hD.sub [0, 1, 2, 3] (by decide) rfl) hS ls (lv_sub hl [3, 4, 1, 0] rfl)
  refine lv_iconst (v := 0) hx hb dX2_operatorsIn_0 (by decide) ?_
  refine lv_istore_n (lv' := [(2, .int ((0 : Int32))), (0, .ref ra), (1, .int p0)]) hx hb dX2_operatorsIn_1 rfl hl (by decide) rfl (fun ls hl => ?_)
  refine lv_iconst (v := 0) hx hb dX2_operatorsIn_2 (by decide) ?_
  refine lv_istore_n (lv' := [(3, .int ((0 : Int32))), (2, .int ((0 : Int32))), (0, .ref ra), (1, .int p0)]) hx hb dX2_operatorsIn_3 rfl hl (by decide) rfl (fun ls hl => ?_)
  exact L_4 (((2147483647 - ((0 : Int32)).toInt).toNat) + 1) ((0 : Int32)) ((0 : Int32)) (Nat.lt_succ_self _) _ _ (hP.sub [0, 1, 2, 3] rfl) (hD.sub [0, 1, 2, 3] (by decide) rfl) hS ls (lv_sub hl [2, 3, 1, 0] rfl)
def wo_X2_partsWith : List Cond := .code yX2_partsWith cX2_partsWith 6 (some .int) :: (([.initialized RX9, .static yX9_operatorIn, .static yX9_partsIn] : List Cond) ++ ((wsV RX2 46 RX2 yX2_cellAt wo_X2_cellAt) ++ ((wo_X9_operatorIn) ++ ((wsV RX2 74 RX2 yX2_spanAt wo_X2_spanAt) ++ ((wo_X9_partsIn))))))
set_option maxRecDepth 20000 in
theorem go_wo_X2_partsWith_0 : GoodIn wo_X2_partsWith (wsV RX2 46 RX2 yX2_cellAt wo_X2_cellAt) := goodIn_sub (fun _ h => (List.mem_cons_of_mem _ (List.mem_append_right _ (List.mem_append_left _ h)))) (by decide +kernel)
set_option maxRecDepth 20000 in
theorem go_wo_X2_partsWith_1 : GoodIn wo_X2_partsWith (wo_X9_operatorIn) := goodIn_sub (fun _ h => (List.mem_cons_of_mem _ (List.mem_append_right _ (List.mem_append_right _ (List.mem_append_left _ h))))) (by decide +kernel)
set_option maxRecDepth 20000 in
theorem go_wo_X2_partsWith_2 : GoodIn wo_X2_partsWith (wsV RX2 74 RX2 yX2_spanAt wo_X2_spanAt) := goodIn_sub (fun _ h => (List.mem_cons_of_mem _ (List.mem_append_right _ (List.mem_append_right _ (List.mem_append_right _ (List.mem_append_left _ h)))))) (by decide +kernel)
set_option maxRecDepth 20000 in
theorem go_wo_X2_partsWith_3 : GoodIn wo_X2_partsWith (wo_X9_partsIn) := goodIn_sub (fun _ h => (List.mem_cons_of_mem _ (List.mem_append_right _ (List.mem_append_right _ (List.mem_append_right _ (List.mem_append_right _ h)))))) (by decide +kernel)
abbrev ww_X2_partsWith (dC : Nat → ClassId) (dI : Nat → Nat → Nat) (cI cJ cB : ClassId) (ra ra1 ra2 ra3 : Nat) (sz : Nat) (ra_n : Nat) (ra_u : Int32) (ra_c : Nat → Int32) (ra_l : Nat → Int32) (ra_o : Nat → Int32) (p0 : Int32) (p1 : Int32) : va_W := [(ra, .inr (2, [.ref ra1, .ref ra2, .ref ra3, .int ra_u])), (ra1, .inl (cI, ra_n * 20, .inl ra_c)), (ra2, .inl (cI, ra_n, .inl ra_l)), (ra3, .inl (cI, 21, .inl ra_o))]
abbrev at_X2_partsWith (dC : Nat → ClassId) (dI : Nat → Nat → Nat) (cI cJ cB : ClassId) (ra ra1 ra2 ra3 : Nat) (sz : Nat) (ra_n : Nat) (ra_u : Int32) (ra_c : Nat → Int32) (ra_l : Nat → Int32) (ra_o : Nat → Int32) (p0 : Int32) (p1 : Int32) (u : Unit) (t : State) : Prop := match u with
  | () => va_P (dC, dI) vwCl [(ra, .inr (2, [.ref ra1, .ref ra2, .ref ra3, .int ra_u])), (ra1, .inl (cI, ra_n * 20, .inl ra_c)), (ra2, .inl (cI, ra_n, .inl ra_l)), (ra3, .inl (cI, 21, .inl ra_o))] t.heap ∧ va_K (dC, dI) vwCl (tyL cI cJ cB) t ∧ va_D (va_A (ww_X2_partsWith dC dI cI cJ cB ra ra1 ra2 ra3 sz ra_n ra_u ra_c ra_l ra_o p0 p1) sz) [(ra, .inr (2, [.ref ra1, .ref ra2, .ref ra3, .int ra_u])), (ra1, .inl (cI, ra_n * 20, .inl ra_c)), (ra2, .inl (cI, ra_n, .inl ra_l)), (ra3, .inl (cI, 21, .inl ra_o))]
abbrev qc_X2_partsWith (dC : Nat → ClassId) (dI : Nat → Nat → Nat) (cI cJ cB : ClassId) (ra ra1 ra2 ra3 : Nat) (sz : Nat) (ra_n : Nat) (ra_u : Int32) (ra_c : Nat → Int32) (ra_l : Nat → Int32) (ra_o : Nat → Int32) (p0 : Int32) (p1 : Int32) : Array Value → State → Outcome → State → Prop := va_Qi (fun (r : Int32) (u : Unit) => match u with | () => True) (at_X2_partsWith dC dI cI cJ cB ra ra1 ra2 ra3 sz ra_n ra_u ra_c ra_l ra_o p0 p1) (va_A (ww_X2_partsWith dC dI cI cJ cB ra ra1 ra2 ra3 sz ra_n ra_u ra_c ra_l ra_o p0 p1) sz)
abbrev pc_X2_partsWith (dC : Nat → ClassId) (dI : Nat → Nat → Nat) (cI cJ cB : ClassId) (ra ra1 ra2 ra3 : Nat) (sz : Nat) (ra_n : Nat) (ra_u : Int32) (ra_c : Nat → Int32) (ra_l : Nat → Int32) (ra_o : Nat → Int32) (p0 : Int32) (p1 : Int32) : Array Value → State → Prop := va_Pc [.ref ra, .int p0, .int p1] (fun U => U.heap.size = sz ∧ NW U ∧ va_P (dC, dI) vwCl (ww_X2_partsWith dC dI cI cJ cB ra ra1 ra2 ra3 sz ra_n ra_u ra_c ra_l ra_o p0 p1) U.heap ∧ va_K (dC, dI) vwCl (tyL cI cJ cB) U ∧ va_D (fun _ => True) (ww_X2_partsWith dC dI cI cJ cB ra ra1 ra2 ra3 sz ra_n ra_u ra_c ra_l ra_o p0 p1))
abbrev rm_X2_partsWith : Room := { frames := 2, cells := 0, slots := 0, locals := 48 }
abbrev WW_X2_partsWith (p : Program) (l : Launch) (e : Env) (s : State) (m : MethodId) (below : List Frame) (meth : Method) (c : Code) (dC : Nat → ClassId) (dI : Nat → Nat → Nat) (cI cJ cB : ClassId) (ra ra1 ra2 ra3 : Nat) (sz : Nat) (ra_n : Nat) (ra_u : Int32) (ra_c : Nat → Int32) (ra_l : Nat → Int32) (ra_o : Nat → Int32) (p0 : Int32) (p1 : Int32) (H : Heap) (locs : List Loc) (g : JFrame) : Prop := W p l e rm_X2_partsWith s m ([.ref ra, .int p0, .int p1] : List Value).toArray below meth c H locs 0 0 (MQ below (qc_X2_partsWith dC dI cI cJ cB ra ra1 ra2 ra3 sz ra_n ra_u ra_c ra_l ra_o p0 p1) ([.ref ra, .int p0, .int p1] : List Value).toArray s 0 0 (va_A (ww_X2_partsWith dC dI cI cJ cB ra ra1 ra2 ra3 sz ra_n ra_u ra_c ra_l ra_o p0 p1) sz)) g
set_option maxHeartbeats 4000000 in
set_option maxRecDepth 100000 in
theorem c_X2_partsWith (l : Launch) (dC : Nat → ClassId) (dI : Nat → Nat → Nat) (cI cJ cB : ClassId) (ra ra1 ra2 ra3 : Nat) (sz : Nat) (ra_n : Nat) (ra_u : Int32) (ra_c : Nat → Int32) (ra_l : Nat → Int32) (ra_o : Nat → Int32) (p0 : Int32) (p1 : Int32) (hn_ra : 1 ≤ ra_n ∧ ra_n ≤ 201) : Met l yX2_partsWith wo_X2_partsWith rm_X2_partsWith (pc_X2_partsWith dC dI cI cJ cB ra ra1 ra2 ra3 sz ra_n ra_u ra_c ra_l ra_o p0 p1) (qc_X2_partsWith dC dI cI cJ cB ra ra1 ra2 ra3 sz ra_n ra_u ra_c ra_l ra_o p0 p1) 0 0 (va_A (ww_X2_partsWith dC dI cI cJ cB ra ra1 ra2 ra3 sz ra_n ra_u ra_c ra_l ra_o p0 p1) sz) := by
  refine Met.ofW (cc := cX2_partsWith) (maxL := 6) (ret := (some .int)) (by decide) rfl ?_
  intro p e s m args below meth c s₁ B hml hv
  obtain ⟨rfl, hsz, hnw, hP, hK, hD0⟩ := hv
  have hx := B.exec
  have hb := B.bytes
  have hr := B.returns
  have hts := atoms_spec (ws := wo_X2_partsWith) B.pre
  have hown : s.vm.findClass RX2 = some m.cls := findClass_of_methodNamed B.named
  have hlocks := B.notSynchronized
  clear B
  subst hsz
  have hD := hD0.self (sz := s.heap.size)
  clear hD0
  have hA : ∀ q : Nat, s.heap.size ≤ q → (va_A (ww_X2_partsWith dC dI cI cJ cB ra ra1 ra2 ra3 s.heap.size ra_n ra_u ra_c ra_l ra_o p0 p1) s.heap.size) q := fun q h => Or.inr h
  have hS : va_S (va_A (ww_X2_partsWith dC dI cI cJ cB ra ra1 ra2 ra3 s.heap.size ra_n ra_u ra_c ra_l ra_o p0 p1) s.heap.size) s.heap s.heap [] := va_S.rf
  have hl := lv_entry ([.ref ra, .int p0, .int p1]) (n := 6) (Nat.le_of_ble_eq_true rfl)
  rw [lg_entry_eq]
  generalize (lg_sl ([.ref ra, .int p0, .int p1]) ++ List.replicate (6 - (lg_sl ([.ref ra, .int p0, .int p1])).length) Slot.unset).toArray = ls at hl ⊢
  have hl : lv_has ls 6 [(0, .ref ra), (1, .int p0), (2, .int p1)] := hl
  have hP : va_P (dC, dI) vwCl [(ra, .inr (2, [.ref ra1, .ref ra2, .ref ra3, .int ra_u])), (ra1, .inl (cI, ra_n * 20, .inl ra_c)), (ra2, .inl (cI, ra_n, .inl ra_l)), (ra3, .inl (cI, 21, .inl ra_o))] s.heap := hP
  have hD : va_D (va_A (ww_X2_partsWith dC dI cI cJ cB ra ra1 ra2 ra3 s.heap.size ra_n ra_u ra_c ra_l ra_o p0 p1) s.heap.size) [(ra, .inr (2, [.ref ra1, .ref ra2, .ref ra3, .int ra_u])), (ra1, .inl (cI, ra_n * 20, .inl ra_c)), (ra2, .inl (cI, ra_n, .inl ra_l)), (ra3, .inl (cI, 21, .inl ra_o))] := hD
  obtain ⟨H, hH⟩ : ∃ H, H = s.heap := ⟨_, rfl⟩
  obtain ⟨locs, hlc⟩ : ∃ L : List Loc, L = [] := ⟨_, rfl⟩
  have hS : va_S (va_A (ww_X2_partsWith dC dI cI cJ cB ra ra1 ra2 ra3 s.heap.size ra_n ra_u ra_c ra_l ra_o p0 p1) s.heap.size) s.heap H locs := by rw [hH, hlc]; exact hS
  have hP : va_P (dC, dI) vwCl [(ra, .inr (2, [.ref ra1, .ref ra2, .ref ra3, .int ra_u])), (ra1, .inl (cI, ra_n * 20, .inl ra_c)), (ra2, .inl (cI, ra_n, .inl ra_l)), (ra3, .inl (cI, 21, .inl ra_o))] H := by rw [hH]; exact hP
  suffices hgo : WW_X2_partsWith p l e s m below meth c dC dI cI cJ cB ra ra1 ra2 ra3 s.heap.size ra_n ra_u ra_c ra_l ra_o p0 p1 H locs (F0 m 0 ls []) by rw [hH, hlc] at hgo; exact hgo
  clear hH hlc
  have L_16 : ∀ (N_16 : Nat), ∀ (x3 : Int32) (x4 : Int32) (x5 : Int32), ((x5.toInt + 2147483648).toNat) < N_16 → ∀ (H : Heap) (locs : List Loc), va_P (dC, dI) vwCl [(ra, .inr (2, [.ref ra1, .ref ra2, .ref ra3, .int ra_u])), (ra1, .inl (cI, ra_n * 20, .inl ra_c)), (ra2, .inl (cI, ra_n, .inl ra_l)), (ra3, .inl (cI, 21, .inl ra_o))] H → va_D (va_A (ww_X2_partsWith dC dI cI cJ cB ra ra1 ra2 ra3 s.heap.size ra_n ra_u ra_c ra_l ra_o p0 p1) s.heap.size) [(ra, .inr (2, [.ref ra1, .ref ra2, .ref ra3, .int ra_u])), (ra1, .inl (cI, ra_n * 20, .inl ra_c)), (ra2, .inl (cI, ra_n, .inl ra_l)), (ra3, .inl (cI, 21, .inl ra_o))] → va_S (va_A (ww_X2_partsWith dC dI cI cJ cB ra ra1 ra2 ra3 s.heap.size ra_n ra_u ra_c ra_l ra_o p0 p1) s.heap.size) s.heap H locs → ∀ ls : Array Slot, lv_has ls 6 [(0, .ref ra), (1, .int p0), (2, .int p1), (3, .int x3), (4, .int x4), (5, .int x5)] → WW_X2_partsWith p l e s m below meth c dC dI cI cJ cB ra ra1 ra2 ra3 s.heap.size ra_n ra_u ra_c ra_l ra_o p0 p1 H locs (F0 m 16 ls []) := by
    intro N_16
    induction N_16 with
    | zero => intro x3 x4 x5  hm; exact absurd hm (Nat.not_lt_zero _)
    | succ N_16 ih_16 =>
      intro x3 x4 x5  hm_16 H locs hP hD hS ls hl
      refine lv_iload hx hb dX2_partsWith_16 (lv_at hl 5 rfl) ?_
      refine lv_if_le (tgt := 61) hx hb dX2_partsWith_18 (by decide) (fun c_1 => ?_) (fun c_1 => ?_)
      · have tc_1 : x5.toInt ≤ 0 := tb_le_t c_1
        refine lv_iload_n hx hb dX2_partsWith_61 rfl (lv_at hl 3 rfl) ?_
        have hP9 := hP.sub (ws' := [(ra, .inr (2, [.ref ra1, .ref ra2, .ref ra3, .int ra_u])), (ra1, .inl (cI, ra_n * 20, .inl ra_c)), (ra2, .inl (cI, ra_n, .inl ra_l)), (ra3, .inl (cI, 21, .inl ra_o))]) [0, 1, 2, 3] rfl
        have hD9 := hD.sub (ws' := [(ra, .inr (2, [.ref ra1, .ref ra2, .ref ra3, .int ra_u])), (ra1, .inl (cI, ra_n * 20, .inl ra_c)), (ra2, .inl (cI, ra_n, .inl ra_l)), (ra3, .inl (cI, 21, .inl ra_o))]) [0, 1, 2, 3] (by decide) rfl
        exact W.iret (v := x3) hx hb hr (fun t ht hW => ⟨⟨x3, (), rfl, trivial, by rw [ht]; exact hP9, va_K.moved hW.alike hK, hD9⟩, hS.F ht⟩) hS.2.2 dX2_partsWith_62
      · have tc_1 : 0 < x5.toInt := tb_le_f c_1
        refine lv_iload_n hx hb dX2_partsWith_21 rfl (lv_at hl 3 rfl) ?_
        refine lv_aload_n hx hb dX2_partsWith_22 rfl (lv_at hl 0 rfl) ?_
        refine lv_iload_n hx hb dX2_partsWith_23 rfl (lv_at hl 1 rfl) ?_
        refine lv_iload hx hb dX2_partsWith_24 (lv_at hl 4 rfl) ?_
        have hPc := hP.sub (ws' := [(ra, .inr (2, [.ref ra1, .ref ra2, .ref ra3, .int ra_u])), (ra1, .inl (cI, ra_n * 20, .inl ra_c)), (ra2, .inl (cI, ra_n, .inl ra_l)), (ra3, .inl (cI, 21, .inl ra_o))]) [0, 1, 2, 3] rfl
        have hDc := hD.sub (ws' := [(ra, .inr (2, [.ref ra1, .ref ra2, .ref ra3, .int ra_u])), (ra1, .inl (cI, ra_n * 20, .inl ra_c)), (ra2, .inl (cI, ra_n, .inl ra_l)), (ra3, .inl (cI, 21, .inl ra_o))]) [0, 1, 2, 3] (by decide) rfl
        have hFc := va_free (wc := [(ra, .inr (2, [.ref ra1, .ref ra2, .ref ra3, .int ra_u])), (ra1, .inl (cI, ra_n * 20, .inl ra_c)), (ra2, .inl (cI, ra_n, .inl ra_l)), (ra3, .inl (cI, 21, .inl ra_o))]) hD hS hA [0, 1, 2, 3] rfl
        refine va_calli (va_runV (As := [.int p0, .int x4]) (rest := [.int x3]) ⟨hx, hb, hml, hown, hts⟩ (c_X2_cellAt l dC dI cI cJ cB ra ra1 ra2 ra3 H.size ra_n ra_u ra_c ra_l ra_o p0 x4 (by first | assumption | omega | decide | (simp only [lt0, lt1, ltm1, lt400] at *; omega))) (cwV 2 hts go_wo_X2_partsWith_0 rfl rfl rfl (by decide +kernel) ⟨Nat.le_of_ble_eq_true rfl, Nat.le_of_ble_eq_true rfl⟩) ⟨fun a U g mk q => by obtain ⟨q0, q1, qN, qP, qK, qD⟩ := q; exact ⟨q0, q1, NW.calling qN, qP, va_K.moved (u := U) (U := U.calling g mk a) (Vm.Alike.refl U.vm) qK, qD⟩, va_recv hK hPc (ci := 2) (q0 := 0) rfl rfl, fun U hU hW => ⟨rfl, by rw [hU], NW.warm hW hnw, by rw [hU]; exact hPc, va_K.moved hW.alike hK, hDc.weaken (fun _ _ _ _ => trivial)⟩⟩ rfl rfl hl.1 rfl (lv_room (Nat.le_of_ble_eq_true rfl)) dX2_partsWith_26 ⟨Nat.zero_le _, Nat.zero_le _⟩) hS (fun q _ h => hFc q h) hFc (fun r_2 u t H1 locs ht hvm hw hB hz1 hk1 hS => ?_)
        cases u
        obtain ⟨hP1, hK1, hD1⟩ := hB
        rw [ht] at hP1
        clear hw
        obtain ⟨hP, hD⟩ := va_join (wr := []) (w1 := [(ra, .inr (2, [.ref ra1, .ref ra2, .ref ra3, .int ra_u])), (ra1, .inl (cI, ra_n * 20, .inl ra_c)), (ra2, .inl (cI, ra_n, .inl ra_l)), (ra3, .inl (cI, 21, .inl ra_o))]) hP hD [0, 1, 2, 3] [] rfl rfl (by decide) (by decide) hk1 hFc hP1 hD1
        generalize H1 = H at hP hS ⊢
        have hP : va_P (dC, dI) vwCl [(ra, .inr (2, [.ref ra1, .ref ra2, .ref ra3, .int ra_u])), (ra1, .inl (cI, ra_n * 20, .inl ra_c)), (ra2, .inl (cI, ra_n, .inl ra_l)), (ra3, .inl (cI, 21, .inl ra_o))] H := hP
        have hD : va_D (va_A (ww_X2_partsWith dC dI cI cJ cB ra ra1 ra2 ra3 s.heap.size ra_n ra_u ra_c ra_l ra_o p0 p1) s.heap.size) [(ra, .inr (2, [.ref ra1, .ref ra2, .ref ra3, .int ra_u])), (ra1, .inl (cI, ra_n * 20, .inl ra_c)), (ra2, .inl (cI, ra_n, .inl ra_l)), (ra3, .inl (cI, 21, .inl ra_o))] := hD
        clear hPc hDc hFc hP1 hK1 hD1 hk1 hz1 ht hvm
        have hPc := hP.sub (ws' := []) [] rfl
        have hDc := hD.sub (ws' := []) [] (by decide) rfl
        have hFc := va_free (wc := []) hD hS hA [] rfl
        refine va_calli (va_runSN (host := "SumRewriter") (As := [.int r_2]) (rest := [.int x3]) ⟨hx, hb, hml, hown, hts⟩ (c_X9_operatorIn l dC dI cI cJ cB  H.size r_2) ⟨va_cnB 1 hts go_wo_X2_partsWith_1 rfl rfl rfl (hnw _ (by decide +kernel) : va_Nw (.methodLinkNest RX2 71 yX9_operatorIn "SumRewriter") s) (hts (.initialized RX9) (by decide +kernel)) (by decide +kernel) ⟨Nat.le_of_ble_eq_true rfl, Nat.le_of_ble_eq_true rfl⟩, hts (.static yX9_operatorIn) (by decide +kernel), trivial⟩ ⟨fun a U g mk q => by obtain ⟨q0, q1, qN, qP, qK, qD⟩ := q; exact ⟨q0, q1, NW.calling qN, qP, va_K.moved (u := U) (U := U.calling g mk a) (Vm.Alike.refl U.vm) qK, qD⟩, fun U hU hW => ⟨rfl, by rw [hU], NW.warm hW hnw, by rw [hU]; exact hPc, va_K.moved hW.alike hK, hDc.weaken (fun _ _ _ _ => trivial)⟩⟩ rfl rfl hl.1 rfl (lv_room (Nat.le_of_ble_eq_true rfl)) dX2_partsWith_29 ⟨Nat.zero_le _, Nat.zero_le _⟩) hS (fun q _ h => hFc q h) hFc (fun r_3 u t H1 locs ht hvm hw hB hz1 hk1 hS => ?_)
        cases u
        obtain ⟨hP1, hK1, hD1⟩ := hB
        rw [ht] at hP1
        clear hw
        obtain ⟨hP, hD⟩ := va_join (wr := [(ra, .inr (2, [.ref ra1, .ref ra2, .ref ra3, .int ra_u])), (ra1, .inl (cI, ra_n * 20, .inl ra_c)), (ra2, .inl (cI, ra_n, .inl ra_l)), (ra3, .inl (cI, 21, .inl ra_o))]) (w1 := []) hP hD [] [0, 1, 2, 3] rfl rfl (by decide) (by decide) hk1 hFc hP1 hD1
        generalize H1 = H at hP hS ⊢
        have hP : va_P (dC, dI) vwCl [(ra, .inr (2, [.ref ra1, .ref ra2, .ref ra3, .int ra_u])), (ra1, .inl (cI, ra_n * 20, .inl ra_c)), (ra2, .inl (cI, ra_n, .inl ra_l)), (ra3, .inl (cI, 21, .inl ra_o))] H := hP
        have hD : va_D (va_A (ww_X2_partsWith dC dI cI cJ cB ra ra1 ra2 ra3 s.heap.size ra_n ra_u ra_c ra_l ra_o p0 p1) s.heap.size) [(ra, .inr (2, [.ref ra1, .ref ra2, .ref ra3, .int ra_u])), (ra1, .inl (cI, ra_n * 20, .inl ra_c)), (ra2, .inl (cI, ra_n, .inl ra_l)), (ra3, .inl (cI, 21, .inl ra_o))] := hD
        clear hPc hDc hFc hP1 hK1 hD1 hk1 hz1 ht hvm
        refine lv_iload_n hx hb dX2_partsWith_32 rfl (lv_at hl 2 rfl) ?_
        refine lv_icmp_ne (tgt := 40) hx hb dX2_partsWith_33 (by decide) (fun c_4 => ?_) (fun c_4 => ?_)
        · have tc_4 : ¬ (r_3.toInt = p1.toInt) := tb_ne_t c_4
          have := ti_rng r_3
          have := ti_rng p1
          refine lv_iconst (v := 0) hx hb dX2_partsWith_40 (by decide) ?_
          refine lv_iadd hx hb dX2_partsWith_41 ?_
          refine lv_topi (fun y_5 ey_5 => ?_)
          have := ti_rng x3
          have tey_5 : y_5.toInt = x3.toInt + 0 := ti_add2 ey_5 rfl (by decide) (by omega) (by omega)
          refine lv_istore_n (lv' := [(3, .int y_5), (0, .ref ra), (1, .int p0), (2, .int p1), (4, .int x4), (5, .int x5)]) hx hb dX2_partsWith_42 rfl hl (by decide) rfl (fun ls hl => ?_)
          refine lv_iload hx hb dX2_partsWith_43 (lv_at hl 4 rfl) ?_
          refine lv_aload_n hx hb dX2_partsWith_45 rfl (lv_at hl 1 rfl) ?_
          refine lv_iload_n hx hb dX2_partsWith_46 rfl (lv_at hl 2 rfl) ?_
          refine lv_iload hx hb dX2_partsWith_47 (lv_at hl 4 rfl) ?_
          have hPc := hP.sub (ws' := [(ra, .inr (2, [.ref ra1, .ref ra2, .ref ra3, .int ra_u])), (ra1, .inl (cI, ra_n * 20, .inl ra_c)), (ra2, .inl (cI, ra_n, .inl ra_l)), (ra3, .inl (cI, 21, .inl ra_o))]) [0, 1, 2, 3] rfl
          have hDc := hD.sub (ws' := [(ra, .inr (2, [.ref ra1, .ref ra2, .ref ra3, .int ra_u])), (ra1, .inl (cI, ra_n * 20, .inl ra_c)), (ra2, .inl (cI, ra_n, .inl ra_l)), (ra3, .inl (cI, 21, .inl ra_o))]) [0, 1, 2, 3] (by decide) rfl
          have hFc := va_free (wc := [(ra, .inr (2, [.ref ra1, .ref ra2, .ref ra3, .int ra_u])), (ra1, .inl (cI, ra_n * 20, .inl ra_c)), (ra2, .inl (cI, ra_n, .inl ra_l)), (ra3, .inl (cI, 21, .inl ra_o))]) hD hS hA [0, 1, 2, 3] rfl
          refine va_calli (va_runV (As := [.int p0, .int x4]) (rest := [.int x4]) ⟨hx, hb, hml, hown, hts⟩ (c_X2_spanAt l dC dI cI cJ cB ra ra1 ra2 ra3 H.size ra_n ra_u ra_c ra_l ra_o p0 x4 (by first | assumption | omega | decide | (simp only [lt0, lt1, ltm1, lt400] at *; omega))) (cwV 2 hts go_wo_X2_partsWith_2 rfl rfl rfl (by decide +kernel) ⟨Nat.le_of_ble_eq_true rfl, Nat.le_of_ble_eq_true rfl⟩) ⟨fun a U g mk q => by obtain ⟨q0, q1, qN, qP, qK, qD⟩ := q; exact ⟨q0, q1, NW.calling qN, qP, va_K.moved (u := U) (U := U.calling g mk a) (Vm.Alike.refl U.vm) qK, qD⟩, va_recv hK hPc (ci := 2) (q0 := 0) rfl rfl, fun U hU hW => ⟨rfl, by rw [hU], NW.warm hW hnw, by rw [hU]; exact hPc, va_K.moved hW.alike hK, hDc.weaken (fun _ _ _ _ => trivial)⟩⟩ rfl rfl hl.1 rfl (lv_room (Nat.le_of_ble_eq_true rfl)) dX2_partsWith_49 ⟨Nat.zero_le _, Nat.zero_le _⟩) hS (fun q _ h => hFc q h) hFc (fun r_6 u t H1 locs ht hvm hw hB hz1 hk1 hS => ?_)
          cases u
          obtain ⟨hP1, hK1, hD1⟩ := hB
          rw [ht] at hP1
          clear hw
          obtain ⟨hP, hD⟩ := va_join (wr := []) (w1 := [(ra, .inr (2, [.ref ra1, .ref ra2, .ref ra3, .int ra_u])), (ra1, .inl (cI, ra_n * 20, .inl ra_c)), (ra2, .inl (cI, ra_n, .inl ra_l)), (ra3, .inl (cI, 21, .inl ra_o))]) hP hD [0, 1, 2, 3] [] rfl rfl (by decide) (by decide) hk1 hFc hP1 hD1
          generalize H1 = H at hP hS ⊢
          have hP : va_P (dC, dI) vwCl [(ra, .inr (2, [.ref ra1, .ref ra2, .ref ra3, .int ra_u])), (ra1, .inl (cI, ra_n * 20, .inl ra_c)), (ra2, .inl (cI, ra_n, .inl ra_l)), (ra3, .inl (cI, 21, .inl ra_o))] H := hP
          have hD : va_D (va_A (ww_X2_partsWith dC dI cI cJ cB ra ra1 ra2 ra3 s.heap.size ra_n ra_u ra_c ra_l ra_o p0 p1) s.heap.size) [(ra, .inr (2, [.ref ra1, .ref ra2, .ref ra3, .int ra_u])), (ra1, .inl (cI, ra_n * 20, .inl ra_c)), (ra2, .inl (cI, ra_n, .inl ra_l)), (ra3, .inl (cI, 21, .inl ra_o))] := hD
          clear hPc hDc hFc hP1 hK1 hD1 hk1 hz1 ht hvm
          refine lv_iadd hx hb dX2_partsWith_52 ?_
          refine lv_topi (fun y_7 ey_7 => ?_)
          refine lv_istore (lv' := [(4, .int y_7), (3, .int y_5), (0, .ref ra), (1, .int p0), (2, .int p1), (5, .int x5)]) hx hb dX2_partsWith_53 hl (by decide) rfl (fun ls hl => ?_)
          obtain ⟨x5_8, ex5_8⟩ : ∃ y : Int32, y = x5 + (-1) := ⟨_, rfl⟩
          refine lv_iinc (v := x5_8) (lv' := [(5, .int x5_8), (4, .int y_7), (3, .int y_5), (0, .ref ra), (1, .int p0), (2, .int p1)]) hx hb dX2_partsWith_55 hl (k := 5) rfl (by rw [ex5_8]; rfl) (by decide) rfl (fun ls hl => ?_)
          have := ti_rng x5
          have tex5_8 : x5_8.toInt = x5.toInt + (-1) := ti_inc ex5_8 (by decide) (by omega) (by omega)
          refine lv_goto (tgt := 16) hx hb dX2_partsWith_58 (by decide) ?_
          exact ih_16 y_5 y_7 x5_8 (by omega) _ _ (hP.sub [0, 1, 2, 3] rfl) (hD.sub [0, 1, 2, 3] (by decide) rfl) hS ls (lv_sub hl [3, 4, 5, 2, 1, 0] rfl)
        · have tc_4 : r_3.toInt = p1.toInt := tb_ne_f c_4
          have := ti_rng r_3
          have := ti_rng p1
          refine lv_iconst (v := 1) hx hb dX2_partsWith_36 (by decide) ?_
          refine lv_goto (tgt := 41) hx hb dX2_partsWith_37 (by decide) ?_
          refine lv_iadd hx hb dX2_partsWith_41 ?_
          refine lv_topi (fun y_9 ey_9 => ?_)
          refine lv_istore_n (lv' := [(3, .int y_9), (0, .ref ra), (1, .int p0), (2, .int p1), (4, .int x4), (5, .int x5)]) hx hb dX2_partsWith_42 rfl hl (by decide) rfl (fun ls hl => ?_)
          refine lv_iload hx hb dX2_partsWith_43 (lv_at hl 4 rfl) ?_
          refine lv_aload_n hx hb dX2_partsWith_45 rfl (lv_at hl 1 rfl) ?_
          refine lv_iload_n hx hb dX2_partsWith_46 rfl (lv_at hl 2 rfl) ?_
          refine lv_iload hx hb dX2_partsWith_47 (lv_at hl 4 rfl) ?_
          have hPc := hP.sub (ws' := [(ra, .inr (2, [.ref ra1, .ref ra2, .ref ra3, .int ra_u])), (ra1, .inl (cI, ra_n * 20, .inl ra_c)), (ra2, .inl (cI, ra_n, .inl ra_l)), (ra3, .inl (cI, 21, .inl ra_o))]) [0, 1, 2, 3] rfl
          have hDc := hD.sub (ws' := [(ra, .inr (2, [.ref ra1, .ref ra2, .ref ra3, .int ra_u])), (ra1, .inl (cI, ra_n * 20, .inl ra_c)), (ra2, .inl (cI, ra_n, .inl ra_l)), (ra3, .inl (cI, 21, .inl ra_o))]) [0, 1, 2, 3] (by decide) rfl
          have hFc := va_free (wc := [(ra, .inr (2, [.ref ra1, .ref ra2, .ref ra3, .int ra_u])), (ra1, .inl (cI, ra_n * 20, .inl ra_c)), (ra2, .inl (cI, ra_n, .inl ra_l)), (ra3, .inl (cI, 21, .inl ra_o))]) hD hS hA [0, 1, 2, 3] rfl
          refine va_calli (va_runV (As := [.int p0, .int x4]) (rest := [.int x4]) ⟨hx, hb, hml, hown, hts⟩ (c_X2_spanAt l dC dI cI cJ cB ra ra1 ra2 ra3 H.size ra_n ra_u ra_c ra_l ra_o p0 x4 (by first | assumption | omega | decide | (simp only [lt0, lt1, ltm1, lt400] at *; omega))) (cwV 2 hts go_wo_X2_partsWith_2 rfl rfl rfl (by decide +kernel) ⟨Nat.le_of_ble_eq_true rfl, Nat.le_of_ble_eq_true rfl⟩) ⟨fun a U g mk q => by obtain ⟨q0, q1, qN, qP, qK, qD⟩ := q; exact ⟨q0, q1, NW.calling qN, qP, va_K.moved (u := U) (U := U.calling g mk a) (Vm.Alike.refl U.vm) qK, qD⟩, va_recv hK hPc (ci := 2) (q0 := 0) rfl rfl, fun U hU hW => ⟨rfl, by rw [hU], NW.warm hW hnw, by rw [hU]; exact hPc, va_K.moved hW.alike hK, hDc.weaken (fun _ _ _ _ => trivial)⟩⟩ rfl rfl hl.1 rfl (lv_room (Nat.le_of_ble_eq_true rfl)) dX2_partsWith_49 ⟨Nat.zero_le _, Nat.zero_le _⟩) hS (fun q _ h => hFc q h) hFc (fun r_10 u t H1 locs ht hvm hw hB hz1 hk1 hS => ?_)
          cases u
          obtain ⟨hP1, hK1, hD1⟩ := hB
          rw [ht] at hP1
          clear hw
          obtain ⟨hP, hD⟩ := va_join (wr := []) (w1 := [(ra, .inr (2, [.ref ra1, .ref ra2, .ref ra3, .int ra_u])), (ra1, .inl (cI, ra_n * 20, .inl ra_c)), (ra2, .inl (cI, ra_n, .inl ra_l)), (ra3, .inl (cI, 21, .inl ra_o))]) hP hD [0, 1, 2, 3] [] rfl rfl (by decide) (by decide) hk1 hFc hP1 hD1
          generalize H1 = H at hP hS ⊢
          have hP : va_P (dC, dI) vwCl [(ra, .inr (2, [.ref ra1, .ref ra2, .ref ra3, .int ra_u])), (ra1, .inl (cI, ra_n * 20, .inl ra_c)), (ra2, .inl (cI, ra_n, .inl ra_l)), (ra3, .inl (cI, 21, .inl ra_o))] H := hP
          have hD : va_D (va_A (ww_X2_partsWith dC dI cI cJ cB ra ra1 ra2 ra3 s.heap.size ra_n ra_u ra_c ra_l ra_o p0 p1) s.heap.size) [(ra, .inr (2, [.ref ra1, .ref ra2, .ref ra3, .int ra_u])), (ra1, .inl (cI, ra_n * 20, .inl ra_c)), (ra2, .inl (cI, ra_n, .inl ra_l)), (ra3, .inl (cI, 21, .inl ra_o))] := hD
          clear hPc hDc hFc hP1 hK1 hD1 hk1 hz1 ht hvm
          refine lv_iadd hx hb dX2_partsWith_52 ?_
          refine lv_topi (fun y_11 ey_11 => ?_)
          refine lv_istore (lv' := [(4, .int y_11), (3, .int y_9), (0, .ref ra), (1, .int p0), (2, .int p1), (5, .int x5)]) hx hb dX2_partsWith_53 hl (by decide) rfl (fun ls hl => ?_)
          obtain ⟨x5_12, ex5_12⟩ : ∃ y : Int32, y = x5 + (-1) := ⟨_, rfl⟩
          refine lv_iinc (v := x5_12) (lv' := [(5, .int x5_12), (4, .int y_11), (3, .int y_9), (0, .ref ra), (1, .int p0), (2, .int p1)]) hx hb dX2_partsWith_55 hl (k := 5) rfl (by rw [ex5_12]; rfl) (by decide) rfl (fun ls hl => ?_)
          have := ti_rng x5
          have tex5_12 : x5_12.toInt = x5.toInt + (-1) := ti_inc ex5_12 (by decide) (by omega) (by omega)
          refine lv_goto (tgt := 16) hx hb dX2_partsWith_58 (by decide) ?_
          exact ih_16 y_9 y_11 x5_12 (by omega) _ _ (hP.sub [0, 1, 2, 3] rfl) (hD.sub [0, 1, 2, 3] (by decide) rfl) hS ls (lv_sub hl [3, 4, 5, 2, 1, 0] rfl)
  refine lv_iconst (v := 0) hx hb dX2_partsWith_0 (by decide) ?_
  refine lv_istore_n (lv' := [(3, .int ((0 : Int32))), (0, .ref ra), (1, .int p0), (2, .int p1)]) hx hb dX2_partsWith_1 rfl hl (by decide) rfl (fun ls hl => ?_)
  refine lv_iconst (v := 1) hx hb dX2_partsWith_2 (by decide) ?_
  refine lv_istore (lv' := [(4, .int ((1 : Int32))), (3, .int ((0 : Int32))), (0, .ref ra), (1, .int p0), (2, .int p1)]) hx hb dX2_partsWith_3 hl (by decide) rfl (fun ls hl => ?_)
  refine lv_aload_n hx hb dX2_partsWith_5 rfl (lv_at hl 2 rfl) ?_
  refine lv_iload_n hx hb dX2_partsWith_6 rfl (lv_at hl 3 rfl) ?_
  refine lv_iconst (v := 0) hx hb dX2_partsWith_7 (by decide) ?_
  have hPc := hP.sub (ws' := [(ra, .inr (2, [.ref ra1, .ref ra2, .ref ra3, .int ra_u])), (ra1, .inl (cI, ra_n * 20, .inl ra_c)), (ra2, .inl (cI, ra_n, .inl ra_l)), (ra3, .inl (cI, 21, .inl ra_o))]) [0, 1, 2, 3] rfl
  have hDc := hD.sub (ws' := [(ra, .inr (2, [.ref ra1, .ref ra2, .ref ra3, .int ra_u])), (ra1, .inl (cI, ra_n * 20, .inl ra_c)), (ra2, .inl (cI, ra_n, .inl ra_l)), (ra3, .inl (cI, 21, .inl ra_o))]) [0, 1, 2, 3] (by decide) rfl
  have hFc := va_free (wc := [(ra, .inr (2, [.ref ra1, .ref ra2, .ref ra3, .int ra_u])), (ra1, .inl (cI, ra_n * 20, .inl ra_c)), (ra2, .inl (cI, ra_n, .inl ra_l)), (ra3, .inl (cI, 21, .inl ra_o))]) hD hS hA [0, 1, 2, 3] rfl
  refine va_calli (va_runV (As := [.int p0, .int ((0 : Int32))]) (rest := []) ⟨hx, hb, hml, hown, hts⟩ (c_X2_cellAt l dC dI cI cJ cB ra ra1 ra2 ra3 H.size ra_n ra_u ra_c ra_l ra_o p0 ((0 : Int32)) (by first | assumption | omega | decide | (simp only [lt0, lt1, ltm1, lt400] at *; omega))) (cwV 2 hts go_wo_X2_partsWith_0 rfl rfl rfl (by decide +kernel) ⟨Nat.le_of_ble_eq_true rfl, Nat.le_of_ble_eq_true rfl⟩) ⟨fun a U g mk q => by obtain ⟨q0, q1, qN, qP, qK, qD⟩ := q; exact ⟨q0, q1, NW.calling qN, qP, va_K.moved (u := U) (U := U.calling g mk a) (Vm.Alike.refl U.vm) qK, qD⟩, va_recv hK hPc (ci := 2) (q0 := 0) rfl rfl, fun U hU hW => ⟨rfl, by rw [hU], NW.warm hW hnw, by rw [hU]; exact hPc, va_K.moved hW.alike hK, hDc.weaken (fun _ _ _ _ => trivial)⟩⟩ rfl rfl hl.1 rfl (lv_room (Nat.le_of_ble_eq_true rfl)) dX2_partsWith_8 ⟨Nat.zero_le _, Nat.zero_le _⟩) hS (fun q _ h => hFc q h) hFc (fun r_13 u t H1 locs ht hvm hw hB hz1 hk1 hS => ?_)
  cases u
  obtain ⟨hP1, hK1, hD1⟩ := hB
  rw [ht] at hP1
  clear hw
  obtain ⟨hP, hD⟩ := va_join (wr := []) (w1 := [(ra, .inr (2, [.ref ra1, .ref ra2, .ref ra3, .int ra_u])), (ra1, .inl (cI, ra_n * 20, .inl ra_c)), (ra2, .inl (cI, ra_n, .inl ra_l)), (ra3, .inl (cI, 21, .inl ra_o))]) hP hD [0, 1, 2, 3] [] rfl rfl (by decide) (by decide) hk1 hFc hP1 hD1
  generalize H1 = H at hP hS ⊢
  have hP : va_P (dC, dI) vwCl [(ra, .inr (2, [.ref ra1, .ref ra2, .ref ra3, .int ra_u])), (ra1, .inl (cI, ra_n * 20, .inl ra_c)), (ra2, .inl (cI, ra_n, .inl ra_l)), (ra3, .inl (cI, 21, .inl ra_o))] H := hP
  have hD : va_D (va_A (ww_X2_partsWith dC dI cI cJ cB ra ra1 ra2 ra3 s.heap.size ra_n ra_u ra_c ra_l ra_o p0 p1) s.heap.size) [(ra, .inr (2, [.ref ra1, .ref ra2, .ref ra3, .int ra_u])), (ra1, .inl (cI, ra_n * 20, .inl ra_c)), (ra2, .inl (cI, ra_n, .inl ra_l)), (ra3, .inl (cI, 21, .inl ra_o))] := hD
  clear hPc hDc hFc hP1 hK1 hD1 hk1 hz1 ht hvm
  have hPc := hP.sub (ws' := []) [] rfl
  have hDc := hD.sub (ws' := []) [] (by decide) rfl
  have hFc := va_free (wc := []) hD hS hA [] rfl
  refine va_calli (va_runSN (host := "SumRewriter") (As := [.int r_13]) (rest := []) ⟨hx, hb, hml, hown, hts⟩ (c_X9_partsIn l dC dI cI cJ cB  H.size r_13) ⟨va_cnB 1 hts go_wo_X2_partsWith_3 rfl rfl rfl (hnw _ (by decide +kernel) : va_Nw (.methodLinkNest RX2 65 yX9_partsIn "SumRewriter") s) (hts (.initialized RX9) (by decide +kernel)) (by decide +kernel) ⟨Nat.le_of_ble_eq_true rfl, Nat.le_of_ble_eq_true rfl⟩, hts (.static yX9_partsIn) (by decide +kernel), trivial⟩ ⟨fun a U g mk q => by obtain ⟨q0, q1, qN, qP, qK, qD⟩ := q; exact ⟨q0, q1, NW.calling qN, qP, va_K.moved (u := U) (U := U.calling g mk a) (Vm.Alike.refl U.vm) qK, qD⟩, fun U hU hW => ⟨rfl, by rw [hU], NW.warm hW hnw, by rw [hU]; exact hPc, va_K.moved hW.alike hK, hDc.weaken (fun _ _ _ _ => trivial)⟩⟩ rfl rfl hl.1 rfl (lv_room (Nat.le_of_ble_eq_true rfl)) dX2_partsWith_11 ⟨Nat.zero_le _, Nat.zero_le _⟩) hS (fun q _ h => hFc q h) hFc (fun r_14 u t H1 locs ht hvm hw hB hz1 hk1 hS => ?_)
  cases u
  obtain ⟨hP1, hK1, hD1⟩ := hB
  rw [ht] at hP1
  have hw : (0 ≤ r_14.toInt ∧ r_14.toInt ≤ 7) := hw
  have h_15 := hw
  obtain ⟨hP, hD⟩ := va_join (wr := [(ra, .inr (2, [.ref ra1, .ref ra2, .ref ra3, .int ra_u])), (ra1, .inl (cI, ra_n * 20, .inl ra_c)), (ra2, .inl (cI, ra_n, .inl ra_l)), (ra3, .inl (cI, 21, .inl ra_o))]) (w1 := []) hP hD [] [0, 1, 2, 3] rfl rfl (by decide) (by decide) hk1 hFc hP1 hD1
  generalize H1 = H at hP hS ⊢
  have hP : va_P (dC, dI) vwCl [(ra, .inr (2, [.ref ra1, .ref ra2, .ref ra3, .int ra_u])), (ra1, .inl (cI, ra_n * 20, .inl ra_c)), (ra2, .inl (cI, ra_n, .inl ra_l)), (ra3, .inl (cI, 21, .inl ra_o))] H := hP
  have hD : va_D (va_A (ww_X2_partsWith dC dI cI cJ cB ra ra1 ra2 ra3 s.heap.size ra_n ra_u ra_c ra_l ra_o p0 p1) s.heap.size) [(ra, .inr (2, [.ref ra1, .ref ra2, .ref ra3, .int ra_u])), (ra1, .inl (cI, ra_n * 20, .inl ra_c)), (ra2, .inl (cI, ra_n, .inl ra_l)), (ra3, .inl (cI, 21, .inl ra_o))] := hD
  clear hPc hDc hFc hP1 hK1 hD1 hk1 hz1 ht hvm
  refine lv_istore (lv' := [(5, .int r_14), (4, .int ((1 : Int32))), (3, .int ((0 : Int32))), (0, .ref ra), (1, .int p0), (2, .int p1)]) hx hb dX2_partsWith_14 hl (by decide) rfl (fun ls hl => ?_)
  exact L_16 (((r_14.toInt + 2147483648).toNat) + 1) ((0 : Int32)) ((1 : Int32)) r_14 (Nat.lt_succ_self _) _ _ (hP.sub [0, 1, 2, 3] rfl) (hD.sub [0, 1, 2, 3] (by decide) rfl) hS ls (lv_sub hl [3, 4, 5, 2, 1, 0] rfl)
