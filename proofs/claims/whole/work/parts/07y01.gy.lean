def wo_X5_addOperatory : List Cond := .code yX5_addOperator cX5_addOperator 5 none :: (([.fieldLink RX5 40 "SumRewriter$Signature" "lastingBits" "I", .fieldLink RX5 33 "SumRewriter$Signature" "operators" "I", .fieldLink RX5 9 "SumRewriter$Signature" "names" "[I", .fieldLink RX5 15 "SumRewriter$Signature" "kinds" "[I", .fieldLink RX5 18 "SumRewriter$Signature" "parts" "[I", .fieldLink RX5 21 "SumRewriter$Signature" "units" "[I"] : List Cond) ++ ((wsX50)))
abbrev ww_X5_addOperatory (dC : Nat → ClassId) (dI : Nat → Nat → Nat) (cI cJ cB : ClassId) (ga ga1 ga2 ga3 ga4 ga5 : Nat) (sz : Nat) (v_ga0 : Nat → Nat → Int32) (p0 : Int32) (p1 : Int32) (p2 : Int32) (p3 : Int32) (n9 : Nat) (v_ga1 : Nat → Nat → Int32) : va_W := [(ga, .inr (5, [.ref ga1, .ref ga2, .ref ga3, .ref ga4, .ref ga5, .int (v_ga0 0 0), .int (v_ga0 0 1), .int (v_ga0 0 2)])), (ga1, .inl (cI, 10, .inl (v_ga0 1))), (ga2, .inl (cI, 10, .inl (v_ga0 2))), (ga3, .inl (cI, 10, .inl (v_ga0 3))), (ga4, .inl (cI, 10, .inl (v_ga0 4))), (ga5, .inl (cI, 5, .inl (v_ga0 5)))]
abbrev at_X5_addOperatory (dC : Nat → ClassId) (dI : Nat → Nat → Nat) (cI cJ cB : ClassId) (ga ga1 ga2 ga3 ga4 ga5 : Nat) (sz : Nat) (v_ga0 : Nat → Nat → Int32) (p0 : Int32) (p1 : Int32) (p2 : Int32) (p3 : Int32) (n9 : Nat) (v_ga1 : Nat → Nat → Int32) (u : (Nat → Nat → Int32)) (t : State) : Prop := match u with
  | v_ga => va_P (dC, dI) vwCl [(ga, .inr (5, [.ref ga1, .ref ga2, .ref ga3, .ref ga4, .ref ga5, .int (v_ga 0 0), .int (v_ga 0 1), .int (v_ga 0 2)])), (ga1, .inl (cI, 10, .inl (v_ga 1))), (ga2, .inl (cI, 10, .inl (v_ga 2))), (ga3, .inl (cI, 10, .inl (v_ga 3))), (ga4, .inl (cI, 10, .inl (v_ga 4))), (ga5, .inl (cI, 5, .inl (v_ga 5)))] t.heap ∧ va_K (dC, dI) vwCl (tyL cI cJ cB) t ∧ va_D (va_A (ww_X5_addOperatory dC dI cI cJ cB ga ga1 ga2 ga3 ga4 ga5 sz v_ga0 p0 p1 p2 p3 n9 v_ga1) sz) [(ga, .inr (5, [.ref ga1, .ref ga2, .ref ga3, .ref ga4, .ref ga5, .int (v_ga 0 0), .int (v_ga 0 1), .int (v_ga 0 2)])), (ga1, .inl (cI, 10, .inl (v_ga 1))), (ga2, .inl (cI, 10, .inl (v_ga 2))), (ga3, .inl (cI, 10, .inl (v_ga 3))), (ga4, .inl (cI, 10, .inl (v_ga 4))), (ga5, .inl (cI, 5, .inl (v_ga 5)))]
abbrev qc_X5_addOperatory (dC : Nat → ClassId) (dI : Nat → Nat → Nat) (cI cJ cB : ClassId) (ga ga1 ga2 ga3 ga4 ga5 : Nat) (sz : Nat) (v_ga0 : Nat → Nat → Int32) (p0 : Int32) (p1 : Int32) (p2 : Int32) (p3 : Int32) (n9 : Nat) (v_ga1 : Nat → Nat → Int32) : Array Value → State → Outcome → State → Prop := va_Qv (fun (u : (Nat → Nat → Int32)) => match u with | v_ga => (v_ga = v_ga1)) (at_X5_addOperatory dC dI cI cJ cB ga ga1 ga2 ga3 ga4 ga5 sz v_ga0 p0 p1 p2 p3 n9 v_ga1) (va_A (ww_X5_addOperatory dC dI cI cJ cB ga ga1 ga2 ga3 ga4 ga5 sz v_ga0 p0 p1 p2 p3 n9 v_ga1) sz)
abbrev pc_X5_addOperatory (dC : Nat → ClassId) (dI : Nat → Nat → Nat) (cI cJ cB : ClassId) (ga ga1 ga2 ga3 ga4 ga5 : Nat) (sz : Nat) (v_ga0 : Nat → Nat → Int32) (p0 : Int32) (p1 : Int32) (p2 : Int32) (p3 : Int32) (n9 : Nat) (v_ga1 : Nat → Nat → Int32) : Array Value → State → Prop := va_Pc [.ref ga, .int p0, .int p1, .int p2, .int p3] (fun U => U.heap.size = sz ∧ NW U ∧ va_P (dC, dI) vwCl (ww_X5_addOperatory dC dI cI cJ cB ga ga1 ga2 ga3 ga4 ga5 sz v_ga0 p0 p1 p2 p3 n9 v_ga1) U.heap ∧ va_K (dC, dI) vwCl (tyL cI cJ cB) U ∧ va_D (fun _ => True) (ww_X5_addOperatory dC dI cI cJ cB ga ga1 ga2 ga3 ga4 ga5 sz v_ga0 p0 p1 p2 p3 n9 v_ga1))
abbrev rm_X5_addOperatory : Room := { frames := 0, cells := 0, slots := 0, locals := 0 }
abbrev WW_X5_addOperatory (p : Program) (l : Launch) (e : Env) (s : State) (m : MethodId) (below : List Frame) (meth : Method) (c : Code) (dC : Nat → ClassId) (dI : Nat → Nat → Nat) (cI cJ cB : ClassId) (ga ga1 ga2 ga3 ga4 ga5 : Nat) (sz : Nat) (v_ga0 : Nat → Nat → Int32) (p0 : Int32) (p1 : Int32) (p2 : Int32) (p3 : Int32) (n9 : Nat) (v_ga1 : Nat → Nat → Int32) (H : Heap) (locs : List Loc) (g : JFrame) : Prop := W p l e rm_X5_addOperatory s m ([.ref ga, .int p0, .int p1, .int p2, .int p3] : List Value).toArray below meth c H locs 0 0 (MQ below (qc_X5_addOperatory dC dI cI cJ cB ga ga1 ga2 ga3 ga4 ga5 sz v_ga0 p0 p1 p2 p3 n9 v_ga1) ([.ref ga, .int p0, .int p1, .int p2, .int p3] : List Value).toArray s 0 0 (va_A (ww_X5_addOperatory dC dI cI cJ cB ga ga1 ga2 ga3 ga4 ga5 sz v_ga0 p0 p1 p2 p3 n9 v_ga1) sz)) g
set_option maxHeartbeats 4000000 in
set_option maxRecDepth 100000 in
theorem c_X5_addOperatory (l : Launch) (dC : Nat → ClassId) (dI : Nat → Nat → Nat) (cI cJ cB : ClassId) (ga ga1 ga2 ga3 ga4 ga5 : Nat) (sz : Nat) (v_ga0 : Nat → Nat → Int32) (p0 : Int32) (p1 : Int32) (p2 : Int32) (p3 : Int32) (n9 : Nat) (v_ga1 : Nat → Nat → Int32) (hf : fx_X5_addOperator n9 v_ga0 p0 p1 p2 p3 = some (v_ga1)) : Met l yX5_addOperator wo_X5_addOperatory rm_X5_addOperatory (pc_X5_addOperatory dC dI cI cJ cB ga ga1 ga2 ga3 ga4 ga5 sz v_ga0 p0 p1 p2 p3 n9 v_ga1) (qc_X5_addOperatory dC dI cI cJ cB ga ga1 ga2 ga3 ga4 ga5 sz v_ga0 p0 p1 p2 p3 n9 v_ga1) 0 0 (va_A (ww_X5_addOperatory dC dI cI cJ cB ga ga1 ga2 ga3 ga4 ga5 sz v_ga0 p0 p1 p2 p3 n9 v_ga1) sz) := by
  unfold fx_X5_addOperator at hf
  refine Met.ofW (cc := cX5_addOperator) (maxL := 5) (ret := none) (by decide) rfl ?_
  intro p e s m args below meth c s₁ B hml hv
  obtain ⟨rfl, hsz, hnw, hP, hK, hD0⟩ := hv
  have hx := B.exec
  have hb := B.bytes
  have hr := B.returns
  have hts := atoms_spec (ws := wo_X5_addOperatory) B.pre
  have hown : s.vm.findClass RX5 = some m.cls := findClass_of_methodNamed B.named
  have hlocks := B.notSynchronized
  clear B
  subst hsz
  have hD := hD0.self (sz := s.heap.size)
  clear hD0
  have kk0_ := hts (.fieldLink RX5 40 "SumRewriter$Signature" "lastingBits" "I") (by decide +kernel)
  have kk1_ : ∀ w ∈ wsX50, w ∈ wo_X5_addOperatory := fun _ h => (List.mem_cons_of_mem _ (List.mem_append_right _ h))
  have kk2_ := hts (.fieldLink RX5 33 "SumRewriter$Signature" "operators" "I") (by decide +kernel)
  have kk3_ := hts (.fieldLink RX5 9 "SumRewriter$Signature" "names" "[I") (by decide +kernel)
  have kk4_ := hts (.fieldLink RX5 15 "SumRewriter$Signature" "kinds" "[I") (by decide +kernel)
  have kk5_ := hts (.fieldLink RX5 18 "SumRewriter$Signature" "parts" "[I") (by decide +kernel)
  have kk6_ := hts (.fieldLink RX5 21 "SumRewriter$Signature" "units" "[I") (by decide +kernel)
  have hA : ∀ q : Nat, s.heap.size ≤ q → (va_A (ww_X5_addOperatory dC dI cI cJ cB ga ga1 ga2 ga3 ga4 ga5 s.heap.size v_ga0 p0 p1 p2 p3 n9 v_ga1) s.heap.size) q := fun q h => Or.inr h
  have hS : va_S (va_A (ww_X5_addOperatory dC dI cI cJ cB ga ga1 ga2 ga3 ga4 ga5 s.heap.size v_ga0 p0 p1 p2 p3 n9 v_ga1) s.heap.size) s.heap s.heap [] := va_S.rf
  have hl := lv_entry ([.ref ga, .int p0, .int p1, .int p2, .int p3]) (n := 5) (Nat.le_of_ble_eq_true rfl)
  rw [lg_entry_eq]
  generalize (lg_sl ([.ref ga, .int p0, .int p1, .int p2, .int p3]) ++ List.replicate (5 - (lg_sl ([.ref ga, .int p0, .int p1, .int p2, .int p3])).length) Slot.unset).toArray = ls at hl ⊢
  have hl : lv_has ls 5 [(0, .ref ga), (1, .int p0), (2, .int p1), (3, .int p2), (4, .int p3)] := hl
  have hP : va_P (dC, dI) vwCl [(ga, .inr (5, [.ref ga1, .ref ga2, .ref ga3, .ref ga4, .ref ga5, .int (v_ga0 0 0), .int (v_ga0 0 1), .int (v_ga0 0 2)])), (ga1, .inl (cI, 10, .inl (v_ga0 1))), (ga2, .inl (cI, 10, .inl (v_ga0 2))), (ga3, .inl (cI, 10, .inl (v_ga0 3))), (ga4, .inl (cI, 10, .inl (v_ga0 4))), (ga5, .inl (cI, 5, .inl (v_ga0 5)))] s.heap := hP
  have hD : va_D (va_A (ww_X5_addOperatory dC dI cI cJ cB ga ga1 ga2 ga3 ga4 ga5 s.heap.size v_ga0 p0 p1 p2 p3 n9 v_ga1) s.heap.size) [(ga, .inr (5, [.ref ga1, .ref ga2, .ref ga3, .ref ga4, .ref ga5, .int (v_ga0 0 0), .int (v_ga0 0 1), .int (v_ga0 0 2)])), (ga1, .inl (cI, 10, .inl (v_ga0 1))), (ga2, .inl (cI, 10, .inl (v_ga0 2))), (ga3, .inl (cI, 10, .inl (v_ga0 3))), (ga4, .inl (cI, 10, .inl (v_ga0 4))), (ga5, .inl (cI, 5, .inl (v_ga0 5)))] := hD
  obtain ⟨H, hH⟩ : ∃ H, H = s.heap := ⟨_, rfl⟩
  obtain ⟨locs, hlc⟩ : ∃ L : List Loc, L = [] := ⟨_, rfl⟩
  have hS : va_S (va_A (ww_X5_addOperatory dC dI cI cJ cB ga ga1 ga2 ga3 ga4 ga5 s.heap.size v_ga0 p0 p1 p2 p3 n9 v_ga1) s.heap.size) s.heap H locs := by rw [hH, hlc]; exact hS
  have hP : va_P (dC, dI) vwCl [(ga, .inr (5, [.ref ga1, .ref ga2, .ref ga3, .ref ga4, .ref ga5, .int (v_ga0 0 0), .int (v_ga0 0 1), .int (v_ga0 0 2)])), (ga1, .inl (cI, 10, .inl (v_ga0 1))), (ga2, .inl (cI, 10, .inl (v_ga0 2))), (ga3, .inl (cI, 10, .inl (v_ga0 3))), (ga4, .inl (cI, 10, .inl (v_ga0 4))), (ga5, .inl (cI, 5, .inl (v_ga0 5)))] H := by rw [hH]; exact hP
  suffices hgo : WW_X5_addOperatory p l e s m below meth c dC dI cI cJ cB ga ga1 ga2 ga3 ga4 ga5 s.heap.size v_ga0 p0 p1 p2 p3 n9 v_ga1 H locs (F0 m 0 ls []) by rw [hH, hlc] at hgo; exact hgo
  clear hH hlc
  have J_79 : ∀ (z1 : Int32) (z2 : Int32) (v_ga : Nat → Nat → Int32), jx_X5_addOperator_79 n9 p0 p1 p2 p3 z1 z2 v_ga = some (v_ga1) → ∀ (H : Heap) (locs : List Loc), va_P (dC, dI) vwCl [(ga, .inr (5, [.ref ga1, .ref ga2, .ref ga3, .ref ga4, .ref ga5, .int (v_ga 0 0), .int (v_ga 0 1), .int (v_ga 0 2)])), (ga1, .inl (cI, 10, .inl (v_ga 1))), (ga2, .inl (cI, 10, .inl (v_ga 2))), (ga3, .inl (cI, 10, .inl (v_ga 3))), (ga4, .inl (cI, 10, .inl (v_ga 4))), (ga5, .inl (cI, 5, .inl (v_ga 5)))] H → va_D (va_A (ww_X5_addOperatory dC dI cI cJ cB ga ga1 ga2 ga3 ga4 ga5 s.heap.size v_ga0 p0 p1 p2 p3 n9 v_ga1) s.heap.size) [(ga, .inr (5, [.ref ga1, .ref ga2, .ref ga3, .ref ga4, .ref ga5, .int (v_ga 0 0), .int (v_ga 0 1), .int (v_ga 0 2)])), (ga1, .inl (cI, 10, .inl (v_ga 1))), (ga2, .inl (cI, 10, .inl (v_ga 2))), (ga3, .inl (cI, 10, .inl (v_ga 3))), (ga4, .inl (cI, 10, .inl (v_ga 4))), (ga5, .inl (cI, 5, .inl (v_ga 5)))] → va_S (va_A (ww_X5_addOperatory dC dI cI cJ cB ga ga1 ga2 ga3 ga4 ga5 s.heap.size v_ga0 p0 p1 p2 p3 n9 v_ga1) s.heap.size) s.heap H locs → ∀ ls : Array Slot, lv_has ls 5 [(0, .ref ga), (1, .int p0), (2, .int p1), (3, .int p2), (4, .int p3)] → WW_X5_addOperatory p l e s m below meth c dC dI cI cJ cB ga ga1 ga2 ga3 ga4 ga5 s.heap.size v_ga0 p0 p1 p2 p3 n9 v_ga1 H locs (F0 m 79 ls [.int z2, .int z1, .ref ga]) := by
    intro z1 z2 v_ga hf H locs hP hD hS ls hl
    unfold jx_X5_addOperator_79 at hf
    refine lv_ior hx hb dX5_addOperator_79 ?_
    refine lv_topi (fun y_1 ey_1 => ?_)
    replace hf := xl_to (v := z1 ||| z2) ey_1 hf
    refine va_put (D := (dC, dI)) (ci := 5) (v := .int y_1) (ty := .int) (C := RX5) (T := TX5) (N := 8) hx hb hts kk1_ tyX5 tyX5_ok nmX5 hown hK hP hD hS 0 rfl rfl 7 (by decide) kk0_ (fun _ h9 => h9) rfl (by decide +kernel) rfl rfl (Nat.le_of_ble_eq_true rfl) dX5_addOperator_80 (fun H locs hP hD hS => ?_)
    obtain ⟨v_ga_2, ev_ga_2⟩ : ∃ z, z = mu v_ga 0 2 y_1 := ⟨_, rfl⟩
    have hP : va_P (dC, dI) vwCl [(ga, .inr (5, [.ref ga1, .ref ga2, .ref ga3, .ref ga4, .ref ga5, .int (v_ga_2 0 0), .int (v_ga_2 0 1), .int (v_ga_2 0 2)])), (ga1, .inl (cI, 10, .inl (v_ga_2 1))), (ga2, .inl (cI, 10, .inl (v_ga_2 2))), (ga3, .inl (cI, 10, .inl (v_ga_2 3))), (ga4, .inl (cI, 10, .inl (v_ga_2 4))), (ga5, .inl (cI, 5, .inl (v_ga_2 5)))] H := by rw [ev_ga_2]; exact hP
    have hD : va_D (va_A (ww_X5_addOperatory dC dI cI cJ cB ga ga1 ga2 ga3 ga4 ga5 s.heap.size v_ga0 p0 p1 p2 p3 n9 v_ga1) s.heap.size) [(ga, .inr (5, [.ref ga1, .ref ga2, .ref ga3, .ref ga4, .ref ga5, .int (v_ga_2 0 0), .int (v_ga_2 0 1), .int (v_ga_2 0 2)])), (ga1, .inl (cI, 10, .inl (v_ga_2 1))), (ga2, .inl (cI, 10, .inl (v_ga_2 2))), (ga3, .inl (cI, 10, .inl (v_ga_2 3))), (ga4, .inl (cI, 10, .inl (v_ga_2 4))), (ga5, .inl (cI, 5, .inl (v_ga_2 5)))] := by rw [ev_ga_2]; exact hD
    replace hf := xl_to ev_ga_2 hf
    refine lv_aload_n hx hb dX5_addOperator_83 rfl (lv_at hl 0 rfl) ?_
    refine lv_dup hx hb dX5_addOperator_84 rfl ?_
    refine va_get (D := (dC, dI)) (ci := 5) (v := .int (v_ga_2 0 2)) (C := RX5) (T := TX5) (N := 8) hx hb hts kk1_ hown hK hP 0 rfl rfl 7 (by decide) kk0_ (fun _ h9 => h9) rfl dX5_addOperator_85 ?_
    refine lv_iload hx hb dX5_addOperator_88 (lv_at hl 4 rfl) ?_
    refine lv_if_ge (tgt := 97) hx hb dX5_addOperator_90 (by decide) (fun c_3 => ?_) (fun c_3 => ?_)
    · replace hf := xi_t c_3 hf
      refine lv_iconst (v := 1) hx hb dX5_addOperator_97 (by decide) ?_
      refine lv_iconst (v := 5) hx hb dX5_addOperator_98 (by decide) ?_
      refine lv_iload hx hb dX5_addOperator_99 (lv_at hl 4 rfl) ?_
      refine lv_iadd hx hb dX5_addOperator_101 ?_
      refine lv_topi (fun y_4 ey_4 => ?_)
      replace hf := xl_to (v := ((5 : Int32)) + p3) ey_4 hf
      refine lv_ishl hx hb dX5_addOperator_102 ?_
      refine lv_topi (fun y_5 ey_5 => ?_)
      replace hf := xl_to (v := ((1 : Int32)) <<< (y_4 &&& 31)) ey_5 hf
      refine lv_iconst (v := -1) hx hb dX5_addOperator_103 (by decide) ?_
      refine lv_ixor hx hb dX5_addOperator_104 ?_
      refine lv_topi (fun y_6 ey_6 => ?_)
      replace hf := xl_to (v := y_5 ^^^ ((-1 : Int32))) ey_6 hf
      refine lv_iand hx hb dX5_addOperator_105 ?_
      refine lv_topi (fun y_7 ey_7 => ?_)
      replace hf := xl_to (v := (v_ga_2 0 2) &&& y_6) ey_7 hf
      refine va_put (D := (dC, dI)) (ci := 5) (v := .int y_7) (ty := .int) (C := RX5) (T := TX5) (N := 8) hx hb hts kk1_ tyX5 tyX5_ok nmX5 hown hK hP hD hS 0 rfl rfl 7 (by decide) kk0_ (fun _ h9 => h9) rfl (by decide +kernel) rfl rfl (Nat.le_of_ble_eq_true rfl) dX5_addOperator_106 (fun H locs hP hD hS => ?_)
      obtain ⟨v_ga_8, ev_ga_8⟩ : ∃ z, z = mu v_ga_2 0 2 y_7 := ⟨_, rfl⟩
      have hP : va_P (dC, dI) vwCl [(ga, .inr (5, [.ref ga1, .ref ga2, .ref ga3, .ref ga4, .ref ga5, .int (v_ga_8 0 0), .int (v_ga_8 0 1), .int (v_ga_8 0 2)])), (ga1, .inl (cI, 10, .inl (v_ga_8 1))), (ga2, .inl (cI, 10, .inl (v_ga_8 2))), (ga3, .inl (cI, 10, .inl (v_ga_8 3))), (ga4, .inl (cI, 10, .inl (v_ga_8 4))), (ga5, .inl (cI, 5, .inl (v_ga_8 5)))] H := by rw [ev_ga_8]; exact hP
      have hD : va_D (va_A (ww_X5_addOperatory dC dI cI cJ cB ga ga1 ga2 ga3 ga4 ga5 s.heap.size v_ga0 p0 p1 p2 p3 n9 v_ga1) s.heap.size) [(ga, .inr (5, [.ref ga1, .ref ga2, .ref ga3, .ref ga4, .ref ga5, .int (v_ga_8 0 0), .int (v_ga_8 0 1), .int (v_ga_8 0 2)])), (ga1, .inl (cI, 10, .inl (v_ga_8 1))), (ga2, .inl (cI, 10, .inl (v_ga_8 2))), (ga3, .inl (cI, 10, .inl (v_ga_8 3))), (ga4, .inl (cI, 10, .inl (v_ga_8 4))), (ga5, .inl (cI, 5, .inl (v_ga_8 5)))] := by rw [ev_ga_8]; exact hD
      replace hf := xl_to ev_ga_8 hf
      refine lv_aload_n hx hb dX5_addOperator_109 rfl (lv_at hl 0 rfl) ?_
      refine lv_dup hx hb dX5_addOperator_110 rfl ?_
      refine va_get (D := (dC, dI)) (ci := 5) (v := .int (v_ga_8 0 0)) (C := RX5) (T := TX5) (N := 8) hx hb hts kk1_ hown hK hP 0 rfl rfl 5 (by decide) kk2_ (fun _ h9 => h9) rfl dX5_addOperator_111 ?_
      refine lv_iconst (v := 1) hx hb dX5_addOperator_114 (by decide) ?_
      refine lv_iadd hx hb dX5_addOperator_115 ?_
      refine lv_topi (fun y_9 ey_9 => ?_)
      replace hf := xl_to (v := (v_ga_8 0 0) + ((1 : Int32))) ey_9 hf
      refine va_put (D := (dC, dI)) (ci := 5) (v := .int y_9) (ty := .int) (C := RX5) (T := TX5) (N := 8) hx hb hts kk1_ tyX5 tyX5_ok nmX5 hown hK hP hD hS 0 rfl rfl 5 (by decide) kk2_ (fun _ h9 => h9) rfl (by decide +kernel) rfl rfl (Nat.le_of_ble_eq_true rfl) dX5_addOperator_116 (fun H locs hP hD hS => ?_)
      obtain ⟨v_ga_10, ev_ga_10⟩ : ∃ z, z = mu v_ga_8 0 0 y_9 := ⟨_, rfl⟩
      have hP : va_P (dC, dI) vwCl [(ga, .inr (5, [.ref ga1, .ref ga2, .ref ga3, .ref ga4, .ref ga5, .int (v_ga_10 0 0), .int (v_ga_10 0 1), .int (v_ga_10 0 2)])), (ga1, .inl (cI, 10, .inl (v_ga_10 1))), (ga2, .inl (cI, 10, .inl (v_ga_10 2))), (ga3, .inl (cI, 10, .inl (v_ga_10 3))), (ga4, .inl (cI, 10, .inl (v_ga_10 4))), (ga5, .inl (cI, 5, .inl (v_ga_10 5)))] H := by rw [ev_ga_10]; exact hP
      have hD : va_D (va_A (ww_X5_addOperatory dC dI cI cJ cB ga ga1 ga2 ga3 ga4 ga5 s.heap.size v_ga0 p0 p1 p2 p3 n9 v_ga1) s.heap.size) [(ga, .inr (5, [.ref ga1, .ref ga2, .ref ga3, .ref ga4, .ref ga5, .int (v_ga_10 0 0), .int (v_ga_10 0 1), .int (v_ga_10 0 2)])), (ga1, .inl (cI, 10, .inl (v_ga_10 1))), (ga2, .inl (cI, 10, .inl (v_ga_10 2))), (ga3, .inl (cI, 10, .inl (v_ga_10 3))), (ga4, .inl (cI, 10, .inl (v_ga_10 4))), (ga5, .inl (cI, 5, .inl (v_ga_10 5)))] := by rw [ev_ga_10]; exact hD
      replace hf := xl_to ev_ga_10 hf
      have hP9 := hP.sub (ws' := [(ga, .inr (5, [.ref ga1, .ref ga2, .ref ga3, .ref ga4, .ref ga5, .int (v_ga_10 0 0), .int (v_ga_10 0 1), .int (v_ga_10 0 2)])), (ga1, .inl (cI, 10, .inl (v_ga_10 1))), (ga2, .inl (cI, 10, .inl (v_ga_10 2))), (ga3, .inl (cI, 10, .inl (v_ga_10 3))), (ga4, .inl (cI, 10, .inl (v_ga_10 4))), (ga5, .inl (cI, 5, .inl (v_ga_10 5)))]) [0, 1, 2, 3, 4, 5] rfl
      have hD9 := hD.sub (ws' := [(ga, .inr (5, [.ref ga1, .ref ga2, .ref ga3, .ref ga4, .ref ga5, .int (v_ga_10 0 0), .int (v_ga_10 0 1), .int (v_ga_10 0 2)])), (ga1, .inl (cI, 10, .inl (v_ga_10 1))), (ga2, .inl (cI, 10, .inl (v_ga_10 2))), (ga3, .inl (cI, 10, .inl (v_ga_10 3))), (ga4, .inl (cI, 10, .inl (v_ga_10 4))), (ga5, .inl (cI, 5, .inl (v_ga_10 5)))]) [0, 1, 2, 3, 4, 5] (by decide) rfl
      have r9_0 : v_ga_10 = v_ga1 := (Option.some.inj hf)
      exact W.vret hx hb hr (fun t ht hW => ⟨⟨v_ga_10, rfl, r9_0, by rw [ht]; exact hP9, va_K.moved hW.alike hK, hD9⟩, hS.F ht⟩) hS.2.2 dX5_addOperator_119
    · replace hf := xi_f c_3 hf
      refine lv_iconst (v := -1) hx hb dX5_addOperator_93 (by decide) ?_
      refine lv_goto (tgt := 105) hx hb dX5_addOperator_94 (by decide) ?_
      refine lv_iand hx hb dX5_addOperator_105 ?_
      refine lv_topi (fun y_11 ey_11 => ?_)
      replace hf := xl_to (v := (v_ga_2 0 2) &&& ((-1 : Int32))) ey_11 hf
      refine va_put (D := (dC, dI)) (ci := 5) (v := .int y_11) (ty := .int) (C := RX5) (T := TX5) (N := 8) hx hb hts kk1_ tyX5 tyX5_ok nmX5 hown hK hP hD hS 0 rfl rfl 7 (by decide) kk0_ (fun _ h9 => h9) rfl (by decide +kernel) rfl rfl (Nat.le_of_ble_eq_true rfl) dX5_addOperator_106 (fun H locs hP hD hS => ?_)
      obtain ⟨v_ga_12, ev_ga_12⟩ : ∃ z, z = mu v_ga_2 0 2 y_11 := ⟨_, rfl⟩
      have hP : va_P (dC, dI) vwCl [(ga, .inr (5, [.ref ga1, .ref ga2, .ref ga3, .ref ga4, .ref ga5, .int (v_ga_12 0 0), .int (v_ga_12 0 1), .int (v_ga_12 0 2)])), (ga1, .inl (cI, 10, .inl (v_ga_12 1))), (ga2, .inl (cI, 10, .inl (v_ga_12 2))), (ga3, .inl (cI, 10, .inl (v_ga_12 3))), (ga4, .inl (cI, 10, .inl (v_ga_12 4))), (ga5, .inl (cI, 5, .inl (v_ga_12 5)))] H := by rw [ev_ga_12]; exact hP
      have hD : va_D (va_A (ww_X5_addOperatory dC dI cI cJ cB ga ga1 ga2 ga3 ga4 ga5 s.heap.size v_ga0 p0 p1 p2 p3 n9 v_ga1) s.heap.size) [(ga, .inr (5, [.ref ga1, .ref ga2, .ref ga3, .ref ga4, .ref ga5, .int (v_ga_12 0 0), .int (v_ga_12 0 1), .int (v_ga_12 0 2)])), (ga1, .inl (cI, 10, .inl (v_ga_12 1))), (ga2, .inl (cI, 10, .inl (v_ga_12 2))), (ga3, .inl (cI, 10, .inl (v_ga_12 3))), (ga4, .inl (cI, 10, .inl (v_ga_12 4))), (ga5, .inl (cI, 5, .inl (v_ga_12 5)))] := by rw [ev_ga_12]; exact hD
      replace hf := xl_to ev_ga_12 hf
      refine lv_aload_n hx hb dX5_addOperator_109 rfl (lv_at hl 0 rfl) ?_
      refine lv_dup hx hb dX5_addOperator_110 rfl ?_
      refine va_get (D := (dC, dI)) (ci := 5) (v := .int (v_ga_12 0 0)) (C := RX5) (T := TX5) (N := 8) hx hb hts kk1_ hown hK hP 0 rfl rfl 5 (by decide) kk2_ (fun _ h9 => h9) rfl dX5_addOperator_111 ?_
      refine lv_iconst (v := 1) hx hb dX5_addOperator_114 (by decide) ?_
      refine lv_iadd hx hb dX5_addOperator_115 ?_
      refine lv_topi (fun y_13 ey_13 => ?_)
      replace hf := xl_to (v := (v_ga_12 0 0) + ((1 : Int32))) ey_13 hf
      refine va_put (D := (dC, dI)) (ci := 5) (v := .int y_13) (ty := .int) (C := RX5) (T := TX5) (N := 8) hx hb hts kk1_ tyX5 tyX5_ok nmX5 hown hK hP hD hS 0 rfl rfl 5 (by decide) kk2_ (fun _ h9 => h9) rfl (by decide +kernel) rfl rfl (Nat.le_of_ble_eq_true rfl) dX5_addOperator_116 (fun H locs hP hD hS => ?_)
      obtain ⟨v_ga_14, ev_ga_14⟩ : ∃ z, z = mu v_ga_12 0 0 y_13 := ⟨_, rfl⟩
      have hP : va_P (dC, dI) vwCl [(ga, .inr (5, [.ref ga1, .ref ga2, .ref ga3, .ref ga4, .ref ga5, .int (v_ga_14 0 0), .int (v_ga_14 0 1), .int (v_ga_14 0 2)])), (ga1, .inl (cI, 10, .inl (v_ga_14 1))), (ga2, .inl (cI, 10, .inl (v_ga_14 2))), (ga3, .inl (cI, 10, .inl (v_ga_14 3))), (ga4, .inl (cI, 10, .inl (v_ga_14 4))), (ga5, .inl (cI, 5, .inl (v_ga_14 5)))] H := by rw [ev_ga_14]; exact hP
      have hD : va_D (va_A (ww_X5_addOperatory dC dI cI cJ cB ga ga1 ga2 ga3 ga4 ga5 s.heap.size v_ga0 p0 p1 p2 p3 n9 v_ga1) s.heap.size) [(ga, .inr (5, [.ref ga1, .ref ga2, .ref ga3, .ref ga4, .ref ga5, .int (v_ga_14 0 0), .int (v_ga_14 0 1), .int (v_ga_14 0 2)])), (ga1, .inl (cI, 10, .inl (v_ga_14 1))), (ga2, .inl (cI, 10, .inl (v_ga_14 2))), (ga3, .inl (cI, 10, .inl (v_ga_14 3))), (ga4, .inl (cI, 10, .inl (v_ga_14 4))), (ga5, .inl (cI, 5, .inl (v_ga_14 5)))] := by rw [ev_ga_14]; exact hD
      replace hf := xl_to ev_ga_14 hf
      have hP9 := hP.sub (ws' := [(ga, .inr (5, [.ref ga1, .ref ga2, .ref ga3, .ref ga4, .ref ga5, .int (v_ga_14 0 0), .int (v_ga_14 0 1), .int (v_ga_14 0 2)])), (ga1, .inl (cI, 10, .inl (v_ga_14 1))), (ga2, .inl (cI, 10, .inl (v_ga_14 2))), (ga3, .inl (cI, 10, .inl (v_ga_14 3))), (ga4, .inl (cI, 10, .inl (v_ga_14 4))), (ga5, .inl (cI, 5, .inl (v_ga_14 5)))]) [0, 1, 2, 3, 4, 5] rfl
      have hD9 := hD.sub (ws' := [(ga, .inr (5, [.ref ga1, .ref ga2, .ref ga3, .ref ga4, .ref ga5, .int (v_ga_14 0 0), .int (v_ga_14 0 1), .int (v_ga_14 0 2)])), (ga1, .inl (cI, 10, .inl (v_ga_14 1))), (ga2, .inl (cI, 10, .inl (v_ga_14 2))), (ga3, .inl (cI, 10, .inl (v_ga_14 3))), (ga4, .inl (cI, 10, .inl (v_ga_14 4))), (ga5, .inl (cI, 5, .inl (v_ga_14 5)))]) [0, 1, 2, 3, 4, 5] (by decide) rfl
      have r9_0 : v_ga_14 = v_ga1 := (Option.some.inj hf)
      exact W.vret hx hb hr (fun t ht hW => ⟨⟨v_ga_14, rfl, r9_0, by rw [ht]; exact hP9, va_K.moved hW.alike hK, hD9⟩, hS.F ht⟩) hS.2.2 dX5_addOperator_119
  refine lv_aload_n hx hb dX5_addOperator_0 rfl (lv_at hl 0 rfl) ?_
  refine va_get (D := (dC, dI)) (ci := 5) (v := .int (v_ga0 0 0)) (C := RX5) (T := TX5) (N := 8) hx hb hts kk1_ hown hK hP 0 rfl rfl 5 (by decide) kk2_ (fun _ h9 => h9) rfl dX5_addOperator_1 ?_
  refine lv_if_lt (tgt := 119) hx hb dX5_addOperator_4 (by decide) (fun c_15 => ?_) (fun c_15 => ?_)
  · replace hf := xi_t c_15 hf
    have hP9 := hP.sub (ws' := [(ga, .inr (5, [.ref ga1, .ref ga2, .ref ga3, .ref ga4, .ref ga5, .int (v_ga0 0 0), .int (v_ga0 0 1), .int (v_ga0 0 2)])), (ga1, .inl (cI, 10, .inl (v_ga0 1))), (ga2, .inl (cI, 10, .inl (v_ga0 2))), (ga3, .inl (cI, 10, .inl (v_ga0 3))), (ga4, .inl (cI, 10, .inl (v_ga0 4))), (ga5, .inl (cI, 5, .inl (v_ga0 5)))]) [0, 1, 2, 3, 4, 5] rfl
    have hD9 := hD.sub (ws' := [(ga, .inr (5, [.ref ga1, .ref ga2, .ref ga3, .ref ga4, .ref ga5, .int (v_ga0 0 0), .int (v_ga0 0 1), .int (v_ga0 0 2)])), (ga1, .inl (cI, 10, .inl (v_ga0 1))), (ga2, .inl (cI, 10, .inl (v_ga0 2))), (ga3, .inl (cI, 10, .inl (v_ga0 3))), (ga4, .inl (cI, 10, .inl (v_ga0 4))), (ga5, .inl (cI, 5, .inl (v_ga0 5)))]) [0, 1, 2, 3, 4, 5] (by decide) rfl
    have r9_0 : v_ga0 = v_ga1 := (Option.some.inj hf)
    exact W.vret hx hb hr (fun t ht hW => ⟨⟨v_ga0, rfl, r9_0, by rw [ht]; exact hP9, va_K.moved hW.alike hK, hD9⟩, hS.F ht⟩) hS.2.2 dX5_addOperator_119
  · replace hf := xi_f c_15 hf
    refine lv_aload_n hx hb dX5_addOperator_7 rfl (lv_at hl 0 rfl) ?_
    refine va_get (D := (dC, dI)) (ci := 5) (v := .int (v_ga0 0 0)) (C := RX5) (T := TX5) (N := 8) hx hb hts kk1_ hown hK hP 0 rfl rfl 5 (by decide) kk2_ (fun _ h9 => h9) rfl dX5_addOperator_8 ?_
    refine lv_bipush (v := 10) hx hb dX5_addOperator_11 (by decide) ?_
    refine lv_icmp_ge (tgt := 119) hx hb dX5_addOperator_13 (by decide) (fun c_16 => ?_) (fun c_16 => ?_)
    · replace hf := xi_t c_16 hf
      have hP9 := hP.sub (ws' := [(ga, .inr (5, [.ref ga1, .ref ga2, .ref ga3, .ref ga4, .ref ga5, .int (v_ga0 0 0), .int (v_ga0 0 1), .int (v_ga0 0 2)])), (ga1, .inl (cI, 10, .inl (v_ga0 1))), (ga2, .inl (cI, 10, .inl (v_ga0 2))), (ga3, .inl (cI, 10, .inl (v_ga0 3))), (ga4, .inl (cI, 10, .inl (v_ga0 4))), (ga5, .inl (cI, 5, .inl (v_ga0 5)))]) [0, 1, 2, 3, 4, 5] rfl
      have hD9 := hD.sub (ws' := [(ga, .inr (5, [.ref ga1, .ref ga2, .ref ga3, .ref ga4, .ref ga5, .int (v_ga0 0 0), .int (v_ga0 0 1), .int (v_ga0 0 2)])), (ga1, .inl (cI, 10, .inl (v_ga0 1))), (ga2, .inl (cI, 10, .inl (v_ga0 2))), (ga3, .inl (cI, 10, .inl (v_ga0 3))), (ga4, .inl (cI, 10, .inl (v_ga0 4))), (ga5, .inl (cI, 5, .inl (v_ga0 5)))]) [0, 1, 2, 3, 4, 5] (by decide) rfl
      have r9_0 : v_ga0 = v_ga1 := (Option.some.inj hf)
      exact W.vret hx hb hr (fun t ht hW => ⟨⟨v_ga0, rfl, r9_0, by rw [ht]; exact hP9, va_K.moved hW.alike hK, hD9⟩, hS.F ht⟩) hS.2.2 dX5_addOperator_119
    · replace hf := xi_f c_16 hf
      refine lv_aload_n hx hb dX5_addOperator_16 rfl (lv_at hl 0 rfl) ?_
      refine va_get (D := (dC, dI)) (ci := 5) (v := .ref ga1) (C := RX5) (T := TX5) (N := 8) hx hb hts kk1_ hown hK hP 0 rfl rfl 0 (by decide) kk3_ (fun _ h9 => h9) rfl dX5_addOperator_17 ?_
      refine lv_aload_n hx hb dX5_addOperator_20 rfl (lv_at hl 0 rfl) ?_
      refine va_get (D := (dC, dI)) (ci := 5) (v := .int (v_ga0 0 0)) (C := RX5) (T := TX5) (N := 8) hx hb hts kk1_ hown hK hP 0 rfl rfl 5 (by decide) kk2_ (fun _ h9 => h9) rfl dX5_addOperator_21 ?_
      refine lv_iload_n hx hb dX5_addOperator_24 rfl (lv_at hl 1 rfl) ?_
      refine va_iast hx hb hK hP hD hS 1 0 rfl rfl (vp_in_iff.mpr (xwp_in hf)) dX5_addOperator_25 (fun H locs hP hD hS => ?_)
      obtain ⟨v_ga_17, ev_ga_17⟩ : ∃ z, z = mu v_ga0 1 (v_ga0 0 0).toNatClampNeg p0 := ⟨_, rfl⟩
      have hP : va_P (dC, dI) vwCl [(ga, .inr (5, [.ref ga1, .ref ga2, .ref ga3, .ref ga4, .ref ga5, .int (v_ga_17 0 0), .int (v_ga_17 0 1), .int (v_ga_17 0 2)])), (ga1, .inl (cI, 10, .inl (v_ga_17 1))), (ga2, .inl (cI, 10, .inl (v_ga_17 2))), (ga3, .inl (cI, 10, .inl (v_ga_17 3))), (ga4, .inl (cI, 10, .inl (v_ga_17 4))), (ga5, .inl (cI, 5, .inl (v_ga_17 5)))] H := by rw [ev_ga_17]; exact hP
      have hD : va_D (va_A (ww_X5_addOperatory dC dI cI cJ cB ga ga1 ga2 ga3 ga4 ga5 s.heap.size v_ga0 p0 p1 p2 p3 n9 v_ga1) s.heap.size) [(ga, .inr (5, [.ref ga1, .ref ga2, .ref ga3, .ref ga4, .ref ga5, .int (v_ga_17 0 0), .int (v_ga_17 0 1), .int (v_ga_17 0 2)])), (ga1, .inl (cI, 10, .inl (v_ga_17 1))), (ga2, .inl (cI, 10, .inl (v_ga_17 2))), (ga3, .inl (cI, 10, .inl (v_ga_17 3))), (ga4, .inl (cI, 10, .inl (v_ga_17 4))), (ga5, .inl (cI, 5, .inl (v_ga_17 5)))] := by rw [ev_ga_17]; exact hD
      replace hf := xwp_to ev_ga_17 hf
      refine lv_aload_n hx hb dX5_addOperator_26 rfl (lv_at hl 0 rfl) ?_
      refine va_get (D := (dC, dI)) (ci := 5) (v := .ref ga2) (C := RX5) (T := TX5) (N := 8) hx hb hts kk1_ hown hK hP 0 rfl rfl 1 (by decide) kk4_ (fun _ h9 => h9) rfl dX5_addOperator_27 ?_
      refine lv_aload_n hx hb dX5_addOperator_30 rfl (lv_at hl 0 rfl) ?_
      refine va_get (D := (dC, dI)) (ci := 5) (v := .int (v_ga_17 0 0)) (C := RX5) (T := TX5) (N := 8) hx hb hts kk1_ hown hK hP 0 rfl rfl 5 (by decide) kk2_ (fun _ h9 => h9) rfl dX5_addOperator_31 ?_
      refine lv_iload_n hx hb dX5_addOperator_34 rfl (lv_at hl 2 rfl) ?_
      refine va_iast hx hb hK hP hD hS 2 0 rfl rfl (vp_in_iff.mpr (xwp_in hf)) dX5_addOperator_35 (fun H locs hP hD hS => ?_)
      obtain ⟨v_ga_18, ev_ga_18⟩ : ∃ z, z = mu v_ga_17 2 (v_ga_17 0 0).toNatClampNeg p1 := ⟨_, rfl⟩
      have hP : va_P (dC, dI) vwCl [(ga, .inr (5, [.ref ga1, .ref ga2, .ref ga3, .ref ga4, .ref ga5, .int (v_ga_18 0 0), .int (v_ga_18 0 1), .int (v_ga_18 0 2)])), (ga1, .inl (cI, 10, .inl (v_ga_18 1))), (ga2, .inl (cI, 10, .inl (v_ga_18 2))), (ga3, .inl (cI, 10, .inl (v_ga_18 3))), (ga4, .inl (cI, 10, .inl (v_ga_18 4))), (ga5, .inl (cI, 5, .inl (v_ga_18 5)))] H := by rw [ev_ga_18]; exact hP
      have hD : va_D (va_A (ww_X5_addOperatory dC dI cI cJ cB ga ga1 ga2 ga3 ga4 ga5 s.heap.size v_ga0 p0 p1 p2 p3 n9 v_ga1) s.heap.size) [(ga, .inr (5, [.ref ga1, .ref ga2, .ref ga3, .ref ga4, .ref ga5, .int (v_ga_18 0 0), .int (v_ga_18 0 1), .int (v_ga_18 0 2)])), (ga1, .inl (cI, 10, .inl (v_ga_18 1))), (ga2, .inl (cI, 10, .inl (v_ga_18 2))), (ga3, .inl (cI, 10, .inl (v_ga_18 3))), (ga4, .inl (cI, 10, .inl (v_ga_18 4))), (ga5, .inl (cI, 5, .inl (v_ga_18 5)))] := by rw [ev_ga_18]; exact hD
      replace hf := xwp_to ev_ga_18 hf
      refine lv_aload_n hx hb dX5_addOperator_36 rfl (lv_at hl 0 rfl) ?_
      refine va_get (D := (dC, dI)) (ci := 5) (v := .ref ga3) (C := RX5) (T := TX5) (N := 8) hx hb hts kk1_ hown hK hP 0 rfl rfl 2 (by decide) kk5_ (fun _ h9 => h9) rfl dX5_addOperator_37 ?_
      refine lv_aload_n hx hb dX5_addOperator_40 rfl (lv_at hl 0 rfl) ?_
      refine va_get (D := (dC, dI)) (ci := 5) (v := .int (v_ga_18 0 0)) (C := RX5) (T := TX5) (N := 8) hx hb hts kk1_ hown hK hP 0 rfl rfl 5 (by decide) kk2_ (fun _ h9 => h9) rfl dX5_addOperator_41 ?_
      refine lv_iload_n hx hb dX5_addOperator_44 rfl (lv_at hl 3 rfl) ?_
      refine va_iast hx hb hK hP hD hS 3 0 rfl rfl (vp_in_iff.mpr (xwp_in hf)) dX5_addOperator_45 (fun H locs hP hD hS => ?_)
      obtain ⟨v_ga_19, ev_ga_19⟩ : ∃ z, z = mu v_ga_18 3 (v_ga_18 0 0).toNatClampNeg p2 := ⟨_, rfl⟩
      have hP : va_P (dC, dI) vwCl [(ga, .inr (5, [.ref ga1, .ref ga2, .ref ga3, .ref ga4, .ref ga5, .int (v_ga_19 0 0), .int (v_ga_19 0 1), .int (v_ga_19 0 2)])), (ga1, .inl (cI, 10, .inl (v_ga_19 1))), (ga2, .inl (cI, 10, .inl (v_ga_19 2))), (ga3, .inl (cI, 10, .inl (v_ga_19 3))), (ga4, .inl (cI, 10, .inl (v_ga_19 4))), (ga5, .inl (cI, 5, .inl (v_ga_19 5)))] H := by rw [ev_ga_19]; exact hP
      have hD : va_D (va_A (ww_X5_addOperatory dC dI cI cJ cB ga ga1 ga2 ga3 ga4 ga5 s.heap.size v_ga0 p0 p1 p2 p3 n9 v_ga1) s.heap.size) [(ga, .inr (5, [.ref ga1, .ref ga2, .ref ga3, .ref ga4, .ref ga5, .int (v_ga_19 0 0), .int (v_ga_19 0 1), .int (v_ga_19 0 2)])), (ga1, .inl (cI, 10, .inl (v_ga_19 1))), (ga2, .inl (cI, 10, .inl (v_ga_19 2))), (ga3, .inl (cI, 10, .inl (v_ga_19 3))), (ga4, .inl (cI, 10, .inl (v_ga_19 4))), (ga5, .inl (cI, 5, .inl (v_ga_19 5)))] := by rw [ev_ga_19]; exact hD
      replace hf := xwp_to ev_ga_19 hf
      refine lv_aload_n hx hb dX5_addOperator_46 rfl (lv_at hl 0 rfl) ?_
      refine va_get (D := (dC, dI)) (ci := 5) (v := .ref ga4) (C := RX5) (T := TX5) (N := 8) hx hb hts kk1_ hown hK hP 0 rfl rfl 3 (by decide) kk6_ (fun _ h9 => h9) rfl dX5_addOperator_47 ?_
      refine lv_aload_n hx hb dX5_addOperator_50 rfl (lv_at hl 0 rfl) ?_
      refine va_get (D := (dC, dI)) (ci := 5) (v := .int (v_ga_19 0 0)) (C := RX5) (T := TX5) (N := 8) hx hb hts kk1_ hown hK hP 0 rfl rfl 5 (by decide) kk2_ (fun _ h9 => h9) rfl dX5_addOperator_51 ?_
      refine lv_iload hx hb dX5_addOperator_54 (lv_at hl 4 rfl) ?_
      refine va_iast hx hb hK hP hD hS 4 0 rfl rfl (vp_in_iff.mpr (xwp_in hf)) dX5_addOperator_56 (fun H locs hP hD hS => ?_)
      obtain ⟨v_ga_20, ev_ga_20⟩ : ∃ z, z = mu v_ga_19 4 (v_ga_19 0 0).toNatClampNeg p3 := ⟨_, rfl⟩
      have hP : va_P (dC, dI) vwCl [(ga, .inr (5, [.ref ga1, .ref ga2, .ref ga3, .ref ga4, .ref ga5, .int (v_ga_20 0 0), .int (v_ga_20 0 1), .int (v_ga_20 0 2)])), (ga1, .inl (cI, 10, .inl (v_ga_20 1))), (ga2, .inl (cI, 10, .inl (v_ga_20 2))), (ga3, .inl (cI, 10, .inl (v_ga_20 3))), (ga4, .inl (cI, 10, .inl (v_ga_20 4))), (ga5, .inl (cI, 5, .inl (v_ga_20 5)))] H := by rw [ev_ga_20]; exact hP
      have hD : va_D (va_A (ww_X5_addOperatory dC dI cI cJ cB ga ga1 ga2 ga3 ga4 ga5 s.heap.size v_ga0 p0 p1 p2 p3 n9 v_ga1) s.heap.size) [(ga, .inr (5, [.ref ga1, .ref ga2, .ref ga3, .ref ga4, .ref ga5, .int (v_ga_20 0 0), .int (v_ga_20 0 1), .int (v_ga_20 0 2)])), (ga1, .inl (cI, 10, .inl (v_ga_20 1))), (ga2, .inl (cI, 10, .inl (v_ga_20 2))), (ga3, .inl (cI, 10, .inl (v_ga_20 3))), (ga4, .inl (cI, 10, .inl (v_ga_20 4))), (ga5, .inl (cI, 5, .inl (v_ga_20 5)))] := by rw [ev_ga_20]; exact hD
      replace hf := xwp_to ev_ga_20 hf
      refine lv_aload_n hx hb dX5_addOperator_57 rfl (lv_at hl 0 rfl) ?_
      refine lv_dup hx hb dX5_addOperator_58 rfl ?_
      refine va_get (D := (dC, dI)) (ci := 5) (v := .int (v_ga_20 0 2)) (C := RX5) (T := TX5) (N := 8) hx hb hts kk1_ hown hK hP 0 rfl rfl 7 (by decide) kk0_ (fun _ h9 => h9) rfl dX5_addOperator_59 ?_
      refine lv_iload_n hx hb dX5_addOperator_62 rfl (lv_at hl 2 rfl) ?_
      refine lv_iconst (v := 2) hx hb dX5_addOperator_63 (by decide) ?_
      refine lv_icmp_ne (tgt := 71) hx hb dX5_addOperator_64 (by decide) (fun c_21 => ?_) (fun c_21 => ?_)
      · replace hf := xi_f c_21 hf
        refine lv_iconst (v := 1) hx hb dX5_addOperator_71 (by decide) ?_
        refine lv_iconst (v := 5) hx hb dX5_addOperator_72 (by decide) ?_
        refine lv_aload_n hx hb dX5_addOperator_73 rfl (lv_at hl 0 rfl) ?_
        refine va_get (D := (dC, dI)) (ci := 5) (v := .int (v_ga_20 0 0)) (C := RX5) (T := TX5) (N := 8) hx hb hts kk1_ hown hK hP 0 rfl rfl 5 (by decide) kk2_ (fun _ h9 => h9) rfl dX5_addOperator_74 ?_
        refine lv_iadd hx hb dX5_addOperator_77 ?_
        refine lv_topi (fun y_22 ey_22 => ?_)
        replace hf := xl_to (v := ((5 : Int32)) + (v_ga_20 0 0)) ey_22 hf
        refine lv_ishl hx hb dX5_addOperator_78 ?_
        refine lv_topi (fun y_23 ey_23 => ?_)
        replace hf := xl_to (v := ((1 : Int32)) <<< (y_22 &&& 31)) ey_23 hf
        exact J_79 (v_ga_20 0 2) y_23 v_ga_20 hf _ _ (hP.sub [0, 1, 2, 3, 4, 5] rfl) (hD.sub [0, 1, 2, 3, 4, 5] (by decide) rfl) hS ls (lv_sub hl [0, 1, 2, 3, 4] rfl)
      · replace hf := xi_t c_21 hf
        refine lv_iconst (v := 0) hx hb dX5_addOperator_67 (by decide) ?_
        refine lv_goto (tgt := 79) hx hb dX5_addOperator_68 (by decide) ?_
        exact J_79 (v_ga_20 0 2) ((0 : Int32)) v_ga_20 hf _ _ (hP.sub [0, 1, 2, 3, 4, 5] rfl) (hD.sub [0, 1, 2, 3, 4, 5] (by decide) rfl) hS ls (lv_sub hl [0, 1, 2, 3, 4] rfl)
def wo_X5_addVariabley : List Cond := .code yX5_addVariable cX5_addVariable 2 none :: (([.fieldLink RX5 37 "SumRewriter$Signature" "variables" "I", .fieldLink RX5 24 "SumRewriter$Signature" "variableNames" "[I"] : List Cond) ++ ((wsX50)))
abbrev ww_X5_addVariabley (dC : Nat → ClassId) (dI : Nat → Nat → Nat) (cI cJ cB : ClassId) (ga ga1 ga2 ga3 ga4 ga5 : Nat) (sz : Nat) (v_ga0 : Nat → Nat → Int32) (p0 : Int32) (n9 : Nat) (v_ga1 : Nat → Nat → Int32) : va_W := [(ga, .inr (5, [.ref ga1, .ref ga2, .ref ga3, .ref ga4, .ref ga5, .int (v_ga0 0 0), .int (v_ga0 0 1), .int (v_ga0 0 2)])), (ga1, .inl (cI, 10, .inl (v_ga0 1))), (ga2, .inl (cI, 10, .inl (v_ga0 2))), (ga3, .inl (cI, 10, .inl (v_ga0 3))), (ga4, .inl (cI, 10, .inl (v_ga0 4))), (ga5, .inl (cI, 5, .inl (v_ga0 5)))]
abbrev at_X5_addVariabley (dC : Nat → ClassId) (dI : Nat → Nat → Nat) (cI cJ cB : ClassId) (ga ga1 ga2 ga3 ga4 ga5 : Nat) (sz : Nat) (v_ga0 : Nat → Nat → Int32) (p0 : Int32) (n9 : Nat) (v_ga1 : Nat → Nat → Int32) (u : (Nat → Nat → Int32)) (t : State) : Prop := match u with
  | v_ga => va_P (dC, dI) vwCl [(ga, .inr (5, [.ref ga1, .ref ga2, .ref ga3, .ref ga4, .ref ga5, .int (v_ga 0 0), .int (v_ga 0 1), .int (v_ga 0 2)])), (ga1, .inl (cI, 10, .inl (v_ga 1))), (ga2, .inl (cI, 10, .inl (v_ga 2))), (ga3, .inl (cI, 10, .inl (v_ga 3))), (ga4, .inl (cI, 10, .inl (v_ga 4))), (ga5, .inl (cI, 5, .inl (v_ga 5)))] t.heap ∧ va_K (dC, dI) vwCl (tyL cI cJ cB) t ∧ va_D (va_A (ww_X5_addVariabley dC dI cI cJ cB ga ga1 ga2 ga3 ga4 ga5 sz v_ga0 p0 n9 v_ga1) sz) [(ga, .inr (5, [.ref ga1, .ref ga2, .ref ga3, .ref ga4, .ref ga5, .int (v_ga 0 0), .int (v_ga 0 1), .int (v_ga 0 2)])), (ga1, .inl (cI, 10, .inl (v_ga 1))), (ga2, .inl (cI, 10, .inl (v_ga 2))), (ga3, .inl (cI, 10, .inl (v_ga 3))), (ga4, .inl (cI, 10, .inl (v_ga 4))), (ga5, .inl (cI, 5, .inl (v_ga 5)))]
abbrev qc_X5_addVariabley (dC : Nat → ClassId) (dI : Nat → Nat → Nat) (cI cJ cB : ClassId) (ga ga1 ga2 ga3 ga4 ga5 : Nat) (sz : Nat) (v_ga0 : Nat → Nat → Int32) (p0 : Int32) (n9 : Nat) (v_ga1 : Nat → Nat → Int32) : Array Value → State → Outcome → State → Prop := va_Qv (fun (u : (Nat → Nat → Int32)) => match u with | v_ga => (v_ga = v_ga1)) (at_X5_addVariabley dC dI cI cJ cB ga ga1 ga2 ga3 ga4 ga5 sz v_ga0 p0 n9 v_ga1) (va_A (ww_X5_addVariabley dC dI cI cJ cB ga ga1 ga2 ga3 ga4 ga5 sz v_ga0 p0 n9 v_ga1) sz)
abbrev pc_X5_addVariabley (dC : Nat → ClassId) (dI : Nat → Nat → Nat) (cI cJ cB : ClassId) (ga ga1 ga2 ga3 ga4 ga5 : Nat) (sz : Nat) (v_ga0 : Nat → Nat → Int32) (p0 : Int32) (n9 : Nat) (v_ga1 : Nat → Nat → Int32) : Array Value → State → Prop := va_Pc [.ref ga, .int p0] (fun U => U.heap.size = sz ∧ NW U ∧ va_P (dC, dI) vwCl (ww_X5_addVariabley dC dI cI cJ cB ga ga1 ga2 ga3 ga4 ga5 sz v_ga0 p0 n9 v_ga1) U.heap ∧ va_K (dC, dI) vwCl (tyL cI cJ cB) U ∧ va_D (fun _ => True) (ww_X5_addVariabley dC dI cI cJ cB ga ga1 ga2 ga3 ga4 ga5 sz v_ga0 p0 n9 v_ga1))
abbrev rm_X5_addVariabley : Room := { frames := 0, cells := 0, slots := 0, locals := 0 }
abbrev WW_X5_addVariabley (p : Program) (l : Launch) (e : Env) (s : State) (m : MethodId) (below : List Frame) (meth : Method) (c : Code) (dC : Nat → ClassId) (dI : Nat → Nat → Nat) (cI cJ cB : ClassId) (ga ga1 ga2 ga3 ga4 ga5 : Nat) (sz : Nat) (v_ga0 : Nat → Nat → Int32) (p0 : Int32) (n9 : Nat) (v_ga1 : Nat → Nat → Int32) (H : Heap) (locs : List Loc) (g : JFrame) : Prop := W p l e rm_X5_addVariabley s m ([.ref ga, .int p0] : List Value).toArray below meth c H locs 0 0 (MQ below (qc_X5_addVariabley dC dI cI cJ cB ga ga1 ga2 ga3 ga4 ga5 sz v_ga0 p0 n9 v_ga1) ([.ref ga, .int p0] : List Value).toArray s 0 0 (va_A (ww_X5_addVariabley dC dI cI cJ cB ga ga1 ga2 ga3 ga4 ga5 sz v_ga0 p0 n9 v_ga1) sz)) g
set_option maxHeartbeats 4000000 in
set_option maxRecDepth 100000 in
theorem c_X5_addVariabley (l : Launch) (dC : Nat → ClassId) (dI : Nat → Nat → Nat) (cI cJ cB : ClassId) (ga ga1 ga2 ga3 ga4 ga5 : Nat) (sz : Nat) (v_ga0 : Nat → Nat → Int32) (p0 : Int32) (n9 : Nat) (v_ga1 : Nat → Nat → Int32) (hf : fx_X5_addVariable n9 v_ga0 p0 = some (v_ga1)) : Met l yX5_addVariable wo_X5_addVariabley rm_X5_addVariabley (pc_X5_addVariabley dC dI cI cJ cB ga ga1 ga2 ga3 ga4 ga5 sz v_ga0 p0 n9 v_ga1) (qc_X5_addVariabley dC dI cI cJ cB ga ga1 ga2 ga3 ga4 ga5 sz v_ga0 p0 n9 v_ga1) 0 0 (va_A (ww_X5_addVariabley dC dI cI cJ cB ga ga1 ga2 ga3 ga4 ga5 sz v_ga0 p0 n9 v_ga1) sz) := by
  unfold fx_X5_addVariable at hf
  refine Met.ofW (cc := cX5_addVariable) (maxL := 2) (ret := none) (by decide) rfl ?_
  intro p e s m args below meth c s₁ B hml hv
  obtain ⟨rfl, hsz, hnw, hP, hK, hD0⟩ := hv
  have hx := B.exec
  have hb := B.bytes
  have hr := B.returns
  have hts := atoms_spec (ws := wo_X5_addVariabley) B.pre
  have hown : s.vm.findClass RX5 = some m.cls := findClass_of_methodNamed B.named
  have hlocks := B.notSynchronized
  clear B
  subst hsz
  have hD := hD0.self (sz := s.heap.size)
  clear hD0
  have kk0_ := hts (.fieldLink RX5 37 "SumRewriter$Signature" "variables" "I") (by decide +kernel)
  have kk1_ : ∀ w ∈ wsX50, w ∈ wo_X5_addVariabley := fun _ h => (List.mem_cons_of_mem _ (List.mem_append_right _ h))
  have kk2_ := hts (.fieldLink RX5 24 "SumRewriter$Signature" "variableNames" "[I") (by decide +kernel)
  have hA : ∀ q : Nat, s.heap.size ≤ q → (va_A (ww_X5_addVariabley dC dI cI cJ cB ga ga1 ga2 ga3 ga4 ga5 s.heap.size v_ga0 p0 n9 v_ga1) s.heap.size) q := fun q h => Or.inr h
  have hS : va_S (va_A (ww_X5_addVariabley dC dI cI cJ cB ga ga1 ga2 ga3 ga4 ga5 s.heap.size v_ga0 p0 n9 v_ga1) s.heap.size) s.heap s.heap [] := va_S.rf
  have hl := lv_entry ([.ref ga, .int p0]) (n := 2) (Nat.le_of_ble_eq_true rfl)
  rw [lg_entry_eq]
  generalize (lg_sl ([.ref ga, .int p0]) ++ List.replicate (2 - (lg_sl ([.ref ga, .int p0])).length) Slot.unset).toArray = ls at hl ⊢
  have hl : lv_has ls 2 [(0, .ref ga), (1, .int p0)] := hl
  have hP : va_P (dC, dI) vwCl [(ga, .inr (5, [.ref ga1, .ref ga2, .ref ga3, .ref ga4, .ref ga5, .int (v_ga0 0 0), .int (v_ga0 0 1), .int (v_ga0 0 2)])), (ga1, .inl (cI, 10, .inl (v_ga0 1))), (ga2, .inl (cI, 10, .inl (v_ga0 2))), (ga3, .inl (cI, 10, .inl (v_ga0 3))), (ga4, .inl (cI, 10, .inl (v_ga0 4))), (ga5, .inl (cI, 5, .inl (v_ga0 5)))] s.heap := hP
  have hD : va_D (va_A (ww_X5_addVariabley dC dI cI cJ cB ga ga1 ga2 ga3 ga4 ga5 s.heap.size v_ga0 p0 n9 v_ga1) s.heap.size) [(ga, .inr (5, [.ref ga1, .ref ga2, .ref ga3, .ref ga4, .ref ga5, .int (v_ga0 0 0), .int (v_ga0 0 1), .int (v_ga0 0 2)])), (ga1, .inl (cI, 10, .inl (v_ga0 1))), (ga2, .inl (cI, 10, .inl (v_ga0 2))), (ga3, .inl (cI, 10, .inl (v_ga0 3))), (ga4, .inl (cI, 10, .inl (v_ga0 4))), (ga5, .inl (cI, 5, .inl (v_ga0 5)))] := hD
  obtain ⟨H, hH⟩ : ∃ H, H = s.heap := ⟨_, rfl⟩
  obtain ⟨locs, hlc⟩ : ∃ L : List Loc, L = [] := ⟨_, rfl⟩
  have hS : va_S (va_A (ww_X5_addVariabley dC dI cI cJ cB ga ga1 ga2 ga3 ga4 ga5 s.heap.size v_ga0 p0 n9 v_ga1) s.heap.size) s.heap H locs := by rw [hH, hlc]; exact hS
  have hP : va_P (dC, dI) vwCl [(ga, .inr (5, [.ref ga1, .ref ga2, .ref ga3, .ref ga4, .ref ga5, .int (v_ga0 0 0), .int (v_ga0 0 1), .int (v_ga0 0 2)])), (ga1, .inl (cI, 10, .inl (v_ga0 1))), (ga2, .inl (cI, 10, .inl (v_ga0 2))), (ga3, .inl (cI, 10, .inl (v_ga0 3))), (ga4, .inl (cI, 10, .inl (v_ga0 4))), (ga5, .inl (cI, 5, .inl (v_ga0 5)))] H := by rw [hH]; exact hP
  suffices hgo : WW_X5_addVariabley p l e s m below meth c dC dI cI cJ cB ga ga1 ga2 ga3 ga4 ga5 s.heap.size v_ga0 p0 n9 v_ga1 H locs (F0 m 0 ls []) by rw [hH, hlc] at hgo; exact hgo
  clear hH hlc
  refine lv_aload_n hx hb dX5_addVariable_0 rfl (lv_at hl 0 rfl) ?_
  refine va_get (D := (dC, dI)) (ci := 5) (v := .int (v_ga0 0 1)) (C := RX5) (T := TX5) (N := 8) hx hb hts kk1_ hown hK hP 0 rfl rfl 6 (by decide) kk0_ (fun _ h9 => h9) rfl dX5_addVariable_1 ?_
  refine lv_if_lt (tgt := 35) hx hb dX5_addVariable_4 (by decide) (fun c_1 => ?_) (fun c_1 => ?_)
  · replace hf := xi_t c_1 hf
    have hP9 := hP.sub (ws' := [(ga, .inr (5, [.ref ga1, .ref ga2, .ref ga3, .ref ga4, .ref ga5, .int (v_ga0 0 0), .int (v_ga0 0 1), .int (v_ga0 0 2)])), (ga1, .inl (cI, 10, .inl (v_ga0 1))), (ga2, .inl (cI, 10, .inl (v_ga0 2))), (ga3, .inl (cI, 10, .inl (v_ga0 3))), (ga4, .inl (cI, 10, .inl (v_ga0 4))), (ga5, .inl (cI, 5, .inl (v_ga0 5)))]) [0, 1, 2, 3, 4, 5] rfl
    have hD9 := hD.sub (ws' := [(ga, .inr (5, [.ref ga1, .ref ga2, .ref ga3, .ref ga4, .ref ga5, .int (v_ga0 0 0), .int (v_ga0 0 1), .int (v_ga0 0 2)])), (ga1, .inl (cI, 10, .inl (v_ga0 1))), (ga2, .inl (cI, 10, .inl (v_ga0 2))), (ga3, .inl (cI, 10, .inl (v_ga0 3))), (ga4, .inl (cI, 10, .inl (v_ga0 4))), (ga5, .inl (cI, 5, .inl (v_ga0 5)))]) [0, 1, 2, 3, 4, 5] (by decide) rfl
    have r9_0 : v_ga0 = v_ga1 := (Option.some.inj hf)
    exact W.vret hx hb hr (fun t ht hW => ⟨⟨v_ga0, rfl, r9_0, by rw [ht]; exact hP9, va_K.moved hW.alike hK, hD9⟩, hS.F ht⟩) hS.2.2 dX5_addVariable_35
  · replace hf := xi_f c_1 hf
    refine lv_aload_n hx hb dX5_addVariable_7 rfl (lv_at hl 0 rfl) ?_
    refine va_get (D := (dC, dI)) (ci := 5) (v := .int (v_ga0 0 1)) (C := RX5) (T := TX5) (N := 8) hx hb hts kk1_ hown hK hP 0 rfl rfl 6 (by decide) kk0_ (fun _ h9 => h9) rfl dX5_addVariable_8 ?_
    refine lv_iconst (v := 5) hx hb dX5_addVariable_11 (by decide) ?_
    refine lv_icmp_ge (tgt := 35) hx hb dX5_addVariable_12 (by decide) (fun c_2 => ?_) (fun c_2 => ?_)
    · replace hf := xi_t c_2 hf
      have hP9 := hP.sub (ws' := [(ga, .inr (5, [.ref ga1, .ref ga2, .ref ga3, .ref ga4, .ref ga5, .int (v_ga0 0 0), .int (v_ga0 0 1), .int (v_ga0 0 2)])), (ga1, .inl (cI, 10, .inl (v_ga0 1))), (ga2, .inl (cI, 10, .inl (v_ga0 2))), (ga3, .inl (cI, 10, .inl (v_ga0 3))), (ga4, .inl (cI, 10, .inl (v_ga0 4))), (ga5, .inl (cI, 5, .inl (v_ga0 5)))]) [0, 1, 2, 3, 4, 5] rfl
      have hD9 := hD.sub (ws' := [(ga, .inr (5, [.ref ga1, .ref ga2, .ref ga3, .ref ga4, .ref ga5, .int (v_ga0 0 0), .int (v_ga0 0 1), .int (v_ga0 0 2)])), (ga1, .inl (cI, 10, .inl (v_ga0 1))), (ga2, .inl (cI, 10, .inl (v_ga0 2))), (ga3, .inl (cI, 10, .inl (v_ga0 3))), (ga4, .inl (cI, 10, .inl (v_ga0 4))), (ga5, .inl (cI, 5, .inl (v_ga0 5)))]) [0, 1, 2, 3, 4, 5] (by decide) rfl
      have r9_0 : v_ga0 = v_ga1 := (Option.some.inj hf)
      exact W.vret hx hb hr (fun t ht hW => ⟨⟨v_ga0, rfl, r9_0, by rw [ht]; exact hP9, va_K.moved hW.alike hK, hD9⟩, hS.F ht⟩) hS.2.2 dX5_addVariable_35
    · replace hf := xi_f c_2 hf
      refine lv_aload_n hx hb dX5_addVariable_15 rfl (lv_at hl 0 rfl) ?_
      refine va_get (D := (dC, dI)) (ci := 5) (v := .ref ga5) (C := RX5) (T := TX5) (N := 8) hx hb hts kk1_ hown hK hP 0 rfl rfl 4 (by decide) kk2_ (fun _ h9 => h9) rfl dX5_addVariable_16 ?_
      refine lv_aload_n hx hb dX5_addVariable_19 rfl (lv_at hl 0 rfl) ?_
      refine va_get (D := (dC, dI)) (ci := 5) (v := .int (v_ga0 0 1)) (C := RX5) (T := TX5) (N := 8) hx hb hts kk1_ hown hK hP 0 rfl rfl 6 (by decide) kk0_ (fun _ h9 => h9) rfl dX5_addVariable_20 ?_
      refine lv_iload_n hx hb dX5_addVariable_23 rfl (lv_at hl 1 rfl) ?_
      refine va_iast hx hb hK hP hD hS 5 0 rfl rfl (vp_in_iff.mpr (xwp_in hf)) dX5_addVariable_24 (fun H locs hP hD hS => ?_)
      obtain ⟨v_ga_3, ev_ga_3⟩ : ∃ z, z = mu v_ga0 5 (v_ga0 0 1).toNatClampNeg p0 := ⟨_, rfl⟩
      have hP : va_P (dC, dI) vwCl [(ga, .inr (5, [.ref ga1, .ref ga2, .ref ga3, .ref ga4, .ref ga5, .int (v_ga_3 0 0), .int (v_ga_3 0 1), .int (v_ga_3 0 2)])), (ga1, .inl (cI, 10, .inl (v_ga_3 1))), (ga2, .inl (cI, 10, .inl (v_ga_3 2))), (ga3, .inl (cI, 10, .inl (v_ga_3 3))), (ga4, .inl (cI, 10, .inl (v_ga_3 4))), (ga5, .inl (cI, 5, .inl (v_ga_3 5)))] H := by rw [ev_ga_3]; exact hP
      have hD : va_D (va_A (ww_X5_addVariabley dC dI cI cJ cB ga ga1 ga2 ga3 ga4 ga5 s.heap.size v_ga0 p0 n9 v_ga1) s.heap.size) [(ga, .inr (5, [.ref ga1, .ref ga2, .ref ga3, .ref ga4, .ref ga5, .int (v_ga_3 0 0), .int (v_ga_3 0 1), .int (v_ga_3 0 2)])), (ga1, .inl (cI, 10, .inl (v_ga_3 1))), (ga2, .inl (cI, 10, .inl (v_ga_3 2))), (ga3, .inl (cI, 10, .inl (v_ga_3 3))), (ga4, .inl (cI, 10, .inl (v_ga_3 4))), (ga5, .inl (cI, 5, .inl (v_ga_3 5)))] := by rw [ev_ga_3]; exact hD
      replace hf := xwp_to ev_ga_3 hf
      refine lv_aload_n hx hb dX5_addVariable_25 rfl (lv_at hl 0 rfl) ?_
      refine lv_dup hx hb dX5_addVariable_26 rfl ?_
      refine va_get (D := (dC, dI)) (ci := 5) (v := .int (v_ga_3 0 1)) (C := RX5) (T := TX5) (N := 8) hx hb hts kk1_ hown hK hP 0 rfl rfl 6 (by decide) kk0_ (fun _ h9 => h9) rfl dX5_addVariable_27 ?_
      refine lv_iconst (v := 1) hx hb dX5_addVariable_30 (by decide) ?_
      refine lv_iadd hx hb dX5_addVariable_31 ?_
      refine lv_topi (fun y_4 ey_4 => ?_)
      replace hf := xl_to (v := (v_ga_3 0 1) + ((1 : Int32))) ey_4 hf
      refine va_put (D := (dC, dI)) (ci := 5) (v := .int y_4) (ty := .int) (C := RX5) (T := TX5) (N := 8) hx hb hts kk1_ tyX5 tyX5_ok nmX5 hown hK hP hD hS 0 rfl rfl 6 (by decide) kk0_ (fun _ h9 => h9) rfl (by decide +kernel) rfl rfl (Nat.le_of_ble_eq_true rfl) dX5_addVariable_32 (fun H locs hP hD hS => ?_)
      obtain ⟨v_ga_5, ev_ga_5⟩ : ∃ z, z = mu v_ga_3 0 1 y_4 := ⟨_, rfl⟩
      have hP : va_P (dC, dI) vwCl [(ga, .inr (5, [.ref ga1, .ref ga2, .ref ga3, .ref ga4, .ref ga5, .int (v_ga_5 0 0), .int (v_ga_5 0 1), .int (v_ga_5 0 2)])), (ga1, .inl (cI, 10, .inl (v_ga_5 1))), (ga2, .inl (cI, 10, .inl (v_ga_5 2))), (ga3, .inl (cI, 10, .inl (v_ga_5 3))), (ga4, .inl (cI, 10, .inl (v_ga_5 4))), (ga5, .inl (cI, 5, .inl (v_ga_5 5)))] H := by rw [ev_ga_5]; exact hP
      have hD : va_D (va_A (ww_X5_addVariabley dC dI cI cJ cB ga ga1 ga2 ga3 ga4 ga5 s.heap.size v_ga0 p0 n9 v_ga1) s.heap.size) [(ga, .inr (5, [.ref ga1, .ref ga2, .ref ga3, .ref ga4, .ref ga5, .int (v_ga_5 0 0), .int (v_ga_5 0 1), .int (v_ga_5 0 2)])), (ga1, .inl (cI, 10, .inl (v_ga_5 1))), (ga2, .inl (cI, 10, .inl (v_ga_5 2))), (ga3, .inl (cI, 10, .inl (v_ga_5 3))), (ga4, .inl (cI, 10, .inl (v_ga_5 4))), (ga5, .inl (cI, 5, .inl (v_ga_5 5)))] := by rw [ev_ga_5]; exact hD
      replace hf := xl_to ev_ga_5 hf
      have hP9 := hP.sub (ws' := [(ga, .inr (5, [.ref ga1, .ref ga2, .ref ga3, .ref ga4, .ref ga5, .int (v_ga_5 0 0), .int (v_ga_5 0 1), .int (v_ga_5 0 2)])), (ga1, .inl (cI, 10, .inl (v_ga_5 1))), (ga2, .inl (cI, 10, .inl (v_ga_5 2))), (ga3, .inl (cI, 10, .inl (v_ga_5 3))), (ga4, .inl (cI, 10, .inl (v_ga_5 4))), (ga5, .inl (cI, 5, .inl (v_ga_5 5)))]) [0, 1, 2, 3, 4, 5] rfl
      have hD9 := hD.sub (ws' := [(ga, .inr (5, [.ref ga1, .ref ga2, .ref ga3, .ref ga4, .ref ga5, .int (v_ga_5 0 0), .int (v_ga_5 0 1), .int (v_ga_5 0 2)])), (ga1, .inl (cI, 10, .inl (v_ga_5 1))), (ga2, .inl (cI, 10, .inl (v_ga_5 2))), (ga3, .inl (cI, 10, .inl (v_ga_5 3))), (ga4, .inl (cI, 10, .inl (v_ga_5 4))), (ga5, .inl (cI, 5, .inl (v_ga_5 5)))]) [0, 1, 2, 3, 4, 5] (by decide) rfl
      have r9_0 : v_ga_5 = v_ga1 := (Option.some.inj hf)
      exact W.vret hx hb hr (fun t ht hW => ⟨⟨v_ga_5, rfl, r9_0, by rw [ht]; exact hP9, va_K.moved hW.alike hK, hD9⟩, hS.F ht⟩) hS.2.2 dX5_addVariable_35
def wo_X5_readOperatory : List Cond := .code yX5_readOperator cX5_readOperator 5 (some .boolean) :: (([.constant RX5 78 (702772)] : List Cond) ++ ((wsX30) ++ ((wsV RX5 83 RX5 yX5_kindOf wo_X5_kindOfy) ++ ((wsV RX5 86 RX5 yX5_partsOf wo_X5_partsOfy) ++ ((wsV RX5 56 RX3 yX3_advance wo_X3_advancey) ++ ((wsV RX5 74 RX5 yX5_addOperator wo_X5_addOperatory) ++ ((wsV RX5 79 RX5 yX5_findOperator wo_X5_findOperatory))))))))
set_option maxRecDepth 20000 in
theorem go_wo_X5_readOperatory_1 : GoodIn wo_X5_readOperatory (wsV RX5 83 RX5 yX5_kindOf wo_X5_kindOfy) := goodIn_sub (fun _ h => (List.mem_cons_of_mem _ (List.mem_append_right _ (List.mem_append_right _ (List.mem_append_left _ h))))) (by decide +kernel)
set_option maxRecDepth 20000 in
theorem go_wo_X5_readOperatory_2 : GoodIn wo_X5_readOperatory (wsV RX5 86 RX5 yX5_partsOf wo_X5_partsOfy) := goodIn_sub (fun _ h => (List.mem_cons_of_mem _ (List.mem_append_right _ (List.mem_append_right _ (List.mem_append_right _ (List.mem_append_left _ h)))))) (by decide +kernel)
set_option maxRecDepth 20000 in
theorem go_wo_X5_readOperatory_3 : GoodIn wo_X5_readOperatory (wsV RX5 56 RX3 yX3_advance wo_X3_advancey) := goodIn_sub (fun _ h => (List.mem_cons_of_mem _ (List.mem_append_right _ (List.mem_append_right _ (List.mem_append_right _ (List.mem_append_right _ (List.mem_append_left _ h))))))) (by decide +kernel)
set_option maxRecDepth 20000 in
theorem go_wo_X5_readOperatory_4 : GoodIn wo_X5_readOperatory (wsV RX5 74 RX5 yX5_addOperator wo_X5_addOperatory) := goodIn_sub (fun _ h => (List.mem_cons_of_mem _ (List.mem_append_right _ (List.mem_append_right _ (List.mem_append_right _ (List.mem_append_right _ (List.mem_append_right _ (List.mem_append_left _ h)))))))) (by decide +kernel)
set_option maxRecDepth 20000 in
theorem go_wo_X5_readOperatory_5 : GoodIn wo_X5_readOperatory (wsV RX5 79 RX5 yX5_findOperator wo_X5_findOperatory) := goodIn_sub (fun _ h => (List.mem_cons_of_mem _ (List.mem_append_right _ (List.mem_append_right _ (List.mem_append_right _ (List.mem_append_right _ (List.mem_append_right _ (List.mem_append_right _ h)))))))) (by decide +kernel)
abbrev ww_X5_readOperatory (dC : Nat → ClassId) (dI : Nat → Nat → Nat) (cI cJ cB : ClassId) (ga ga1 ga2 ga3 ga4 ga5 h h1 : Nat) (sz : Nat) (v_ga0 : Nat → Nat → Int32) (v_h0 : Nat → Nat → Int32) (p0 : Int32) (p1 : Int32) (n9 : Nat) (r1 : Int32) (v_ga1 : Nat → Nat → Int32) (v_h1 : Nat → Nat → Int32) : va_W := [(ga, .inr (5, [.ref ga1, .ref ga2, .ref ga3, .ref ga4, .ref ga5, .int (v_ga0 0 0), .int (v_ga0 0 1), .int (v_ga0 0 2)])), (ga1, .inl (cI, 10, .inl (v_ga0 1))), (ga2, .inl (cI, 10, .inl (v_ga0 2))), (ga3, .inl (cI, 10, .inl (v_ga0 3))), (ga4, .inl (cI, 10, .inl (v_ga0 4))), (ga5, .inl (cI, 5, .inl (v_ga0 5))), (h, .inr (3, [.ref h1, .int (v_h0 0 0), .int (v_h0 0 1), .int (v_h0 0 2), .int (v_h0 0 3), .int (v_h0 0 4), .int (v_h0 0 5)])), (h1, .inl (cI, 400, .inl (v_h0 1)))]
abbrev at_X5_readOperatory (dC : Nat → ClassId) (dI : Nat → Nat → Nat) (cI cJ cB : ClassId) (ga ga1 ga2 ga3 ga4 ga5 h h1 : Nat) (sz : Nat) (v_ga0 : Nat → Nat → Int32) (v_h0 : Nat → Nat → Int32) (p0 : Int32) (p1 : Int32) (n9 : Nat) (r1 : Int32) (v_ga1 : Nat → Nat → Int32) (v_h1 : Nat → Nat → Int32) (u : (Nat → Nat → Int32) × (Nat → Nat → Int32)) (t : State) : Prop := match u with
  | (v_ga, v_h) => va_P (dC, dI) vwCl [(ga, .inr (5, [.ref ga1, .ref ga2, .ref ga3, .ref ga4, .ref ga5, .int (v_ga 0 0), .int (v_ga 0 1), .int (v_ga 0 2)])), (ga1, .inl (cI, 10, .inl (v_ga 1))), (ga2, .inl (cI, 10, .inl (v_ga 2))), (ga3, .inl (cI, 10, .inl (v_ga 3))), (ga4, .inl (cI, 10, .inl (v_ga 4))), (ga5, .inl (cI, 5, .inl (v_ga 5))), (h, .inr (3, [.ref h1, .int (v_h 0 0), .int (v_h 0 1), .int (v_h 0 2), .int (v_h 0 3), .int (v_h 0 4), .int (v_h 0 5)])), (h1, .inl (cI, 400, .inl (v_h 1)))] t.heap ∧ va_K (dC, dI) vwCl (tyL cI cJ cB) t ∧ va_D (va_A (ww_X5_readOperatory dC dI cI cJ cB ga ga1 ga2 ga3 ga4 ga5 h h1 sz v_ga0 v_h0 p0 p1 n9 r1 v_ga1 v_h1) sz) [(ga, .inr (5, [.ref ga1, .ref ga2, .ref ga3, .ref ga4, .ref ga5, .int (v_ga 0 0), .int (v_ga 0 1), .int (v_ga 0 2)])), (ga1, .inl (cI, 10, .inl (v_ga 1))), (ga2, .inl (cI, 10, .inl (v_ga 2))), (ga3, .inl (cI, 10, .inl (v_ga 3))), (ga4, .inl (cI, 10, .inl (v_ga 4))), (ga5, .inl (cI, 5, .inl (v_ga 5))), (h, .inr (3, [.ref h1, .int (v_h 0 0), .int (v_h 0 1), .int (v_h 0 2), .int (v_h 0 3), .int (v_h 0 4), .int (v_h 0 5)])), (h1, .inl (cI, 400, .inl (v_h 1)))]
abbrev qc_X5_readOperatory (dC : Nat → ClassId) (dI : Nat → Nat → Nat) (cI cJ cB : ClassId) (ga ga1 ga2 ga3 ga4 ga5 h h1 : Nat) (sz : Nat) (v_ga0 : Nat → Nat → Int32) (v_h0 : Nat → Nat → Int32) (p0 : Int32) (p1 : Int32) (n9 : Nat) (r1 : Int32) (v_ga1 : Nat → Nat → Int32) (v_h1 : Nat → Nat → Int32) : Array Value → State → Outcome → State → Prop := va_Qi (fun (r : Int32) (u : (Nat → Nat → Int32) × (Nat → Nat → Int32)) => match u with | (v_ga, v_h) => (r = r1) ∧ (v_ga = v_ga1) ∧ (v_h = v_h1)) (at_X5_readOperatory dC dI cI cJ cB ga ga1 ga2 ga3 ga4 ga5 h h1 sz v_ga0 v_h0 p0 p1 n9 r1 v_ga1 v_h1) (va_A (ww_X5_readOperatory dC dI cI cJ cB ga ga1 ga2 ga3 ga4 ga5 h h1 sz v_ga0 v_h0 p0 p1 n9 r1 v_ga1 v_h1) sz)
abbrev pc_X5_readOperatory (dC : Nat → ClassId) (dI : Nat → Nat → Nat) (cI cJ cB : ClassId) (ga ga1 ga2 ga3 ga4 ga5 h h1 : Nat) (sz : Nat) (v_ga0 : Nat → Nat → Int32) (v_h0 : Nat → Nat → Int32) (p0 : Int32) (p1 : Int32) (n9 : Nat) (r1 : Int32) (v_ga1 : Nat → Nat → Int32) (v_h1 : Nat → Nat → Int32) : Array Value → State → Prop := va_Pc [.ref ga, .ref h, .int p0, .int p1] (fun U => U.heap.size = sz ∧ NW U ∧ va_P (dC, dI) vwCl (ww_X5_readOperatory dC dI cI cJ cB ga ga1 ga2 ga3 ga4 ga5 h h1 sz v_ga0 v_h0 p0 p1 n9 r1 v_ga1 v_h1) U.heap ∧ va_K (dC, dI) vwCl (tyL cI cJ cB) U ∧ va_D (fun _ => True) (ww_X5_readOperatory dC dI cI cJ cB ga ga1 ga2 ga3 ga4 ga5 h h1 sz v_ga0 v_h0 p0 p1 n9 r1 v_ga1 v_h1))
abbrev rm_X5_readOperatory : Room := { frames := 3, cells := 0, slots := 0, locals := 64 }
abbrev WW_X5_readOperatory (p : Program) (l : Launch) (e : Env) (s : State) (m : MethodId) (below : List Frame) (meth : Method) (c : Code) (dC : Nat → ClassId) (dI : Nat → Nat → Nat) (cI cJ cB : ClassId) (ga ga1 ga2 ga3 ga4 ga5 h h1 : Nat) (sz : Nat) (v_ga0 : Nat → Nat → Int32) (v_h0 : Nat → Nat → Int32) (p0 : Int32) (p1 : Int32) (n9 : Nat) (r1 : Int32) (v_ga1 : Nat → Nat → Int32) (v_h1 : Nat → Nat → Int32) (H : Heap) (locs : List Loc) (g : JFrame) : Prop := W p l e rm_X5_readOperatory s m ([.ref ga, .ref h, .int p0, .int p1] : List Value).toArray below meth c H locs 0 0 (MQ below (qc_X5_readOperatory dC dI cI cJ cB ga ga1 ga2 ga3 ga4 ga5 h h1 sz v_ga0 v_h0 p0 p1 n9 r1 v_ga1 v_h1) ([.ref ga, .ref h, .int p0, .int p1] : List Value).toArray s 0 0 (va_A (ww_X5_readOperatory dC dI cI cJ cB ga ga1 ga2 ga3 ga4 ga5 h h1 sz v_ga0 v_h0 p0 p1 n9 r1 v_ga1 v_h1) sz)) g
set_option maxHeartbeats 4000000 in
set_option maxRecDepth 100000 in
theorem c_X5_readOperatory (l : Launch) (dC : Nat → ClassId) (dI : Nat → Nat → Nat) (cI cJ cB : ClassId) (ga ga1 ga2 ga3 ga4 ga5 h h1 : Nat) (sz : Nat) (v_ga0 : Nat → Nat → Int32) (v_h0 : Nat → Nat → Int32) (p0 : Int32) (p1 : Int32) (n9 : Nat) (r1 : Int32) (v_ga1 : Nat → Nat → Int32) (v_h1 : Nat → Nat → Int32) (hf : fx_X5_readOperator n9 v_ga0 v_h0 p0 p1 = some (r1, v_ga1, v_h1)) : Met l yX5_readOperator wo_X5_readOperatory rm_X5_readOperatory (pc_X5_readOperatory dC dI cI cJ cB ga ga1 ga2 ga3 ga4 ga5 h h1 sz v_ga0 v_h0 p0 p1 n9 r1 v_ga1 v_h1) (qc_X5_readOperatory dC dI cI cJ cB ga ga1 ga2 ga3 ga4 ga5 h h1 sz v_ga0 v_h0 p0 p1 n9 r1 v_ga1 v_h1) 0 0 (va_A (ww_X5_readOperatory dC dI cI cJ cB ga ga1 ga2 ga3 ga4 ga5 h h1 sz v_ga0 v_h0 p0 p1 n9 r1 v_ga1 v_h1) sz) := by
  unfold fx_X5_readOperator at hf
  refine Met.ofW (cc := cX5_readOperator) (maxL := 5) (ret := (some .boolean)) (by decide) rfl ?_
  intro p e s m args below meth c s₁ B hml hv
  obtain ⟨rfl, hsz, hnw, hP, hK, hD0⟩ := hv
  have hx := B.exec
  have hb := B.bytes
  have hr := B.returns
  have hts := atoms_spec (ws := wo_X5_readOperatory) B.pre
  have hown : s.vm.findClass RX5 = some m.cls := findClass_of_methodNamed B.named
  have hlocks := B.notSynchronized
  clear B
  subst hsz
  have hD := hD0.self (sz := s.heap.size)
  clear hD0
  have kk0_ : (Cond.fieldLinkNest RX5 43 "SumRewriter$Scanner" "sort" "I" "SumRewriter").before ([.ref ga, .ref h, .int p0, .int p1] : List Value).toArray s = true := va_Nw.use rfl (hnw _ (by decide +kernel))
  have kk1_ : ∀ w ∈ wsX30, w ∈ wo_X5_readOperatory := fun _ h => (List.mem_cons_of_mem _ (List.mem_append_right _ (List.mem_append_left _ h)))
  have kk2_ : (Cond.fieldLinkNest RX5 59 "SumRewriter$Scanner" "value" "I" "SumRewriter").before ([.ref ga, .ref h, .int p0, .int p1] : List Value).toArray s = true := va_Nw.use rfl (hnw _ (by decide +kernel))
  have kk3_ := hts (.constant RX5 78 (702772)) (by decide +kernel)
  have hA : ∀ q : Nat, s.heap.size ≤ q → (va_A (ww_X5_readOperatory dC dI cI cJ cB ga ga1 ga2 ga3 ga4 ga5 h h1 s.heap.size v_ga0 v_h0 p0 p1 n9 r1 v_ga1 v_h1) s.heap.size) q := fun q h => Or.inr h
  have hS : va_S (va_A (ww_X5_readOperatory dC dI cI cJ cB ga ga1 ga2 ga3 ga4 ga5 h h1 s.heap.size v_ga0 v_h0 p0 p1 n9 r1 v_ga1 v_h1) s.heap.size) s.heap s.heap [] := va_S.rf
  have hl := lv_entry ([.ref ga, .ref h, .int p0, .int p1]) (n := 5) (Nat.le_of_ble_eq_true rfl)
  rw [lg_entry_eq]
  generalize (lg_sl ([.ref ga, .ref h, .int p0, .int p1]) ++ List.replicate (5 - (lg_sl ([.ref ga, .ref h, .int p0, .int p1])).length) Slot.unset).toArray = ls at hl ⊢
  have hl : lv_has ls 5 [(0, .ref ga), (1, .ref h), (2, .int p0), (3, .int p1)] := hl
  have hP : va_P (dC, dI) vwCl [(ga, .inr (5, [.ref ga1, .ref ga2, .ref ga3, .ref ga4, .ref ga5, .int (v_ga0 0 0), .int (v_ga0 0 1), .int (v_ga0 0 2)])), (ga1, .inl (cI, 10, .inl (v_ga0 1))), (ga2, .inl (cI, 10, .inl (v_ga0 2))), (ga3, .inl (cI, 10, .inl (v_ga0 3))), (ga4, .inl (cI, 10, .inl (v_ga0 4))), (ga5, .inl (cI, 5, .inl (v_ga0 5))), (h, .inr (3, [.ref h1, .int (v_h0 0 0), .int (v_h0 0 1), .int (v_h0 0 2), .int (v_h0 0 3), .int (v_h0 0 4), .int (v_h0 0 5)])), (h1, .inl (cI, 400, .inl (v_h0 1)))] s.heap := hP
  have hD : va_D (va_A (ww_X5_readOperatory dC dI cI cJ cB ga ga1 ga2 ga3 ga4 ga5 h h1 s.heap.size v_ga0 v_h0 p0 p1 n9 r1 v_ga1 v_h1) s.heap.size) [(ga, .inr (5, [.ref ga1, .ref ga2, .ref ga3, .ref ga4, .ref ga5, .int (v_ga0 0 0), .int (v_ga0 0 1), .int (v_ga0 0 2)])), (ga1, .inl (cI, 10, .inl (v_ga0 1))), (ga2, .inl (cI, 10, .inl (v_ga0 2))), (ga3, .inl (cI, 10, .inl (v_ga0 3))), (ga4, .inl (cI, 10, .inl (v_ga0 4))), (ga5, .inl (cI, 5, .inl (v_ga0 5))), (h, .inr (3, [.ref h1, .int (v_h0 0 0), .int (v_h0 0 1), .int (v_h0 0 2), .int (v_h0 0 3), .int (v_h0 0 4), .int (v_h0 0 5)])), (h1, .inl (cI, 400, .inl (v_h0 1)))] := hD
  obtain ⟨H, hH⟩ : ∃ H, H = s.heap := ⟨_, rfl⟩
  obtain ⟨locs, hlc⟩ : ∃ L : List Loc, L = [] := ⟨_, rfl⟩
  have hS : va_S (va_A (ww_X5_readOperatory dC dI cI cJ cB ga ga1 ga2 ga3 ga4 ga5 h h1 s.heap.size v_ga0 v_h0 p0 p1 n9 r1 v_ga1 v_h1) s.heap.size) s.heap H locs := by rw [hH, hlc]; exact hS
  have hP : va_P (dC, dI) vwCl [(ga, .inr (5, [.ref ga1, .ref ga2, .ref ga3, .ref ga4, .ref ga5, .int (v_ga0 0 0), .int (v_ga0 0 1), .int (v_ga0 0 2)])), (ga1, .inl (cI, 10, .inl (v_ga0 1))), (ga2, .inl (cI, 10, .inl (v_ga0 2))), (ga3, .inl (cI, 10, .inl (v_ga0 3))), (ga4, .inl (cI, 10, .inl (v_ga0 4))), (ga5, .inl (cI, 5, .inl (v_ga0 5))), (h, .inr (3, [.ref h1, .int (v_h0 0 0), .int (v_h0 0 1), .int (v_h0 0 2), .int (v_h0 0 3), .int (v_h0 0 4), .int (v_h0 0 5)])), (h1, .inl (cI, 400, .inl (v_h0 1)))] H := by rw [hH]; exact hP
  suffices hgo : WW_X5_readOperatory p l e s m below meth c dC dI cI cJ cB ga ga1 ga2 ga3 ga4 ga5 h h1 s.heap.size v_ga0 v_h0 p0 p1 n9 r1 v_ga1 v_h1 H locs (F0 m 0 ls []) by rw [hH, hlc] at hgo; exact hgo
  clear hH hlc
  have J_65 : ∀ (x4 : Int32) (z0 : Int32) (v_ga : Nat → Nat → Int32) (v_h : Nat → Nat → Int32), jx_X5_readOperator_65 n9 p0 p1 x4 z0 v_ga v_h = some (r1, v_ga1, v_h1) → ∀ (H : Heap) (locs : List Loc), va_P (dC, dI) vwCl [(ga, .inr (5, [.ref ga1, .ref ga2, .ref ga3, .ref ga4, .ref ga5, .int (v_ga 0 0), .int (v_ga 0 1), .int (v_ga 0 2)])), (ga1, .inl (cI, 10, .inl (v_ga 1))), (ga2, .inl (cI, 10, .inl (v_ga 2))), (ga3, .inl (cI, 10, .inl (v_ga 3))), (ga4, .inl (cI, 10, .inl (v_ga 4))), (ga5, .inl (cI, 5, .inl (v_ga 5))), (h, .inr (3, [.ref h1, .int (v_h 0 0), .int (v_h 0 1), .int (v_h 0 2), .int (v_h 0 3), .int (v_h 0 4), .int (v_h 0 5)])), (h1, .inl (cI, 400, .inl (v_h 1)))] H → va_D (va_A (ww_X5_readOperatory dC dI cI cJ cB ga ga1 ga2 ga3 ga4 ga5 h h1 s.heap.size v_ga0 v_h0 p0 p1 n9 r1 v_ga1 v_h1) s.heap.size) [(ga, .inr (5, [.ref ga1, .ref ga2, .ref ga3, .ref ga4, .ref ga5, .int (v_ga 0 0), .int (v_ga 0 1), .int (v_ga 0 2)])), (ga1, .inl (cI, 10, .inl (v_ga 1))), (ga2, .inl (cI, 10, .inl (v_ga 2))), (ga3, .inl (cI, 10, .inl (v_ga 3))), (ga4, .inl (cI, 10, .inl (v_ga 4))), (ga5, .inl (cI, 5, .inl (v_ga 5))), (h, .inr (3, [.ref h1, .int (v_h 0 0), .int (v_h 0 1), .int (v_h 0 2), .int (v_h 0 3), .int (v_h 0 4), .int (v_h 0 5)])), (h1, .inl (cI, 400, .inl (v_h 1)))] → va_S (va_A (ww_X5_readOperatory dC dI cI cJ cB ga ga1 ga2 ga3 ga4 ga5 h h1 s.heap.size v_ga0 v_h0 p0 p1 n9 r1 v_ga1 v_h1) s.heap.size) s.heap H locs → ∀ ls : Array Slot, lv_has ls 5 [(0, .ref ga), (1, .ref h), (2, .int p0), (3, .int p1), (4, .int x4)] → WW_X5_readOperatory p l e s m below meth c dC dI cI cJ cB ga ga1 ga2 ga3 ga4 ga5 h h1 s.heap.size v_ga0 v_h0 p0 p1 n9 r1 v_ga1 v_h1 H locs (F0 m 65 ls [.int z0]) := by
    intro x4 z0 v_ga v_h hf H locs hP hD hS ls hl
    unfold jx_X5_readOperator_65 at hf
    refine lv_istore (lv' := [(4, .int z0), (0, .ref ga), (1, .ref h), (2, .int p0), (3, .int p1)]) hx hb dX5_readOperator_65 hl (by decide) rfl (fun ls hl => ?_)
    refine lv_iload hx hb dX5_readOperator_67 (lv_at hl 0 rfl) ?_
    refine lv_if_lt (tgt := 90) hx hb dX5_readOperator_69 (by decide) (fun c_1 => ?_) (fun c_1 => ?_)
    · replace hf := xi_t c_1 hf
      refine lv_iconst (v := 0) hx hb dX5_readOperator_90 (by decide) ?_
      have hP9 := hP.sub (ws' := [(ga, .inr (5, [.ref ga1, .ref ga2, .ref ga3, .ref ga4, .ref ga5, .int (v_ga 0 0), .int (v_ga 0 1), .int (v_ga 0 2)])), (ga1, .inl (cI, 10, .inl (v_ga 1))), (ga2, .inl (cI, 10, .inl (v_ga 2))), (ga3, .inl (cI, 10, .inl (v_ga 3))), (ga4, .inl (cI, 10, .inl (v_ga 4))), (ga5, .inl (cI, 5, .inl (v_ga 5))), (h, .inr (3, [.ref h1, .int (v_h 0 0), .int (v_h 0 1), .int (v_h 0 2), .int (v_h 0 3), .int (v_h 0 4), .int (v_h 0 5)])), (h1, .inl (cI, 400, .inl (v_h 1)))]) [0, 1, 2, 3, 4, 5, 6, 7] rfl
      have hD9 := hD.sub (ws' := [(ga, .inr (5, [.ref ga1, .ref ga2, .ref ga3, .ref ga4, .ref ga5, .int (v_ga 0 0), .int (v_ga 0 1), .int (v_ga 0 2)])), (ga1, .inl (cI, 10, .inl (v_ga 1))), (ga2, .inl (cI, 10, .inl (v_ga 2))), (ga3, .inl (cI, 10, .inl (v_ga 3))), (ga4, .inl (cI, 10, .inl (v_ga 4))), (ga5, .inl (cI, 5, .inl (v_ga 5))), (h, .inr (3, [.ref h1, .int (v_h 0 0), .int (v_h 0 1), .int (v_h 0 2), .int (v_h 0 3), .int (v_h 0 4), .int (v_h 0 5)])), (h1, .inl (cI, 400, .inl (v_h 1)))]) [0, 1, 2, 3, 4, 5, 6, 7] (by decide) rfl
      have r9_0 : (0 : Int32) = r1 := (Prod.mk.inj (Option.some.inj hf)).1
      have r9_1 : v_ga = v_ga1 := (Prod.mk.inj (Prod.mk.inj (Option.some.inj hf)).2).1
      have r9_2 : v_h = v_h1 := (Prod.mk.inj (Prod.mk.inj (Option.some.inj hf)).2).2
      exact W.zret (v := (0 : Int32)) hx hb hr rfl (fun t ht hW => ⟨⟨(0 : Int32), (v_ga, v_h), rfl, ⟨r9_0, r9_1, r9_2⟩, by rw [ht]; exact hP9, va_K.moved hW.alike hK, hD9⟩, hS.F ht⟩) hS.2.2 dX5_readOperator_91
    · replace hf := xi_f c_1 hf
      refine lv_aload_n hx hb dX5_readOperator_72 rfl (lv_at hl 1 rfl) ?_
      refine lv_iload hx hb dX5_readOperator_73 (lv_at hl 0 rfl) ?_
      replace hf := xb1_to hf
      obtain ⟨o_2, g_3, hf⟩ := hf
      have hPc := hP.sub (ws' := [(ga, .inr (5, [.ref ga1, .ref ga2, .ref ga3, .ref ga4, .ref ga5, .int (v_ga 0 0), .int (v_ga 0 1), .int (v_ga 0 2)])), (ga1, .inl (cI, 10, .inl (v_ga 1))), (ga2, .inl (cI, 10, .inl (v_ga 2))), (ga3, .inl (cI, 10, .inl (v_ga 3))), (ga4, .inl (cI, 10, .inl (v_ga 4))), (ga5, .inl (cI, 5, .inl (v_ga 5)))]) [0, 1, 2, 3, 4, 5] rfl
      have hDc := hD.sub (ws' := [(ga, .inr (5, [.ref ga1, .ref ga2, .ref ga3, .ref ga4, .ref ga5, .int (v_ga 0 0), .int (v_ga 0 1), .int (v_ga 0 2)])), (ga1, .inl (cI, 10, .inl (v_ga 1))), (ga2, .inl (cI, 10, .inl (v_ga 2))), (ga3, .inl (cI, 10, .inl (v_ga 3))), (ga4, .inl (cI, 10, .inl (v_ga 4))), (ga5, .inl (cI, 5, .inl (v_ga 5)))]) [0, 1, 2, 3, 4, 5] (by decide) rfl
      have hFc := va_free (wc := [(ga, .inr (5, [.ref ga1, .ref ga2, .ref ga3, .ref ga4, .ref ga5, .int (v_ga 0 0), .int (v_ga 0 1), .int (v_ga 0 2)])), (ga1, .inl (cI, 10, .inl (v_ga 1))), (ga2, .inl (cI, 10, .inl (v_ga 2))), (ga3, .inl (cI, 10, .inl (v_ga 3))), (ga4, .inl (cI, 10, .inl (v_ga 4))), (ga5, .inl (cI, 5, .inl (v_ga 5)))]) hD hS hA [0, 1, 2, 3, 4, 5] rfl
      refine va_calli (va_runV (As := [.int z0]) (rest := []) ⟨hx, hb, hml, hown, hts⟩ (c_X5_kindOfy l dC dI cI cJ cB ga ga1 ga2 ga3 ga4 ga5 H.size v_ga z0 n9 o_2 g_3) (cwV 1 hts go_wo_X5_readOperatory_1 rfl rfl rfl (by decide +kernel) ⟨Nat.le_of_ble_eq_true rfl, Nat.le_of_ble_eq_true rfl⟩) ⟨fun a U g mk q => by obtain ⟨q0, q1, qN, qP, qK, qD⟩ := q; exact ⟨q0, q1, NW.calling qN, qP, va_K.moved (u := U) (U := U.calling g mk a) (Vm.Alike.refl U.vm) qK, qD⟩, va_recv hK hPc (ci := 5) (q0 := 0) rfl rfl, fun U hU hW => ⟨rfl, by rw [hU], NW.warm hW hnw, by rw [hU]; exact hPc, va_K.moved hW.alike hK, hDc.weaken (fun _ _ _ _ => trivial)⟩⟩ rfl rfl hl.1 rfl (lv_room (Nat.le_of_ble_eq_true rfl)) dX5_readOperator_75 ⟨Nat.zero_le _, Nat.zero_le _⟩) hS (fun q _ h => hFc q h) hFc (fun r_4 u t H1 locs ht hvm hw hB hz1 hk1 hS => ?_)
      cases u
      obtain ⟨hP1, hK1, hD1⟩ := hB
      rw [ht] at hP1
      have hw : (r_4 = o_2) := hw
      subst hw
      obtain ⟨hP, hD⟩ := va_join (wr := [(h, .inr (3, [.ref h1, .int (v_h 0 0), .int (v_h 0 1), .int (v_h 0 2), .int (v_h 0 3), .int (v_h 0 4), .int (v_h 0 5)])), (h1, .inl (cI, 400, .inl (v_h 1)))]) (w1 := [(ga, .inr (5, [.ref ga1, .ref ga2, .ref ga3, .ref ga4, .ref ga5, .int (v_ga 0 0), .int (v_ga 0 1), .int (v_ga 0 2)])), (ga1, .inl (cI, 10, .inl (v_ga 1))), (ga2, .inl (cI, 10, .inl (v_ga 2))), (ga3, .inl (cI, 10, .inl (v_ga 3))), (ga4, .inl (cI, 10, .inl (v_ga 4))), (ga5, .inl (cI, 5, .inl (v_ga 5)))]) hP hD [0, 1, 2, 3, 4, 5] [6, 7] rfl rfl (by decide) (by decide) hk1 hFc hP1 hD1
      generalize H1 = H at hP hS ⊢
      have hP : va_P (dC, dI) vwCl [(h, .inr (3, [.ref h1, .int (v_h 0 0), .int (v_h 0 1), .int (v_h 0 2), .int (v_h 0 3), .int (v_h 0 4), .int (v_h 0 5)])), (h1, .inl (cI, 400, .inl (v_h 1))), (ga, .inr (5, [.ref ga1, .ref ga2, .ref ga3, .ref ga4, .ref ga5, .int (v_ga 0 0), .int (v_ga 0 1), .int (v_ga 0 2)])), (ga1, .inl (cI, 10, .inl (v_ga 1))), (ga2, .inl (cI, 10, .inl (v_ga 2))), (ga3, .inl (cI, 10, .inl (v_ga 3))), (ga4, .inl (cI, 10, .inl (v_ga 4))), (ga5, .inl (cI, 5, .inl (v_ga 5)))] H := hP
      have hD : va_D (va_A (ww_X5_readOperatory dC dI cI cJ cB ga ga1 ga2 ga3 ga4 ga5 h h1 s.heap.size v_ga0 v_h0 p0 p1 n9 r1 v_ga1 v_h1) s.heap.size) [(h, .inr (3, [.ref h1, .int (v_h 0 0), .int (v_h 0 1), .int (v_h 0 2), .int (v_h 0 3), .int (v_h 0 4), .int (v_h 0 5)])), (h1, .inl (cI, 400, .inl (v_h 1))), (ga, .inr (5, [.ref ga1, .ref ga2, .ref ga3, .ref ga4, .ref ga5, .int (v_ga 0 0), .int (v_ga 0 1), .int (v_ga 0 2)])), (ga1, .inl (cI, 10, .inl (v_ga 1))), (ga2, .inl (cI, 10, .inl (v_ga 2))), (ga3, .inl (cI, 10, .inl (v_ga 3))), (ga4, .inl (cI, 10, .inl (v_ga 4))), (ga5, .inl (cI, 5, .inl (v_ga 5)))] := hD
      clear hPc hDc hFc hP1 hK1 hD1 hk1 hz1 ht hvm g_3
      refine lv_if_ne (tgt := 90) hx hb dX5_readOperator_78 (by decide) (fun c_6 => ?_) (fun c_6 => ?_)
      · replace hf := xi_f c_6 hf
        refine lv_iconst (v := 0) hx hb dX5_readOperator_90 (by decide) ?_
        have hP9 := hP.sub (ws' := [(ga, .inr (5, [.ref ga1, .ref ga2, .ref ga3, .ref ga4, .ref ga5, .int (v_ga 0 0), .int (v_ga 0 1), .int (v_ga 0 2)])), (ga1, .inl (cI, 10, .inl (v_ga 1))), (ga2, .inl (cI, 10, .inl (v_ga 2))), (ga3, .inl (cI, 10, .inl (v_ga 3))), (ga4, .inl (cI, 10, .inl (v_ga 4))), (ga5, .inl (cI, 5, .inl (v_ga 5))), (h, .inr (3, [.ref h1, .int (v_h 0 0), .int (v_h 0 1), .int (v_h 0 2), .int (v_h 0 3), .int (v_h 0 4), .int (v_h 0 5)])), (h1, .inl (cI, 400, .inl (v_h 1)))]) [2, 3, 4, 5, 6, 7, 0, 1] rfl
        have hD9 := hD.sub (ws' := [(ga, .inr (5, [.ref ga1, .ref ga2, .ref ga3, .ref ga4, .ref ga5, .int (v_ga 0 0), .int (v_ga 0 1), .int (v_ga 0 2)])), (ga1, .inl (cI, 10, .inl (v_ga 1))), (ga2, .inl (cI, 10, .inl (v_ga 2))), (ga3, .inl (cI, 10, .inl (v_ga 3))), (ga4, .inl (cI, 10, .inl (v_ga 4))), (ga5, .inl (cI, 5, .inl (v_ga 5))), (h, .inr (3, [.ref h1, .int (v_h 0 0), .int (v_h 0 1), .int (v_h 0 2), .int (v_h 0 3), .int (v_h 0 4), .int (v_h 0 5)])), (h1, .inl (cI, 400, .inl (v_h 1)))]) [2, 3, 4, 5, 6, 7, 0, 1] (by decide) rfl
        have r9_0 : (0 : Int32) = r1 := (Prod.mk.inj (Option.some.inj hf)).1
        have r9_1 : v_ga = v_ga1 := (Prod.mk.inj (Prod.mk.inj (Option.some.inj hf)).2).1
        have r9_2 : v_h = v_h1 := (Prod.mk.inj (Prod.mk.inj (Option.some.inj hf)).2).2
        exact W.zret (v := (0 : Int32)) hx hb hr rfl (fun t ht hW => ⟨⟨(0 : Int32), (v_ga, v_h), rfl, ⟨r9_0, r9_1, r9_2⟩, by rw [ht]; exact hP9, va_K.moved hW.alike hK, hD9⟩, hS.F ht⟩) hS.2.2 dX5_readOperator_91
      · replace hf := xi_t c_6 hf
        refine lv_aload_n hx hb dX5_readOperator_81 rfl (lv_at hl 1 rfl) ?_
        refine lv_iload hx hb dX5_readOperator_82 (lv_at hl 0 rfl) ?_
        replace hf := xb1_to hf
        obtain ⟨o_7, g_8, hf⟩ := hf
        have hPc := hP.sub (ws' := [(ga, .inr (5, [.ref ga1, .ref ga2, .ref ga3, .ref ga4, .ref ga5, .int (v_ga 0 0), .int (v_ga 0 1), .int (v_ga 0 2)])), (ga1, .inl (cI, 10, .inl (v_ga 1))), (ga2, .inl (cI, 10, .inl (v_ga 2))), (ga3, .inl (cI, 10, .inl (v_ga 3))), (ga4, .inl (cI, 10, .inl (v_ga 4))), (ga5, .inl (cI, 5, .inl (v_ga 5)))]) [2, 3, 4, 5, 6, 7] rfl
        have hDc := hD.sub (ws' := [(ga, .inr (5, [.ref ga1, .ref ga2, .ref ga3, .ref ga4, .ref ga5, .int (v_ga 0 0), .int (v_ga 0 1), .int (v_ga 0 2)])), (ga1, .inl (cI, 10, .inl (v_ga 1))), (ga2, .inl (cI, 10, .inl (v_ga 2))), (ga3, .inl (cI, 10, .inl (v_ga 3))), (ga4, .inl (cI, 10, .inl (v_ga 4))), (ga5, .inl (cI, 5, .inl (v_ga 5)))]) [2, 3, 4, 5, 6, 7] (by decide) rfl
        have hFc := va_free (wc := [(ga, .inr (5, [.ref ga1, .ref ga2, .ref ga3, .ref ga4, .ref ga5, .int (v_ga 0 0), .int (v_ga 0 1), .int (v_ga 0 2)])), (ga1, .inl (cI, 10, .inl (v_ga 1))), (ga2, .inl (cI, 10, .inl (v_ga 2))), (ga3, .inl (cI, 10, .inl (v_ga 3))), (ga4, .inl (cI, 10, .inl (v_ga 4))), (ga5, .inl (cI, 5, .inl (v_ga 5)))]) hD hS hA [2, 3, 4, 5, 6, 7] rfl
        refine va_calli (va_runV (As := [.int z0]) (rest := []) ⟨hx, hb, hml, hown, hts⟩ (c_X5_partsOfy l dC dI cI cJ cB ga ga1 ga2 ga3 ga4 ga5 H.size v_ga z0 n9 o_7 g_8) (cwV 1 hts go_wo_X5_readOperatory_2 rfl rfl rfl (by decide +kernel) ⟨Nat.le_of_ble_eq_true rfl, Nat.le_of_ble_eq_true rfl⟩) ⟨fun a U g mk q => by obtain ⟨q0, q1, qN, qP, qK, qD⟩ := q; exact ⟨q0, q1, NW.calling qN, qP, va_K.moved (u := U) (U := U.calling g mk a) (Vm.Alike.refl U.vm) qK, qD⟩, va_recv hK hPc (ci := 5) (q0 := 0) rfl rfl, fun U hU hW => ⟨rfl, by rw [hU], NW.warm hW hnw, by rw [hU]; exact hPc, va_K.moved hW.alike hK, hDc.weaken (fun _ _ _ _ => trivial)⟩⟩ rfl rfl hl.1 rfl (lv_room (Nat.le_of_ble_eq_true rfl)) dX5_readOperator_84 ⟨Nat.zero_le _, Nat.zero_le _⟩) hS (fun q _ h => hFc q h) hFc (fun r_9 u t H1 locs ht hvm hw hB hz1 hk1 hS => ?_)
        cases u
        obtain ⟨hP1, hK1, hD1⟩ := hB
        rw [ht] at hP1
        have hw : (r_9 = o_7) := hw
        subst hw
        obtain ⟨hP, hD⟩ := va_join (wr := [(h, .inr (3, [.ref h1, .int (v_h 0 0), .int (v_h 0 1), .int (v_h 0 2), .int (v_h 0 3), .int (v_h 0 4), .int (v_h 0 5)])), (h1, .inl (cI, 400, .inl (v_h 1)))]) (w1 := [(ga, .inr (5, [.ref ga1, .ref ga2, .ref ga3, .ref ga4, .ref ga5, .int (v_ga 0 0), .int (v_ga 0 1), .int (v_ga 0 2)])), (ga1, .inl (cI, 10, .inl (v_ga 1))), (ga2, .inl (cI, 10, .inl (v_ga 2))), (ga3, .inl (cI, 10, .inl (v_ga 3))), (ga4, .inl (cI, 10, .inl (v_ga 4))), (ga5, .inl (cI, 5, .inl (v_ga 5)))]) hP hD [2, 3, 4, 5, 6, 7] [0, 1] rfl rfl (by decide) (by decide) hk1 hFc hP1 hD1
        generalize H1 = H at hP hS ⊢
        have hP : va_P (dC, dI) vwCl [(h, .inr (3, [.ref h1, .int (v_h 0 0), .int (v_h 0 1), .int (v_h 0 2), .int (v_h 0 3), .int (v_h 0 4), .int (v_h 0 5)])), (h1, .inl (cI, 400, .inl (v_h 1))), (ga, .inr (5, [.ref ga1, .ref ga2, .ref ga3, .ref ga4, .ref ga5, .int (v_ga 0 0), .int (v_ga 0 1), .int (v_ga 0 2)])), (ga1, .inl (cI, 10, .inl (v_ga 1))), (ga2, .inl (cI, 10, .inl (v_ga 2))), (ga3, .inl (cI, 10, .inl (v_ga 3))), (ga4, .inl (cI, 10, .inl (v_ga 4))), (ga5, .inl (cI, 5, .inl (v_ga 5)))] H := hP
        have hD : va_D (va_A (ww_X5_readOperatory dC dI cI cJ cB ga ga1 ga2 ga3 ga4 ga5 h h1 s.heap.size v_ga0 v_h0 p0 p1 n9 r1 v_ga1 v_h1) s.heap.size) [(h, .inr (3, [.ref h1, .int (v_h 0 0), .int (v_h 0 1), .int (v_h 0 2), .int (v_h 0 3), .int (v_h 0 4), .int (v_h 0 5)])), (h1, .inl (cI, 400, .inl (v_h 1))), (ga, .inr (5, [.ref ga1, .ref ga2, .ref ga3, .ref ga4, .ref ga5, .int (v_ga 0 0), .int (v_ga 0 1), .int (v_ga 0 2)])), (ga1, .inl (cI, 10, .inl (v_ga 1))), (ga2, .inl (cI, 10, .inl (v_ga 2))), (ga3, .inl (cI, 10, .inl (v_ga 3))), (ga4, .inl (cI, 10, .inl (v_ga 4))), (ga5, .inl (cI, 5, .inl (v_ga 5)))] := hD
        clear hPc hDc hFc hP1 hK1 hD1 hk1 hz1 ht hvm g_8
        refine lv_if_eq (tgt := 92) hx hb dX5_readOperator_87 (by decide) (fun c_11 => ?_) (fun c_11 => ?_)
        · replace hf := xi_t c_11 hf
          refine lv_aload_n hx hb dX5_readOperator_92 rfl (lv_at hl 2 rfl) ?_
          replace hf := xb1_to hf
          obtain ⟨o_12, g_13, hf⟩ := hf
          have hPc := hP.sub (ws' := [(h, .inr (3, [.ref h1, .int (v_h 0 0), .int (v_h 0 1), .int (v_h 0 2), .int (v_h 0 3), .int (v_h 0 4), .int (v_h 0 5)])), (h1, .inl (cI, 400, .inl (v_h 1)))]) [0, 1] rfl
          have hDc := hD.sub (ws' := [(h, .inr (3, [.ref h1, .int (v_h 0 0), .int (v_h 0 1), .int (v_h 0 2), .int (v_h 0 3), .int (v_h 0 4), .int (v_h 0 5)])), (h1, .inl (cI, 400, .inl (v_h 1)))]) [0, 1] (by decide) rfl
          have hFc := va_free (wc := [(h, .inr (3, [.ref h1, .int (v_h 0 0), .int (v_h 0 1), .int (v_h 0 2), .int (v_h 0 3), .int (v_h 0 4), .int (v_h 0 5)])), (h1, .inl (cI, 400, .inl (v_h 1)))]) hD hS hA [0, 1] rfl
          refine va_callv (va_runV (As := []) (rest := []) ⟨hx, hb, hml, hown, hts⟩ (c_X3_advancey l dC dI cI cJ cB h h1 H.size v_h n9 o_12 g_13) (cwV 0 hts go_wo_X5_readOperatory_3 rfl rfl rfl (by decide +kernel) ⟨Nat.le_of_ble_eq_true rfl, Nat.le_of_ble_eq_true rfl⟩) ⟨fun a U g mk q => by obtain ⟨q0, q1, qN, qP, qK, qD⟩ := q; exact ⟨q0, q1, NW.calling qN, qP, va_K.moved (u := U) (U := U.calling g mk a) (Vm.Alike.refl U.vm) qK, qD⟩, va_recv hK hPc (ci := 3) (q0 := 0) rfl rfl, fun U hU hW => ⟨rfl, by rw [hU], NW.warm hW hnw, by rw [hU]; exact hPc, va_K.moved hW.alike hK, hDc.weaken (fun _ _ _ _ => trivial)⟩⟩ rfl rfl hl.1 rfl (lv_room (Nat.le_of_ble_eq_true rfl)) dX5_readOperator_93 ⟨Nat.zero_le _, Nat.zero_le _⟩) hS (fun q _ h => hFc q h) hFc (fun u t H1 locs ht hvm hw hB hz1 hk1 hS => ?_)
          obtain ⟨v_h_15, rfl⟩ : ∃ z, z = u := ⟨_, rfl⟩
          obtain ⟨hP1, hK1, hD1⟩ := hB
          rw [ht] at hP1
          have hw : (v_h_15 = o_12) := hw
          subst hw
          obtain ⟨hP, hD⟩ := va_join (wr := [(ga, .inr (5, [.ref ga1, .ref ga2, .ref ga3, .ref ga4, .ref ga5, .int (v_ga 0 0), .int (v_ga 0 1), .int (v_ga 0 2)])), (ga1, .inl (cI, 10, .inl (v_ga 1))), (ga2, .inl (cI, 10, .inl (v_ga 2))), (ga3, .inl (cI, 10, .inl (v_ga 3))), (ga4, .inl (cI, 10, .inl (v_ga 4))), (ga5, .inl (cI, 5, .inl (v_ga 5)))]) (w1 := [(h, .inr (3, [.ref h1, .int (v_h_15 0 0), .int (v_h_15 0 1), .int (v_h_15 0 2), .int (v_h_15 0 3), .int (v_h_15 0 4), .int (v_h_15 0 5)])), (h1, .inl (cI, 400, .inl (v_h_15 1)))]) hP hD [0, 1] [2, 3, 4, 5, 6, 7] rfl rfl (by decide) (by decide) hk1 hFc hP1 hD1
          generalize H1 = H at hP hS ⊢
          have hP : va_P (dC, dI) vwCl [(ga, .inr (5, [.ref ga1, .ref ga2, .ref ga3, .ref ga4, .ref ga5, .int (v_ga 0 0), .int (v_ga 0 1), .int (v_ga 0 2)])), (ga1, .inl (cI, 10, .inl (v_ga 1))), (ga2, .inl (cI, 10, .inl (v_ga 2))), (ga3, .inl (cI, 10, .inl (v_ga 3))), (ga4, .inl (cI, 10, .inl (v_ga 4))), (ga5, .inl (cI, 5, .inl (v_ga 5))), (h, .inr (3, [.ref h1, .int (v_h_15 0 0), .int (v_h_15 0 1), .int (v_h_15 0 2), .int (v_h_15 0 3), .int (v_h_15 0 4), .int (v_h_15 0 5)])), (h1, .inl (cI, 400, .inl (v_h_15 1)))] H := hP
          have hD : va_D (va_A (ww_X5_readOperatory dC dI cI cJ cB ga ga1 ga2 ga3 ga4 ga5 h h1 s.heap.size v_ga0 v_h0 p0 p1 n9 r1 v_ga1 v_h1) s.heap.size) [(ga, .inr (5, [.ref ga1, .ref ga2, .ref ga3, .ref ga4, .ref ga5, .int (v_ga 0 0), .int (v_ga 0 1), .int (v_ga 0 2)])), (ga1, .inl (cI, 10, .inl (v_ga 1))), (ga2, .inl (cI, 10, .inl (v_ga 2))), (ga3, .inl (cI, 10, .inl (v_ga 3))), (ga4, .inl (cI, 10, .inl (v_ga 4))), (ga5, .inl (cI, 5, .inl (v_ga 5))), (h, .inr (3, [.ref h1, .int (v_h_15 0 0), .int (v_h_15 0 1), .int (v_h_15 0 2), .int (v_h_15 0 3), .int (v_h_15 0 4), .int (v_h_15 0 5)])), (h1, .inl (cI, 400, .inl (v_h_15 1)))] := hD
          clear hPc hDc hFc hP1 hK1 hD1 hk1 hz1 ht hvm g_13
          refine lv_aload_n hx hb dX5_readOperator_96 rfl (lv_at hl 1 rfl) ?_
          refine lv_iload_n hx hb dX5_readOperator_97 rfl (lv_at hl 4 rfl) ?_
          refine lv_iconst (v := 2) hx hb dX5_readOperator_98 (by decide) ?_
          refine lv_iconst (v := 2) hx hb dX5_readOperator_99 (by decide) ?_
          refine lv_iload hx hb dX5_readOperator_100 (lv_at hl 0 rfl) ?_
          replace hf := xb1_to hf
          obtain ⟨o_17, g_18, hf⟩ := hf
          have hPc := hP.sub (ws' := [(ga, .inr (5, [.ref ga1, .ref ga2, .ref ga3, .ref ga4, .ref ga5, .int (v_ga 0 0), .int (v_ga 0 1), .int (v_ga 0 2)])), (ga1, .inl (cI, 10, .inl (v_ga 1))), (ga2, .inl (cI, 10, .inl (v_ga 2))), (ga3, .inl (cI, 10, .inl (v_ga 3))), (ga4, .inl (cI, 10, .inl (v_ga 4))), (ga5, .inl (cI, 5, .inl (v_ga 5)))]) [0, 1, 2, 3, 4, 5] rfl
          have hDc := hD.sub (ws' := [(ga, .inr (5, [.ref ga1, .ref ga2, .ref ga3, .ref ga4, .ref ga5, .int (v_ga 0 0), .int (v_ga 0 1), .int (v_ga 0 2)])), (ga1, .inl (cI, 10, .inl (v_ga 1))), (ga2, .inl (cI, 10, .inl (v_ga 2))), (ga3, .inl (cI, 10, .inl (v_ga 3))), (ga4, .inl (cI, 10, .inl (v_ga 4))), (ga5, .inl (cI, 5, .inl (v_ga 5)))]) [0, 1, 2, 3, 4, 5] (by decide) rfl
          have hFc := va_free (wc := [(ga, .inr (5, [.ref ga1, .ref ga2, .ref ga3, .ref ga4, .ref ga5, .int (v_ga 0 0), .int (v_ga 0 1), .int (v_ga 0 2)])), (ga1, .inl (cI, 10, .inl (v_ga 1))), (ga2, .inl (cI, 10, .inl (v_ga 2))), (ga3, .inl (cI, 10, .inl (v_ga 3))), (ga4, .inl (cI, 10, .inl (v_ga 4))), (ga5, .inl (cI, 5, .inl (v_ga 5)))]) hD hS hA [0, 1, 2, 3, 4, 5] rfl
          refine va_callv (va_runV (As := [.int p1, .int ((2 : Int32)), .int ((2 : Int32)), .int z0]) (rest := []) ⟨hx, hb, hml, hown, hts⟩ (c_X5_addOperatory l dC dI cI cJ cB ga ga1 ga2 ga3 ga4 ga5 H.size v_ga p1 ((2 : Int32)) ((2 : Int32)) z0 n9 o_17 g_18) (cwV 4 hts go_wo_X5_readOperatory_4 rfl rfl rfl (by decide +kernel) ⟨Nat.le_of_ble_eq_true rfl, Nat.le_of_ble_eq_true rfl⟩) ⟨fun a U g mk q => by obtain ⟨q0, q1, qN, qP, qK, qD⟩ := q; exact ⟨q0, q1, NW.calling qN, qP, va_K.moved (u := U) (U := U.calling g mk a) (Vm.Alike.refl U.vm) qK, qD⟩, va_recv hK hPc (ci := 5) (q0 := 0) rfl rfl, fun U hU hW => ⟨rfl, by rw [hU], NW.warm hW hnw, by rw [hU]; exact hPc, va_K.moved hW.alike hK, hDc.weaken (fun _ _ _ _ => trivial)⟩⟩ rfl rfl hl.1 rfl (lv_room (Nat.le_of_ble_eq_true rfl)) dX5_readOperator_102 ⟨Nat.zero_le _, Nat.zero_le _⟩) hS (fun q _ h => hFc q h) hFc (fun u t H1 locs ht hvm hw hB hz1 hk1 hS => ?_)
          obtain ⟨v_ga_20, rfl⟩ : ∃ z, z = u := ⟨_, rfl⟩
          obtain ⟨hP1, hK1, hD1⟩ := hB
          rw [ht] at hP1
          have hw : (v_ga_20 = o_17) := hw
          subst hw
          obtain ⟨hP, hD⟩ := va_join (wr := [(h, .inr (3, [.ref h1, .int (v_h_15 0 0), .int (v_h_15 0 1), .int (v_h_15 0 2), .int (v_h_15 0 3), .int (v_h_15 0 4), .int (v_h_15 0 5)])), (h1, .inl (cI, 400, .inl (v_h_15 1)))]) (w1 := [(ga, .inr (5, [.ref ga1, .ref ga2, .ref ga3, .ref ga4, .ref ga5, .int (v_ga_20 0 0), .int (v_ga_20 0 1), .int (v_ga_20 0 2)])), (ga1, .inl (cI, 10, .inl (v_ga_20 1))), (ga2, .inl (cI, 10, .inl (v_ga_20 2))), (ga3, .inl (cI, 10, .inl (v_ga_20 3))), (ga4, .inl (cI, 10, .inl (v_ga_20 4))), (ga5, .inl (cI, 5, .inl (v_ga_20 5)))]) hP hD [0, 1, 2, 3, 4, 5] [6, 7] rfl rfl (by decide) (by decide) hk1 hFc hP1 hD1
          generalize H1 = H at hP hS ⊢
          have hP : va_P (dC, dI) vwCl [(h, .inr (3, [.ref h1, .int (v_h_15 0 0), .int (v_h_15 0 1), .int (v_h_15 0 2), .int (v_h_15 0 3), .int (v_h_15 0 4), .int (v_h_15 0 5)])), (h1, .inl (cI, 400, .inl (v_h_15 1))), (ga, .inr (5, [.ref ga1, .ref ga2, .ref ga3, .ref ga4, .ref ga5, .int (v_ga_20 0 0), .int (v_ga_20 0 1), .int (v_ga_20 0 2)])), (ga1, .inl (cI, 10, .inl (v_ga_20 1))), (ga2, .inl (cI, 10, .inl (v_ga_20 2))), (ga3, .inl (cI, 10, .inl (v_ga_20 3))), (ga4, .inl (cI, 10, .inl (v_ga_20 4))), (ga5, .inl (cI, 5, .inl (v_ga_20 5)))] H := hP
          have hD : va_D (va_A (ww_X5_readOperatory dC dI cI cJ cB ga ga1 ga2 ga3 ga4 ga5 h h1 s.heap.size v_ga0 v_h0 p0 p1 n9 r1 v_ga1 v_h1) s.heap.size) [(h, .inr (3, [.ref h1, .int (v_h_15 0 0), .int (v_h_15 0 1), .int (v_h_15 0 2), .int (v_h_15 0 3), .int (v_h_15 0 4), .int (v_h_15 0 5)])), (h1, .inl (cI, 400, .inl (v_h_15 1))), (ga, .inr (5, [.ref ga1, .ref ga2, .ref ga3, .ref ga4, .ref ga5, .int (v_ga_20 0 0), .int (v_ga_20 0 1), .int (v_ga_20 0 2)])), (ga1, .inl (cI, 10, .inl (v_ga_20 1))), (ga2, .inl (cI, 10, .inl (v_ga_20 2))), (ga3, .inl (cI, 10, .inl (v_ga_20 3))), (ga4, .inl (cI, 10, .inl (v_ga_20 4))), (ga5, .inl (cI, 5, .inl (v_ga_20 5)))] := hD
          clear hPc hDc hFc hP1 hK1 hD1 hk1 hz1 ht hvm g_18
          refine lv_iconst (v := 1) hx hb dX5_readOperator_105 (by decide) ?_
          have hP9 := hP.sub (ws' := [(ga, .inr (5, [.ref ga1, .ref ga2, .ref ga3, .ref ga4, .ref ga5, .int (v_ga_20 0 0), .int (v_ga_20 0 1), .int (v_ga_20 0 2)])), (ga1, .inl (cI, 10, .inl (v_ga_20 1))), (ga2, .inl (cI, 10, .inl (v_ga_20 2))), (ga3, .inl (cI, 10, .inl (v_ga_20 3))), (ga4, .inl (cI, 10, .inl (v_ga_20 4))), (ga5, .inl (cI, 5, .inl (v_ga_20 5))), (h, .inr (3, [.ref h1, .int (v_h_15 0 0), .int (v_h_15 0 1), .int (v_h_15 0 2), .int (v_h_15 0 3), .int (v_h_15 0 4), .int (v_h_15 0 5)])), (h1, .inl (cI, 400, .inl (v_h_15 1)))]) [2, 3, 4, 5, 6, 7, 0, 1] rfl
          have hD9 := hD.sub (ws' := [(ga, .inr (5, [.ref ga1, .ref ga2, .ref ga3, .ref ga4, .ref ga5, .int (v_ga_20 0 0), .int (v_ga_20 0 1), .int (v_ga_20 0 2)])), (ga1, .inl (cI, 10, .inl (v_ga_20 1))), (ga2, .inl (cI, 10, .inl (v_ga_20 2))), (ga3, .inl (cI, 10, .inl (v_ga_20 3))), (ga4, .inl (cI, 10, .inl (v_ga_20 4))), (ga5, .inl (cI, 5, .inl (v_ga_20 5))), (h, .inr (3, [.ref h1, .int (v_h_15 0 0), .int (v_h_15 0 1), .int (v_h_15 0 2), .int (v_h_15 0 3), .int (v_h_15 0 4), .int (v_h_15 0 5)])), (h1, .inl (cI, 400, .inl (v_h_15 1)))]) [2, 3, 4, 5, 6, 7, 0, 1] (by decide) rfl
          have r9_0 : (1 : Int32) = r1 := (Prod.mk.inj (Option.some.inj hf)).1
          have r9_1 : v_ga_20 = v_ga1 := (Prod.mk.inj (Prod.mk.inj (Option.some.inj hf)).2).1
          have r9_2 : v_h_15 = v_h1 := (Prod.mk.inj (Prod.mk.inj (Option.some.inj hf)).2).2
          exact W.zret (v := (1 : Int32)) hx hb hr rfl (fun t ht hW => ⟨⟨(1 : Int32), (v_ga_20, v_h_15), rfl, ⟨r9_0, r9_1, r9_2⟩, by rw [ht]; exact hP9, va_K.moved hW.alike hK, hD9⟩, hS.F ht⟩) hS.2.2 dX5_readOperator_106
        · replace hf := xi_f c_11 hf
          refine lv_iconst (v := 0) hx hb dX5_readOperator_90 (by decide) ?_
          have hP9 := hP.sub (ws' := [(ga, .inr (5, [.ref ga1, .ref ga2, .ref ga3, .ref ga4, .ref ga5, .int (v_ga 0 0), .int (v_ga 0 1), .int (v_ga 0 2)])), (ga1, .inl (cI, 10, .inl (v_ga 1))), (ga2, .inl (cI, 10, .inl (v_ga 2))), (ga3, .inl (cI, 10, .inl (v_ga 3))), (ga4, .inl (cI, 10, .inl (v_ga 4))), (ga5, .inl (cI, 5, .inl (v_ga 5))), (h, .inr (3, [.ref h1, .int (v_h 0 0), .int (v_h 0 1), .int (v_h 0 2), .int (v_h 0 3), .int (v_h 0 4), .int (v_h 0 5)])), (h1, .inl (cI, 400, .inl (v_h 1)))]) [2, 3, 4, 5, 6, 7, 0, 1] rfl
          have hD9 := hD.sub (ws' := [(ga, .inr (5, [.ref ga1, .ref ga2, .ref ga3, .ref ga4, .ref ga5, .int (v_ga 0 0), .int (v_ga 0 1), .int (v_ga 0 2)])), (ga1, .inl (cI, 10, .inl (v_ga 1))), (ga2, .inl (cI, 10, .inl (v_ga 2))), (ga3, .inl (cI, 10, .inl (v_ga 3))), (ga4, .inl (cI, 10, .inl (v_ga 4))), (ga5, .inl (cI, 5, .inl (v_ga 5))), (h, .inr (3, [.ref h1, .int (v_h 0 0), .int (v_h 0 1), .int (v_h 0 2), .int (v_h 0 3), .int (v_h 0 4), .int (v_h 0 5)])), (h1, .inl (cI, 400, .inl (v_h 1)))]) [2, 3, 4, 5, 6, 7, 0, 1] (by decide) rfl
          have r9_0 : (0 : Int32) = r1 := (Prod.mk.inj (Option.some.inj hf)).1
          have r9_1 : v_ga = v_ga1 := (Prod.mk.inj (Prod.mk.inj (Option.some.inj hf)).2).1
          have r9_2 : v_h = v_h1 := (Prod.mk.inj (Prod.mk.inj (Option.some.inj hf)).2).2
          exact W.zret (v := (0 : Int32)) hx hb hr rfl (fun t ht hW => ⟨⟨(0 : Int32), (v_ga, v_h), rfl, ⟨r9_0, r9_1, r9_2⟩, by rw [ht]; exact hP9, va_K.moved hW.alike hK, hD9⟩, hS.F ht⟩) hS.2.2 dX5_readOperator_91
  refine lv_iload_n hx hb dX5_readOperator_0 rfl (lv_at hl 2 rfl) ?_
  refine lv_iconst (v := 3) hx hb dX5_readOperator_1 (by decide) ?_
  refine lv_icmp_ne (tgt := 15) hx hb dX5_readOperator_2 (by decide) (fun c_22 => ?_) (fun c_22 => ?_)
  · replace hf := xi_f c_22 hf
    refine lv_iload_n hx hb dX5_readOperator_15 rfl (lv_at hl 2 rfl) ?_
    refine lv_bipush (v := 35) hx hb dX5_readOperator_16 (by decide) ?_
    refine lv_icmp_ne (tgt := 107) hx hb dX5_readOperator_18 (by decide) (fun c_23 => ?_) (fun c_23 => ?_)
    · replace hf := xi_f c_23 hf
      refine lv_aload_n hx hb dX5_readOperator_107 rfl (lv_at hl 1 rfl) ?_
      refine va_getN (D := (dC, dI)) (ci := 3) (v := .int (v_h0 0 3)) (C := RX3) (T := TX3) (N := 7) hx hb hts kk1_ hown hK hP 6 rfl rfl 4 (by decide) kk0_ (fun _ h9 => h9) rfl dX5_readOperator_108 ?_
      refine lv_iconst (v := 2) hx hb dX5_readOperator_111 (by decide) ?_
      refine lv_icmp_ne (tgt := 130) hx hb dX5_readOperator_112 (by decide) (fun c_24 => ?_) (fun c_24 => ?_)
      · replace hf := xi_f c_24 hf
        refine lv_iconst (v := 0) hx hb dX5_readOperator_130 (by decide) ?_
        have hP9 := hP.sub (ws' := [(ga, .inr (5, [.ref ga1, .ref ga2, .ref ga3, .ref ga4, .ref ga5, .int (v_ga0 0 0), .int (v_ga0 0 1), .int (v_ga0 0 2)])), (ga1, .inl (cI, 10, .inl (v_ga0 1))), (ga2, .inl (cI, 10, .inl (v_ga0 2))), (ga3, .inl (cI, 10, .inl (v_ga0 3))), (ga4, .inl (cI, 10, .inl (v_ga0 4))), (ga5, .inl (cI, 5, .inl (v_ga0 5))), (h, .inr (3, [.ref h1, .int (v_h0 0 0), .int (v_h0 0 1), .int (v_h0 0 2), .int (v_h0 0 3), .int (v_h0 0 4), .int (v_h0 0 5)])), (h1, .inl (cI, 400, .inl (v_h0 1)))]) [0, 1, 2, 3, 4, 5, 6, 7] rfl
        have hD9 := hD.sub (ws' := [(ga, .inr (5, [.ref ga1, .ref ga2, .ref ga3, .ref ga4, .ref ga5, .int (v_ga0 0 0), .int (v_ga0 0 1), .int (v_ga0 0 2)])), (ga1, .inl (cI, 10, .inl (v_ga0 1))), (ga2, .inl (cI, 10, .inl (v_ga0 2))), (ga3, .inl (cI, 10, .inl (v_ga0 3))), (ga4, .inl (cI, 10, .inl (v_ga0 4))), (ga5, .inl (cI, 5, .inl (v_ga0 5))), (h, .inr (3, [.ref h1, .int (v_h0 0 0), .int (v_h0 0 1), .int (v_h0 0 2), .int (v_h0 0 3), .int (v_h0 0 4), .int (v_h0 0 5)])), (h1, .inl (cI, 400, .inl (v_h0 1)))]) [0, 1, 2, 3, 4, 5, 6, 7] (by decide) rfl
        have r9_0 : (0 : Int32) = r1 := (Prod.mk.inj (Option.some.inj hf)).1
        have r9_1 : v_ga0 = v_ga1 := (Prod.mk.inj (Prod.mk.inj (Option.some.inj hf)).2).1
        have r9_2 : v_h0 = v_h1 := (Prod.mk.inj (Prod.mk.inj (Option.some.inj hf)).2).2
        exact W.zret (v := (0 : Int32)) hx hb hr rfl (fun t ht hW => ⟨⟨(0 : Int32), (v_ga0, v_h0), rfl, ⟨r9_0, r9_1, r9_2⟩, by rw [ht]; exact hP9, va_K.moved hW.alike hK, hD9⟩, hS.F ht⟩) hS.2.2 dX5_readOperator_131
      · replace hf := xi_t c_24 hf
        refine lv_aload_n hx hb dX5_readOperator_115 rfl (lv_at hl 1 rfl) ?_
        refine va_getN (D := (dC, dI)) (ci := 3) (v := .int (v_h0 0 5)) (C := RX3) (T := TX3) (N := 7) hx hb hts kk1_ hown hK hP 6 rfl rfl 6 (by decide) kk2_ (fun _ h9 => h9) rfl dX5_readOperator_116 ?_
        refine lv_if_lt (tgt := 130) hx hb dX5_readOperator_119 (by decide) (fun c_25 => ?_) (fun c_25 => ?_)
        · replace hf := xi_t c_25 hf
          refine lv_iconst (v := 0) hx hb dX5_readOperator_130 (by decide) ?_
          have hP9 := hP.sub (ws' := [(ga, .inr (5, [.ref ga1, .ref ga2, .ref ga3, .ref ga4, .ref ga5, .int (v_ga0 0 0), .int (v_ga0 0 1), .int (v_ga0 0 2)])), (ga1, .inl (cI, 10, .inl (v_ga0 1))), (ga2, .inl (cI, 10, .inl (v_ga0 2))), (ga3, .inl (cI, 10, .inl (v_ga0 3))), (ga4, .inl (cI, 10, .inl (v_ga0 4))), (ga5, .inl (cI, 5, .inl (v_ga0 5))), (h, .inr (3, [.ref h1, .int (v_h0 0 0), .int (v_h0 0 1), .int (v_h0 0 2), .int (v_h0 0 3), .int (v_h0 0 4), .int (v_h0 0 5)])), (h1, .inl (cI, 400, .inl (v_h0 1)))]) [0, 1, 2, 3, 4, 5, 6, 7] rfl
          have hD9 := hD.sub (ws' := [(ga, .inr (5, [.ref ga1, .ref ga2, .ref ga3, .ref ga4, .ref ga5, .int (v_ga0 0 0), .int (v_ga0 0 1), .int (v_ga0 0 2)])), (ga1, .inl (cI, 10, .inl (v_ga0 1))), (ga2, .inl (cI, 10, .inl (v_ga0 2))), (ga3, .inl (cI, 10, .inl (v_ga0 3))), (ga4, .inl (cI, 10, .inl (v_ga0 4))), (ga5, .inl (cI, 5, .inl (v_ga0 5))), (h, .inr (3, [.ref h1, .int (v_h0 0 0), .int (v_h0 0 1), .int (v_h0 0 2), .int (v_h0 0 3), .int (v_h0 0 4), .int (v_h0 0 5)])), (h1, .inl (cI, 400, .inl (v_h0 1)))]) [0, 1, 2, 3, 4, 5, 6, 7] (by decide) rfl
          have r9_0 : (0 : Int32) = r1 := (Prod.mk.inj (Option.some.inj hf)).1
          have r9_1 : v_ga0 = v_ga1 := (Prod.mk.inj (Prod.mk.inj (Option.some.inj hf)).2).1
          have r9_2 : v_h0 = v_h1 := (Prod.mk.inj (Prod.mk.inj (Option.some.inj hf)).2).2
          exact W.zret (v := (0 : Int32)) hx hb hr rfl (fun t ht hW => ⟨⟨(0 : Int32), (v_ga0, v_h0), rfl, ⟨r9_0, r9_1, r9_2⟩, by rw [ht]; exact hP9, va_K.moved hW.alike hK, hD9⟩, hS.F ht⟩) hS.2.2 dX5_readOperator_131
        · replace hf := xi_f c_25 hf
          refine lv_aload_n hx hb dX5_readOperator_122 rfl (lv_at hl 1 rfl) ?_
          refine va_getN (D := (dC, dI)) (ci := 3) (v := .int (v_h0 0 5)) (C := RX3) (T := TX3) (N := 7) hx hb hts kk1_ hown hK hP 6 rfl rfl 6 (by decide) kk2_ (fun _ h9 => h9) rfl dX5_readOperator_123 ?_
          refine lv_iconst (v := 3) hx hb dX5_readOperator_126 (by decide) ?_
          refine lv_icmp_le (tgt := 132) hx hb dX5_readOperator_127 (by decide) (fun c_26 => ?_) (fun c_26 => ?_)
          · replace hf := xi_t c_26 hf
            refine lv_aload_n hx hb dX5_readOperator_132 rfl (lv_at hl 0 rfl) ?_
            refine lv_iload_n hx hb dX5_readOperator_133 rfl (lv_at hl 3 rfl) ?_
            refine lv_iconst (v := 0) hx hb dX5_readOperator_134 (by decide) ?_
            refine lv_aload_n hx hb dX5_readOperator_135 rfl (lv_at hl 1 rfl) ?_
            refine va_getN (D := (dC, dI)) (ci := 3) (v := .int (v_h0 0 5)) (C := RX3) (T := TX3) (N := 7) hx hb hts kk1_ hown hK hP 6 rfl rfl 6 (by decide) kk2_ (fun _ h9 => h9) rfl dX5_readOperator_136 ?_
            refine lv_iconst (v := -1) hx hb dX5_readOperator_139 (by decide) ?_
            replace hf := xb1_to hf
            obtain ⟨o_27, g_28, hf⟩ := hf
            have hPc := hP.sub (ws' := [(ga, .inr (5, [.ref ga1, .ref ga2, .ref ga3, .ref ga4, .ref ga5, .int (v_ga0 0 0), .int (v_ga0 0 1), .int (v_ga0 0 2)])), (ga1, .inl (cI, 10, .inl (v_ga0 1))), (ga2, .inl (cI, 10, .inl (v_ga0 2))), (ga3, .inl (cI, 10, .inl (v_ga0 3))), (ga4, .inl (cI, 10, .inl (v_ga0 4))), (ga5, .inl (cI, 5, .inl (v_ga0 5)))]) [0, 1, 2, 3, 4, 5] rfl
            have hDc := hD.sub (ws' := [(ga, .inr (5, [.ref ga1, .ref ga2, .ref ga3, .ref ga4, .ref ga5, .int (v_ga0 0 0), .int (v_ga0 0 1), .int (v_ga0 0 2)])), (ga1, .inl (cI, 10, .inl (v_ga0 1))), (ga2, .inl (cI, 10, .inl (v_ga0 2))), (ga3, .inl (cI, 10, .inl (v_ga0 3))), (ga4, .inl (cI, 10, .inl (v_ga0 4))), (ga5, .inl (cI, 5, .inl (v_ga0 5)))]) [0, 1, 2, 3, 4, 5] (by decide) rfl
            have hFc := va_free (wc := [(ga, .inr (5, [.ref ga1, .ref ga2, .ref ga3, .ref ga4, .ref ga5, .int (v_ga0 0 0), .int (v_ga0 0 1), .int (v_ga0 0 2)])), (ga1, .inl (cI, 10, .inl (v_ga0 1))), (ga2, .inl (cI, 10, .inl (v_ga0 2))), (ga3, .inl (cI, 10, .inl (v_ga0 3))), (ga4, .inl (cI, 10, .inl (v_ga0 4))), (ga5, .inl (cI, 5, .inl (v_ga0 5)))]) hD hS hA [0, 1, 2, 3, 4, 5] rfl
            refine va_callv (va_runV (As := [.int p1, .int ((0 : Int32)), .int (v_h0 0 5), .int ((-1 : Int32))]) (rest := []) ⟨hx, hb, hml, hown, hts⟩ (c_X5_addOperatory l dC dI cI cJ cB ga ga1 ga2 ga3 ga4 ga5 H.size v_ga0 p1 ((0 : Int32)) (v_h0 0 5) ((-1 : Int32)) n9 o_27 g_28) (cwV 4 hts go_wo_X5_readOperatory_4 rfl rfl rfl (by decide +kernel) ⟨Nat.le_of_ble_eq_true rfl, Nat.le_of_ble_eq_true rfl⟩) ⟨fun a U g mk q => by obtain ⟨q0, q1, qN, qP, qK, qD⟩ := q; exact ⟨q0, q1, NW.calling qN, qP, va_K.moved (u := U) (U := U.calling g mk a) (Vm.Alike.refl U.vm) qK, qD⟩, va_recv hK hPc (ci := 5) (q0 := 0) rfl rfl, fun U hU hW => ⟨rfl, by rw [hU], NW.warm hW hnw, by rw [hU]; exact hPc, va_K.moved hW.alike hK, hDc.weaken (fun _ _ _ _ => trivial)⟩⟩ rfl rfl hl.1 rfl (lv_room (Nat.le_of_ble_eq_true rfl)) dX5_readOperator_140 ⟨Nat.zero_le _, Nat.zero_le _⟩) hS (fun q _ h => hFc q h) hFc (fun u t H1 locs ht hvm hw hB hz1 hk1 hS => ?_)
            obtain ⟨v_ga_30, rfl⟩ : ∃ z, z = u := ⟨_, rfl⟩
            obtain ⟨hP1, hK1, hD1⟩ := hB
            rw [ht] at hP1
            have hw : (v_ga_30 = o_27) := hw
            subst hw
            obtain ⟨hP, hD⟩ := va_join (wr := [(h, .inr (3, [.ref h1, .int (v_h0 0 0), .int (v_h0 0 1), .int (v_h0 0 2), .int (v_h0 0 3), .int (v_h0 0 4), .int (v_h0 0 5)])), (h1, .inl (cI, 400, .inl (v_h0 1)))]) (w1 := [(ga, .inr (5, [.ref ga1, .ref ga2, .ref ga3, .ref ga4, .ref ga5, .int (v_ga_30 0 0), .int (v_ga_30 0 1), .int (v_ga_30 0 2)])), (ga1, .inl (cI, 10, .inl (v_ga_30 1))), (ga2, .inl (cI, 10, .inl (v_ga_30 2))), (ga3, .inl (cI, 10, .inl (v_ga_30 3))), (ga4, .inl (cI, 10, .inl (v_ga_30 4))), (ga5, .inl (cI, 5, .inl (v_ga_30 5)))]) hP hD [0, 1, 2, 3, 4, 5] [6, 7] rfl rfl (by decide) (by decide) hk1 hFc hP1 hD1
            generalize H1 = H at hP hS ⊢
            have hP : va_P (dC, dI) vwCl [(h, .inr (3, [.ref h1, .int (v_h0 0 0), .int (v_h0 0 1), .int (v_h0 0 2), .int (v_h0 0 3), .int (v_h0 0 4), .int (v_h0 0 5)])), (h1, .inl (cI, 400, .inl (v_h0 1))), (ga, .inr (5, [.ref ga1, .ref ga2, .ref ga3, .ref ga4, .ref ga5, .int (v_ga_30 0 0), .int (v_ga_30 0 1), .int (v_ga_30 0 2)])), (ga1, .inl (cI, 10, .inl (v_ga_30 1))), (ga2, .inl (cI, 10, .inl (v_ga_30 2))), (ga3, .inl (cI, 10, .inl (v_ga_30 3))), (ga4, .inl (cI, 10, .inl (v_ga_30 4))), (ga5, .inl (cI, 5, .inl (v_ga_30 5)))] H := hP
            have hD : va_D (va_A (ww_X5_readOperatory dC dI cI cJ cB ga ga1 ga2 ga3 ga4 ga5 h h1 s.heap.size v_ga0 v_h0 p0 p1 n9 r1 v_ga1 v_h1) s.heap.size) [(h, .inr (3, [.ref h1, .int (v_h0 0 0), .int (v_h0 0 1), .int (v_h0 0 2), .int (v_h0 0 3), .int (v_h0 0 4), .int (v_h0 0 5)])), (h1, .inl (cI, 400, .inl (v_h0 1))), (ga, .inr (5, [.ref ga1, .ref ga2, .ref ga3, .ref ga4, .ref ga5, .int (v_ga_30 0 0), .int (v_ga_30 0 1), .int (v_ga_30 0 2)])), (ga1, .inl (cI, 10, .inl (v_ga_30 1))), (ga2, .inl (cI, 10, .inl (v_ga_30 2))), (ga3, .inl (cI, 10, .inl (v_ga_30 3))), (ga4, .inl (cI, 10, .inl (v_ga_30 4))), (ga5, .inl (cI, 5, .inl (v_ga_30 5)))] := hD
            clear hPc hDc hFc hP1 hK1 hD1 hk1 hz1 ht hvm g_28
            refine lv_aload_n hx hb dX5_readOperator_143 rfl (lv_at hl 1 rfl) ?_
            replace hf := xb1_to hf
            obtain ⟨o_32, g_33, hf⟩ := hf
            have hPc := hP.sub (ws' := [(h, .inr (3, [.ref h1, .int (v_h0 0 0), .int (v_h0 0 1), .int (v_h0 0 2), .int (v_h0 0 3), .int (v_h0 0 4), .int (v_h0 0 5)])), (h1, .inl (cI, 400, .inl (v_h0 1)))]) [0, 1] rfl
            have hDc := hD.sub (ws' := [(h, .inr (3, [.ref h1, .int (v_h0 0 0), .int (v_h0 0 1), .int (v_h0 0 2), .int (v_h0 0 3), .int (v_h0 0 4), .int (v_h0 0 5)])), (h1, .inl (cI, 400, .inl (v_h0 1)))]) [0, 1] (by decide) rfl
            have hFc := va_free (wc := [(h, .inr (3, [.ref h1, .int (v_h0 0 0), .int (v_h0 0 1), .int (v_h0 0 2), .int (v_h0 0 3), .int (v_h0 0 4), .int (v_h0 0 5)])), (h1, .inl (cI, 400, .inl (v_h0 1)))]) hD hS hA [0, 1] rfl
            refine va_callv (va_runV (As := []) (rest := []) ⟨hx, hb, hml, hown, hts⟩ (c_X3_advancey l dC dI cI cJ cB h h1 H.size v_h0 n9 o_32 g_33) (cwV 0 hts go_wo_X5_readOperatory_3 rfl rfl rfl (by decide +kernel) ⟨Nat.le_of_ble_eq_true rfl, Nat.le_of_ble_eq_true rfl⟩) ⟨fun a U g mk q => by obtain ⟨q0, q1, qN, qP, qK, qD⟩ := q; exact ⟨q0, q1, NW.calling qN, qP, va_K.moved (u := U) (U := U.calling g mk a) (Vm.Alike.refl U.vm) qK, qD⟩, va_recv hK hPc (ci := 3) (q0 := 0) rfl rfl, fun U hU hW => ⟨rfl, by rw [hU], NW.warm hW hnw, by rw [hU]; exact hPc, va_K.moved hW.alike hK, hDc.weaken (fun _ _ _ _ => trivial)⟩⟩ rfl rfl hl.1 rfl (lv_room (Nat.le_of_ble_eq_true rfl)) dX5_readOperator_144 ⟨Nat.zero_le _, Nat.zero_le _⟩) hS (fun q _ h => hFc q h) hFc (fun u t H1 locs ht hvm hw hB hz1 hk1 hS => ?_)
            obtain ⟨v_h_35, rfl⟩ : ∃ z, z = u := ⟨_, rfl⟩
            obtain ⟨hP1, hK1, hD1⟩ := hB
            rw [ht] at hP1
            have hw : (v_h_35 = o_32) := hw
            subst hw
            obtain ⟨hP, hD⟩ := va_join (wr := [(ga, .inr (5, [.ref ga1, .ref ga2, .ref ga3, .ref ga4, .ref ga5, .int (v_ga_30 0 0), .int (v_ga_30 0 1), .int (v_ga_30 0 2)])), (ga1, .inl (cI, 10, .inl (v_ga_30 1))), (ga2, .inl (cI, 10, .inl (v_ga_30 2))), (ga3, .inl (cI, 10, .inl (v_ga_30 3))), (ga4, .inl (cI, 10, .inl (v_ga_30 4))), (ga5, .inl (cI, 5, .inl (v_ga_30 5)))]) (w1 := [(h, .inr (3, [.ref h1, .int (v_h_35 0 0), .int (v_h_35 0 1), .int (v_h_35 0 2), .int (v_h_35 0 3), .int (v_h_35 0 4), .int (v_h_35 0 5)])), (h1, .inl (cI, 400, .inl (v_h_35 1)))]) hP hD [0, 1] [2, 3, 4, 5, 6, 7] rfl rfl (by decide) (by decide) hk1 hFc hP1 hD1
            generalize H1 = H at hP hS ⊢
            have hP : va_P (dC, dI) vwCl [(ga, .inr (5, [.ref ga1, .ref ga2, .ref ga3, .ref ga4, .ref ga5, .int (v_ga_30 0 0), .int (v_ga_30 0 1), .int (v_ga_30 0 2)])), (ga1, .inl (cI, 10, .inl (v_ga_30 1))), (ga2, .inl (cI, 10, .inl (v_ga_30 2))), (ga3, .inl (cI, 10, .inl (v_ga_30 3))), (ga4, .inl (cI, 10, .inl (v_ga_30 4))), (ga5, .inl (cI, 5, .inl (v_ga_30 5))), (h, .inr (3, [.ref h1, .int (v_h_35 0 0), .int (v_h_35 0 1), .int (v_h_35 0 2), .int (v_h_35 0 3), .int (v_h_35 0 4), .int (v_h_35 0 5)])), (h1, .inl (cI, 400, .inl (v_h_35 1)))] H := hP
            have hD : va_D (va_A (ww_X5_readOperatory dC dI cI cJ cB ga ga1 ga2 ga3 ga4 ga5 h h1 s.heap.size v_ga0 v_h0 p0 p1 n9 r1 v_ga1 v_h1) s.heap.size) [(ga, .inr (5, [.ref ga1, .ref ga2, .ref ga3, .ref ga4, .ref ga5, .int (v_ga_30 0 0), .int (v_ga_30 0 1), .int (v_ga_30 0 2)])), (ga1, .inl (cI, 10, .inl (v_ga_30 1))), (ga2, .inl (cI, 10, .inl (v_ga_30 2))), (ga3, .inl (cI, 10, .inl (v_ga_30 3))), (ga4, .inl (cI, 10, .inl (v_ga_30 4))), (ga5, .inl (cI, 5, .inl (v_ga_30 5))), (h, .inr (3, [.ref h1, .int (v_h_35 0 0), .int (v_h_35 0 1), .int (v_h_35 0 2), .int (v_h_35 0 3), .int (v_h_35 0 4), .int (v_h_35 0 5)])), (h1, .inl (cI, 400, .inl (v_h_35 1)))] := hD
            clear hPc hDc hFc hP1 hK1 hD1 hk1 hz1 ht hvm g_33
            refine lv_iconst (v := 1) hx hb dX5_readOperator_147 (by decide) ?_
            have hP9 := hP.sub (ws' := [(ga, .inr (5, [.ref ga1, .ref ga2, .ref ga3, .ref ga4, .ref ga5, .int (v_ga_30 0 0), .int (v_ga_30 0 1), .int (v_ga_30 0 2)])), (ga1, .inl (cI, 10, .inl (v_ga_30 1))), (ga2, .inl (cI, 10, .inl (v_ga_30 2))), (ga3, .inl (cI, 10, .inl (v_ga_30 3))), (ga4, .inl (cI, 10, .inl (v_ga_30 4))), (ga5, .inl (cI, 5, .inl (v_ga_30 5))), (h, .inr (3, [.ref h1, .int (v_h_35 0 0), .int (v_h_35 0 1), .int (v_h_35 0 2), .int (v_h_35 0 3), .int (v_h_35 0 4), .int (v_h_35 0 5)])), (h1, .inl (cI, 400, .inl (v_h_35 1)))]) [0, 1, 2, 3, 4, 5, 6, 7] rfl
            have hD9 := hD.sub (ws' := [(ga, .inr (5, [.ref ga1, .ref ga2, .ref ga3, .ref ga4, .ref ga5, .int (v_ga_30 0 0), .int (v_ga_30 0 1), .int (v_ga_30 0 2)])), (ga1, .inl (cI, 10, .inl (v_ga_30 1))), (ga2, .inl (cI, 10, .inl (v_ga_30 2))), (ga3, .inl (cI, 10, .inl (v_ga_30 3))), (ga4, .inl (cI, 10, .inl (v_ga_30 4))), (ga5, .inl (cI, 5, .inl (v_ga_30 5))), (h, .inr (3, [.ref h1, .int (v_h_35 0 0), .int (v_h_35 0 1), .int (v_h_35 0 2), .int (v_h_35 0 3), .int (v_h_35 0 4), .int (v_h_35 0 5)])), (h1, .inl (cI, 400, .inl (v_h_35 1)))]) [0, 1, 2, 3, 4, 5, 6, 7] (by decide) rfl
            have r9_0 : (1 : Int32) = r1 := (Prod.mk.inj (Option.some.inj hf)).1
            have r9_1 : v_ga_30 = v_ga1 := (Prod.mk.inj (Prod.mk.inj (Option.some.inj hf)).2).1
            have r9_2 : v_h_35 = v_h1 := (Prod.mk.inj (Prod.mk.inj (Option.some.inj hf)).2).2
            exact W.zret (v := (1 : Int32)) hx hb hr rfl (fun t ht hW => ⟨⟨(1 : Int32), (v_ga_30, v_h_35), rfl, ⟨r9_0, r9_1, r9_2⟩, by rw [ht]; exact hP9, va_K.moved hW.alike hK, hD9⟩, hS.F ht⟩) hS.2.2 dX5_readOperator_148
          · replace hf := xi_f c_26 hf
            refine lv_iconst (v := 0) hx hb dX5_readOperator_130 (by decide) ?_
            have hP9 := hP.sub (ws' := [(ga, .inr (5, [.ref ga1, .ref ga2, .ref ga3, .ref ga4, .ref ga5, .int (v_ga0 0 0), .int (v_ga0 0 1), .int (v_ga0 0 2)])), (ga1, .inl (cI, 10, .inl (v_ga0 1))), (ga2, .inl (cI, 10, .inl (v_ga0 2))), (ga3, .inl (cI, 10, .inl (v_ga0 3))), (ga4, .inl (cI, 10, .inl (v_ga0 4))), (ga5, .inl (cI, 5, .inl (v_ga0 5))), (h, .inr (3, [.ref h1, .int (v_h0 0 0), .int (v_h0 0 1), .int (v_h0 0 2), .int (v_h0 0 3), .int (v_h0 0 4), .int (v_h0 0 5)])), (h1, .inl (cI, 400, .inl (v_h0 1)))]) [0, 1, 2, 3, 4, 5, 6, 7] rfl
            have hD9 := hD.sub (ws' := [(ga, .inr (5, [.ref ga1, .ref ga2, .ref ga3, .ref ga4, .ref ga5, .int (v_ga0 0 0), .int (v_ga0 0 1), .int (v_ga0 0 2)])), (ga1, .inl (cI, 10, .inl (v_ga0 1))), (ga2, .inl (cI, 10, .inl (v_ga0 2))), (ga3, .inl (cI, 10, .inl (v_ga0 3))), (ga4, .inl (cI, 10, .inl (v_ga0 4))), (ga5, .inl (cI, 5, .inl (v_ga0 5))), (h, .inr (3, [.ref h1, .int (v_h0 0 0), .int (v_h0 0 1), .int (v_h0 0 2), .int (v_h0 0 3), .int (v_h0 0 4), .int (v_h0 0 5)])), (h1, .inl (cI, 400, .inl (v_h0 1)))]) [0, 1, 2, 3, 4, 5, 6, 7] (by decide) rfl
            have r9_0 : (0 : Int32) = r1 := (Prod.mk.inj (Option.some.inj hf)).1
            have r9_1 : v_ga0 = v_ga1 := (Prod.mk.inj (Prod.mk.inj (Option.some.inj hf)).2).1
            have r9_2 : v_h0 = v_h1 := (Prod.mk.inj (Prod.mk.inj (Option.some.inj hf)).2).2
            exact W.zret (v := (0 : Int32)) hx hb hr rfl (fun t ht hW => ⟨⟨(0 : Int32), (v_ga0, v_h0), rfl, ⟨r9_0, r9_1, r9_2⟩, by rw [ht]; exact hP9, va_K.moved hW.alike hK, hD9⟩, hS.F ht⟩) hS.2.2 dX5_readOperator_131
    · replace hf := xi_t c_23 hf
      refine lv_iconst (v := -1) hx hb dX5_readOperator_21 (by decide) ?_
      refine lv_istore (lv' := [(4, .int ((-1 : Int32))), (0, .ref ga), (1, .ref h), (2, .int p0), (3, .int p1)]) hx hb dX5_readOperator_22 hl (by decide) rfl (fun ls hl => ?_)
      refine lv_aload_n hx hb dX5_readOperator_24 rfl (lv_at hl 2 rfl) ?_
      refine va_getN (D := (dC, dI)) (ci := 3) (v := .int (v_h0 0 3)) (C := RX3) (T := TX3) (N := 7) hx hb hts kk1_ hown hK hP 6 rfl rfl 4 (by decide) kk0_ (fun _ h9 => h9) rfl dX5_readOperator_25 ?_
      refine lv_iconst (v := 1) hx hb dX5_readOperator_28 (by decide) ?_
      refine lv_icmp_ne (tgt := 96) hx hb dX5_readOperator_29 (by decide) (fun c_37 => ?_) (fun c_37 => ?_)
      · replace hf := xi_f c_37 hf
        refine lv_aload_n hx hb dX5_readOperator_96 rfl (lv_at hl 1 rfl) ?_
        refine lv_iload_n hx hb dX5_readOperator_97 rfl (lv_at hl 4 rfl) ?_
        refine lv_iconst (v := 2) hx hb dX5_readOperator_98 (by decide) ?_
        refine lv_iconst (v := 2) hx hb dX5_readOperator_99 (by decide) ?_
        refine lv_iload hx hb dX5_readOperator_100 (lv_at hl 0 rfl) ?_
        replace hf := xb1_to hf
        obtain ⟨o_38, g_39, hf⟩ := hf
        have hPc := hP.sub (ws' := [(ga, .inr (5, [.ref ga1, .ref ga2, .ref ga3, .ref ga4, .ref ga5, .int (v_ga0 0 0), .int (v_ga0 0 1), .int (v_ga0 0 2)])), (ga1, .inl (cI, 10, .inl (v_ga0 1))), (ga2, .inl (cI, 10, .inl (v_ga0 2))), (ga3, .inl (cI, 10, .inl (v_ga0 3))), (ga4, .inl (cI, 10, .inl (v_ga0 4))), (ga5, .inl (cI, 5, .inl (v_ga0 5)))]) [0, 1, 2, 3, 4, 5] rfl
        have hDc := hD.sub (ws' := [(ga, .inr (5, [.ref ga1, .ref ga2, .ref ga3, .ref ga4, .ref ga5, .int (v_ga0 0 0), .int (v_ga0 0 1), .int (v_ga0 0 2)])), (ga1, .inl (cI, 10, .inl (v_ga0 1))), (ga2, .inl (cI, 10, .inl (v_ga0 2))), (ga3, .inl (cI, 10, .inl (v_ga0 3))), (ga4, .inl (cI, 10, .inl (v_ga0 4))), (ga5, .inl (cI, 5, .inl (v_ga0 5)))]) [0, 1, 2, 3, 4, 5] (by decide) rfl
        have hFc := va_free (wc := [(ga, .inr (5, [.ref ga1, .ref ga2, .ref ga3, .ref ga4, .ref ga5, .int (v_ga0 0 0), .int (v_ga0 0 1), .int (v_ga0 0 2)])), (ga1, .inl (cI, 10, .inl (v_ga0 1))), (ga2, .inl (cI, 10, .inl (v_ga0 2))), (ga3, .inl (cI, 10, .inl (v_ga0 3))), (ga4, .inl (cI, 10, .inl (v_ga0 4))), (ga5, .inl (cI, 5, .inl (v_ga0 5)))]) hD hS hA [0, 1, 2, 3, 4, 5] rfl
        refine va_callv (va_runV (As := [.int p1, .int ((2 : Int32)), .int ((2 : Int32)), .int ((-1 : Int32))]) (rest := []) ⟨hx, hb, hml, hown, hts⟩ (c_X5_addOperatory l dC dI cI cJ cB ga ga1 ga2 ga3 ga4 ga5 H.size v_ga0 p1 ((2 : Int32)) ((2 : Int32)) ((-1 : Int32)) n9 o_38 g_39) (cwV 4 hts go_wo_X5_readOperatory_4 rfl rfl rfl (by decide +kernel) ⟨Nat.le_of_ble_eq_true rfl, Nat.le_of_ble_eq_true rfl⟩) ⟨fun a U g mk q => by obtain ⟨q0, q1, qN, qP, qK, qD⟩ := q; exact ⟨q0, q1, NW.calling qN, qP, va_K.moved (u := U) (U := U.calling g mk a) (Vm.Alike.refl U.vm) qK, qD⟩, va_recv hK hPc (ci := 5) (q0 := 0) rfl rfl, fun U hU hW => ⟨rfl, by rw [hU], NW.warm hW hnw, by rw [hU]; exact hPc, va_K.moved hW.alike hK, hDc.weaken (fun _ _ _ _ => trivial)⟩⟩ rfl rfl hl.1 rfl (lv_room (Nat.le_of_ble_eq_true rfl)) dX5_readOperator_102 ⟨Nat.zero_le _, Nat.zero_le _⟩) hS (fun q _ h => hFc q h) hFc (fun u t H1 locs ht hvm hw hB hz1 hk1 hS => ?_)
        obtain ⟨v_ga_41, rfl⟩ : ∃ z, z = u := ⟨_, rfl⟩
        obtain ⟨hP1, hK1, hD1⟩ := hB
        rw [ht] at hP1
        have hw : (v_ga_41 = o_38) := hw
        subst hw
        obtain ⟨hP, hD⟩ := va_join (wr := [(h, .inr (3, [.ref h1, .int (v_h0 0 0), .int (v_h0 0 1), .int (v_h0 0 2), .int (v_h0 0 3), .int (v_h0 0 4), .int (v_h0 0 5)])), (h1, .inl (cI, 400, .inl (v_h0 1)))]) (w1 := [(ga, .inr (5, [.ref ga1, .ref ga2, .ref ga3, .ref ga4, .ref ga5, .int (v_ga_41 0 0), .int (v_ga_41 0 1), .int (v_ga_41 0 2)])), (ga1, .inl (cI, 10, .inl (v_ga_41 1))), (ga2, .inl (cI, 10, .inl (v_ga_41 2))), (ga3, .inl (cI, 10, .inl (v_ga_41 3))), (ga4, .inl (cI, 10, .inl (v_ga_41 4))), (ga5, .inl (cI, 5, .inl (v_ga_41 5)))]) hP hD [0, 1, 2, 3, 4, 5] [6, 7] rfl rfl (by decide) (by decide) hk1 hFc hP1 hD1
        generalize H1 = H at hP hS ⊢
        have hP : va_P (dC, dI) vwCl [(h, .inr (3, [.ref h1, .int (v_h0 0 0), .int (v_h0 0 1), .int (v_h0 0 2), .int (v_h0 0 3), .int (v_h0 0 4), .int (v_h0 0 5)])), (h1, .inl (cI, 400, .inl (v_h0 1))), (ga, .inr (5, [.ref ga1, .ref ga2, .ref ga3, .ref ga4, .ref ga5, .int (v_ga_41 0 0), .int (v_ga_41 0 1), .int (v_ga_41 0 2)])), (ga1, .inl (cI, 10, .inl (v_ga_41 1))), (ga2, .inl (cI, 10, .inl (v_ga_41 2))), (ga3, .inl (cI, 10, .inl (v_ga_41 3))), (ga4, .inl (cI, 10, .inl (v_ga_41 4))), (ga5, .inl (cI, 5, .inl (v_ga_41 5)))] H := hP
        have hD : va_D (va_A (ww_X5_readOperatory dC dI cI cJ cB ga ga1 ga2 ga3 ga4 ga5 h h1 s.heap.size v_ga0 v_h0 p0 p1 n9 r1 v_ga1 v_h1) s.heap.size) [(h, .inr (3, [.ref h1, .int (v_h0 0 0), .int (v_h0 0 1), .int (v_h0 0 2), .int (v_h0 0 3), .int (v_h0 0 4), .int (v_h0 0 5)])), (h1, .inl (cI, 400, .inl (v_h0 1))), (ga, .inr (5, [.ref ga1, .ref ga2, .ref ga3, .ref ga4, .ref ga5, .int (v_ga_41 0 0), .int (v_ga_41 0 1), .int (v_ga_41 0 2)])), (ga1, .inl (cI, 10, .inl (v_ga_41 1))), (ga2, .inl (cI, 10, .inl (v_ga_41 2))), (ga3, .inl (cI, 10, .inl (v_ga_41 3))), (ga4, .inl (cI, 10, .inl (v_ga_41 4))), (ga5, .inl (cI, 5, .inl (v_ga_41 5)))] := hD
        clear hPc hDc hFc hP1 hK1 hD1 hk1 hz1 ht hvm g_39
        refine lv_iconst (v := 1) hx hb dX5_readOperator_105 (by decide) ?_
        have hP9 := hP.sub (ws' := [(ga, .inr (5, [.ref ga1, .ref ga2, .ref ga3, .ref ga4, .ref ga5, .int (v_ga_41 0 0), .int (v_ga_41 0 1), .int (v_ga_41 0 2)])), (ga1, .inl (cI, 10, .inl (v_ga_41 1))), (ga2, .inl (cI, 10, .inl (v_ga_41 2))), (ga3, .inl (cI, 10, .inl (v_ga_41 3))), (ga4, .inl (cI, 10, .inl (v_ga_41 4))), (ga5, .inl (cI, 5, .inl (v_ga_41 5))), (h, .inr (3, [.ref h1, .int (v_h0 0 0), .int (v_h0 0 1), .int (v_h0 0 2), .int (v_h0 0 3), .int (v_h0 0 4), .int (v_h0 0 5)])), (h1, .inl (cI, 400, .inl (v_h0 1)))]) [2, 3, 4, 5, 6, 7, 0, 1] rfl
        have hD9 := hD.sub (ws' := [(ga, .inr (5, [.ref ga1, .ref ga2, .ref ga3, .ref ga4, .ref ga5, .int (v_ga_41 0 0), .int (v_ga_41 0 1), .int (v_ga_41 0 2)])), (ga1, .inl (cI, 10, .inl (v_ga_41 1))), (ga2, .inl (cI, 10, .inl (v_ga_41 2))), (ga3, .inl (cI, 10, .inl (v_ga_41 3))), (ga4, .inl (cI, 10, .inl (v_ga_41 4))), (ga5, .inl (cI, 5, .inl (v_ga_41 5))), (h, .inr (3, [.ref h1, .int (v_h0 0 0), .int (v_h0 0 1), .int (v_h0 0 2), .int (v_h0 0 3), .int (v_h0 0 4), .int (v_h0 0 5)])), (h1, .inl (cI, 400, .inl (v_h0 1)))]) [2, 3, 4, 5, 6, 7, 0, 1] (by decide) rfl
        have r9_0 : (1 : Int32) = r1 := (Prod.mk.inj (Option.some.inj hf)).1
        have r9_1 : v_ga_41 = v_ga1 := (Prod.mk.inj (Prod.mk.inj (Option.some.inj hf)).2).1
        have r9_2 : v_h0 = v_h1 := (Prod.mk.inj (Prod.mk.inj (Option.some.inj hf)).2).2
        exact W.zret (v := (1 : Int32)) hx hb hr rfl (fun t ht hW => ⟨⟨(1 : Int32), (v_ga_41, v_h0), rfl, ⟨r9_0, r9_1, r9_2⟩, by rw [ht]; exact hP9, va_K.moved hW.alike hK, hD9⟩, hS.F ht⟩) hS.2.2 dX5_readOperator_106
      · replace hf := xi_t c_37 hf
        refine lv_aload_n hx hb dX5_readOperator_32 rfl (lv_at hl 2 rfl) ?_
        refine va_getN (D := (dC, dI)) (ci := 3) (v := .int (v_h0 0 5)) (C := RX3) (T := TX3) (N := 7) hx hb hts kk1_ hown hK hP 6 rfl rfl 6 (by decide) kk2_ (fun _ h9 => h9) rfl dX5_readOperator_33 ?_
        refine lv_ldc (v := 702772) hx hb hown kk3_ dX5_readOperator_36 ?_
        refine lv_icmp_ne (tgt := 96) hx hb dX5_readOperator_38 (by decide) (fun c_43 => ?_) (fun c_43 => ?_)
        · replace hf := xi_f c_43 hf
          refine lv_aload_n hx hb dX5_readOperator_96 rfl (lv_at hl 1 rfl) ?_
          refine lv_iload_n hx hb dX5_readOperator_97 rfl (lv_at hl 4 rfl) ?_
          refine lv_iconst (v := 2) hx hb dX5_readOperator_98 (by decide) ?_
          refine lv_iconst (v := 2) hx hb dX5_readOperator_99 (by decide) ?_
          refine lv_iload hx hb dX5_readOperator_100 (lv_at hl 0 rfl) ?_
          replace hf := xb1_to hf
          obtain ⟨o_44, g_45, hf⟩ := hf
          have hPc := hP.sub (ws' := [(ga, .inr (5, [.ref ga1, .ref ga2, .ref ga3, .ref ga4, .ref ga5, .int (v_ga0 0 0), .int (v_ga0 0 1), .int (v_ga0 0 2)])), (ga1, .inl (cI, 10, .inl (v_ga0 1))), (ga2, .inl (cI, 10, .inl (v_ga0 2))), (ga3, .inl (cI, 10, .inl (v_ga0 3))), (ga4, .inl (cI, 10, .inl (v_ga0 4))), (ga5, .inl (cI, 5, .inl (v_ga0 5)))]) [0, 1, 2, 3, 4, 5] rfl
          have hDc := hD.sub (ws' := [(ga, .inr (5, [.ref ga1, .ref ga2, .ref ga3, .ref ga4, .ref ga5, .int (v_ga0 0 0), .int (v_ga0 0 1), .int (v_ga0 0 2)])), (ga1, .inl (cI, 10, .inl (v_ga0 1))), (ga2, .inl (cI, 10, .inl (v_ga0 2))), (ga3, .inl (cI, 10, .inl (v_ga0 3))), (ga4, .inl (cI, 10, .inl (v_ga0 4))), (ga5, .inl (cI, 5, .inl (v_ga0 5)))]) [0, 1, 2, 3, 4, 5] (by decide) rfl
          have hFc := va_free (wc := [(ga, .inr (5, [.ref ga1, .ref ga2, .ref ga3, .ref ga4, .ref ga5, .int (v_ga0 0 0), .int (v_ga0 0 1), .int (v_ga0 0 2)])), (ga1, .inl (cI, 10, .inl (v_ga0 1))), (ga2, .inl (cI, 10, .inl (v_ga0 2))), (ga3, .inl (cI, 10, .inl (v_ga0 3))), (ga4, .inl (cI, 10, .inl (v_ga0 4))), (ga5, .inl (cI, 5, .inl (v_ga0 5)))]) hD hS hA [0, 1, 2, 3, 4, 5] rfl
          refine va_callv (va_runV (As := [.int p1, .int ((2 : Int32)), .int ((2 : Int32)), .int ((-1 : Int32))]) (rest := []) ⟨hx, hb, hml, hown, hts⟩ (c_X5_addOperatory l dC dI cI cJ cB ga ga1 ga2 ga3 ga4 ga5 H.size v_ga0 p1 ((2 : Int32)) ((2 : Int32)) ((-1 : Int32)) n9 o_44 g_45) (cwV 4 hts go_wo_X5_readOperatory_4 rfl rfl rfl (by decide +kernel) ⟨Nat.le_of_ble_eq_true rfl, Nat.le_of_ble_eq_true rfl⟩) ⟨fun a U g mk q => by obtain ⟨q0, q1, qN, qP, qK, qD⟩ := q; exact ⟨q0, q1, NW.calling qN, qP, va_K.moved (u := U) (U := U.calling g mk a) (Vm.Alike.refl U.vm) qK, qD⟩, va_recv hK hPc (ci := 5) (q0 := 0) rfl rfl, fun U hU hW => ⟨rfl, by rw [hU], NW.warm hW hnw, by rw [hU]; exact hPc, va_K.moved hW.alike hK, hDc.weaken (fun _ _ _ _ => trivial)⟩⟩ rfl rfl hl.1 rfl (lv_room (Nat.le_of_ble_eq_true rfl)) dX5_readOperator_102 ⟨Nat.zero_le _, Nat.zero_le _⟩) hS (fun q _ h => hFc q h) hFc (fun u t H1 locs ht hvm hw hB hz1 hk1 hS => ?_)
          obtain ⟨v_ga_47, rfl⟩ : ∃ z, z = u := ⟨_, rfl⟩
          obtain ⟨hP1, hK1, hD1⟩ := hB
          rw [ht] at hP1
          have hw : (v_ga_47 = o_44) := hw
          subst hw
          obtain ⟨hP, hD⟩ := va_join (wr := [(h, .inr (3, [.ref h1, .int (v_h0 0 0), .int (v_h0 0 1), .int (v_h0 0 2), .int (v_h0 0 3), .int (v_h0 0 4), .int (v_h0 0 5)])), (h1, .inl (cI, 400, .inl (v_h0 1)))]) (w1 := [(ga, .inr (5, [.ref ga1, .ref ga2, .ref ga3, .ref ga4, .ref ga5, .int (v_ga_47 0 0), .int (v_ga_47 0 1), .int (v_ga_47 0 2)])), (ga1, .inl (cI, 10, .inl (v_ga_47 1))), (ga2, .inl (cI, 10, .inl (v_ga_47 2))), (ga3, .inl (cI, 10, .inl (v_ga_47 3))), (ga4, .inl (cI, 10, .inl (v_ga_47 4))), (ga5, .inl (cI, 5, .inl (v_ga_47 5)))]) hP hD [0, 1, 2, 3, 4, 5] [6, 7] rfl rfl (by decide) (by decide) hk1 hFc hP1 hD1
          generalize H1 = H at hP hS ⊢
          have hP : va_P (dC, dI) vwCl [(h, .inr (3, [.ref h1, .int (v_h0 0 0), .int (v_h0 0 1), .int (v_h0 0 2), .int (v_h0 0 3), .int (v_h0 0 4), .int (v_h0 0 5)])), (h1, .inl (cI, 400, .inl (v_h0 1))), (ga, .inr (5, [.ref ga1, .ref ga2, .ref ga3, .ref ga4, .ref ga5, .int (v_ga_47 0 0), .int (v_ga_47 0 1), .int (v_ga_47 0 2)])), (ga1, .inl (cI, 10, .inl (v_ga_47 1))), (ga2, .inl (cI, 10, .inl (v_ga_47 2))), (ga3, .inl (cI, 10, .inl (v_ga_47 3))), (ga4, .inl (cI, 10, .inl (v_ga_47 4))), (ga5, .inl (cI, 5, .inl (v_ga_47 5)))] H := hP
          have hD : va_D (va_A (ww_X5_readOperatory dC dI cI cJ cB ga ga1 ga2 ga3 ga4 ga5 h h1 s.heap.size v_ga0 v_h0 p0 p1 n9 r1 v_ga1 v_h1) s.heap.size) [(h, .inr (3, [.ref h1, .int (v_h0 0 0), .int (v_h0 0 1), .int (v_h0 0 2), .int (v_h0 0 3), .int (v_h0 0 4), .int (v_h0 0 5)])), (h1, .inl (cI, 400, .inl (v_h0 1))), (ga, .inr (5, [.ref ga1, .ref ga2, .ref ga3, .ref ga4, .ref ga5, .int (v_ga_47 0 0), .int (v_ga_47 0 1), .int (v_ga_47 0 2)])), (ga1, .inl (cI, 10, .inl (v_ga_47 1))), (ga2, .inl (cI, 10, .inl (v_ga_47 2))), (ga3, .inl (cI, 10, .inl (v_ga_47 3))), (ga4, .inl (cI, 10, .inl (v_ga_47 4))), (ga5, .inl (cI, 5, .inl (v_ga_47 5)))] := hD
          clear hPc hDc hFc hP1 hK1 hD1 hk1 hz1 ht hvm g_45
          refine lv_iconst (v := 1) hx hb dX5_readOperator_105 (by decide) ?_
          have hP9 := hP.sub (ws' := [(ga, .inr (5, [.ref ga1, .ref ga2, .ref ga3, .ref ga4, .ref ga5, .int (v_ga_47 0 0), .int (v_ga_47 0 1), .int (v_ga_47 0 2)])), (ga1, .inl (cI, 10, .inl (v_ga_47 1))), (ga2, .inl (cI, 10, .inl (v_ga_47 2))), (ga3, .inl (cI, 10, .inl (v_ga_47 3))), (ga4, .inl (cI, 10, .inl (v_ga_47 4))), (ga5, .inl (cI, 5, .inl (v_ga_47 5))), (h, .inr (3, [.ref h1, .int (v_h0 0 0), .int (v_h0 0 1), .int (v_h0 0 2), .int (v_h0 0 3), .int (v_h0 0 4), .int (v_h0 0 5)])), (h1, .inl (cI, 400, .inl (v_h0 1)))]) [2, 3, 4, 5, 6, 7, 0, 1] rfl
          have hD9 := hD.sub (ws' := [(ga, .inr (5, [.ref ga1, .ref ga2, .ref ga3, .ref ga4, .ref ga5, .int (v_ga_47 0 0), .int (v_ga_47 0 1), .int (v_ga_47 0 2)])), (ga1, .inl (cI, 10, .inl (v_ga_47 1))), (ga2, .inl (cI, 10, .inl (v_ga_47 2))), (ga3, .inl (cI, 10, .inl (v_ga_47 3))), (ga4, .inl (cI, 10, .inl (v_ga_47 4))), (ga5, .inl (cI, 5, .inl (v_ga_47 5))), (h, .inr (3, [.ref h1, .int (v_h0 0 0), .int (v_h0 0 1), .int (v_h0 0 2), .int (v_h0 0 3), .int (v_h0 0 4), .int (v_h0 0 5)])), (h1, .inl (cI, 400, .inl (v_h0 1)))]) [2, 3, 4, 5, 6, 7, 0, 1] (by decide) rfl
          have r9_0 : (1 : Int32) = r1 := (Prod.mk.inj (Option.some.inj hf)).1
          have r9_1 : v_ga_47 = v_ga1 := (Prod.mk.inj (Prod.mk.inj (Option.some.inj hf)).2).1
          have r9_2 : v_h0 = v_h1 := (Prod.mk.inj (Prod.mk.inj (Option.some.inj hf)).2).2
          exact W.zret (v := (1 : Int32)) hx hb hr rfl (fun t ht hW => ⟨⟨(1 : Int32), (v_ga_47, v_h0), rfl, ⟨r9_0, r9_1, r9_2⟩, by rw [ht]; exact hP9, va_K.moved hW.alike hK, hD9⟩, hS.F ht⟩) hS.2.2 dX5_readOperator_106
        · replace hf := xi_t c_43 hf
          refine lv_aload_n hx hb dX5_readOperator_41 rfl (lv_at hl 2 rfl) ?_
          replace hf := xb1_to hf
          obtain ⟨o_49, g_50, hf⟩ := hf
          have hPc := hP.sub (ws' := [(h, .inr (3, [.ref h1, .int (v_h0 0 0), .int (v_h0 0 1), .int (v_h0 0 2), .int (v_h0 0 3), .int (v_h0 0 4), .int (v_h0 0 5)])), (h1, .inl (cI, 400, .inl (v_h0 1)))]) [6, 7] rfl
          have hDc := hD.sub (ws' := [(h, .inr (3, [.ref h1, .int (v_h0 0 0), .int (v_h0 0 1), .int (v_h0 0 2), .int (v_h0 0 3), .int (v_h0 0 4), .int (v_h0 0 5)])), (h1, .inl (cI, 400, .inl (v_h0 1)))]) [6, 7] (by decide) rfl
          have hFc := va_free (wc := [(h, .inr (3, [.ref h1, .int (v_h0 0 0), .int (v_h0 0 1), .int (v_h0 0 2), .int (v_h0 0 3), .int (v_h0 0 4), .int (v_h0 0 5)])), (h1, .inl (cI, 400, .inl (v_h0 1)))]) hD hS hA [6, 7] rfl
          refine va_callv (va_runV (As := []) (rest := []) ⟨hx, hb, hml, hown, hts⟩ (c_X3_advancey l dC dI cI cJ cB h h1 H.size v_h0 n9 o_49 g_50) (cwV 0 hts go_wo_X5_readOperatory_3 rfl rfl rfl (by decide +kernel) ⟨Nat.le_of_ble_eq_true rfl, Nat.le_of_ble_eq_true rfl⟩) ⟨fun a U g mk q => by obtain ⟨q0, q1, qN, qP, qK, qD⟩ := q; exact ⟨q0, q1, NW.calling qN, qP, va_K.moved (u := U) (U := U.calling g mk a) (Vm.Alike.refl U.vm) qK, qD⟩, va_recv hK hPc (ci := 3) (q0 := 0) rfl rfl, fun U hU hW => ⟨rfl, by rw [hU], NW.warm hW hnw, by rw [hU]; exact hPc, va_K.moved hW.alike hK, hDc.weaken (fun _ _ _ _ => trivial)⟩⟩ rfl rfl hl.1 rfl (lv_room (Nat.le_of_ble_eq_true rfl)) dX5_readOperator_42 ⟨Nat.zero_le _, Nat.zero_le _⟩) hS (fun q _ h => hFc q h) hFc (fun u t H1 locs ht hvm hw hB hz1 hk1 hS => ?_)
          obtain ⟨v_h_52, rfl⟩ : ∃ z, z = u := ⟨_, rfl⟩
          obtain ⟨hP1, hK1, hD1⟩ := hB
          rw [ht] at hP1
          have hw : (v_h_52 = o_49) := hw
          subst hw
          obtain ⟨hP, hD⟩ := va_join (wr := [(ga, .inr (5, [.ref ga1, .ref ga2, .ref ga3, .ref ga4, .ref ga5, .int (v_ga0 0 0), .int (v_ga0 0 1), .int (v_ga0 0 2)])), (ga1, .inl (cI, 10, .inl (v_ga0 1))), (ga2, .inl (cI, 10, .inl (v_ga0 2))), (ga3, .inl (cI, 10, .inl (v_ga0 3))), (ga4, .inl (cI, 10, .inl (v_ga0 4))), (ga5, .inl (cI, 5, .inl (v_ga0 5)))]) (w1 := [(h, .inr (3, [.ref h1, .int (v_h_52 0 0), .int (v_h_52 0 1), .int (v_h_52 0 2), .int (v_h_52 0 3), .int (v_h_52 0 4), .int (v_h_52 0 5)])), (h1, .inl (cI, 400, .inl (v_h_52 1)))]) hP hD [6, 7] [0, 1, 2, 3, 4, 5] rfl rfl (by decide) (by decide) hk1 hFc hP1 hD1
          generalize H1 = H at hP hS ⊢
          have hP : va_P (dC, dI) vwCl [(ga, .inr (5, [.ref ga1, .ref ga2, .ref ga3, .ref ga4, .ref ga5, .int (v_ga0 0 0), .int (v_ga0 0 1), .int (v_ga0 0 2)])), (ga1, .inl (cI, 10, .inl (v_ga0 1))), (ga2, .inl (cI, 10, .inl (v_ga0 2))), (ga3, .inl (cI, 10, .inl (v_ga0 3))), (ga4, .inl (cI, 10, .inl (v_ga0 4))), (ga5, .inl (cI, 5, .inl (v_ga0 5))), (h, .inr (3, [.ref h1, .int (v_h_52 0 0), .int (v_h_52 0 1), .int (v_h_52 0 2), .int (v_h_52 0 3), .int (v_h_52 0 4), .int (v_h_52 0 5)])), (h1, .inl (cI, 400, .inl (v_h_52 1)))] H := hP
          have hD : va_D (va_A (ww_X5_readOperatory dC dI cI cJ cB ga ga1 ga2 ga3 ga4 ga5 h h1 s.heap.size v_ga0 v_h0 p0 p1 n9 r1 v_ga1 v_h1) s.heap.size) [(ga, .inr (5, [.ref ga1, .ref ga2, .ref ga3, .ref ga4, .ref ga5, .int (v_ga0 0 0), .int (v_ga0 0 1), .int (v_ga0 0 2)])), (ga1, .inl (cI, 10, .inl (v_ga0 1))), (ga2, .inl (cI, 10, .inl (v_ga0 2))), (ga3, .inl (cI, 10, .inl (v_ga0 3))), (ga4, .inl (cI, 10, .inl (v_ga0 4))), (ga5, .inl (cI, 5, .inl (v_ga0 5))), (h, .inr (3, [.ref h1, .int (v_h_52 0 0), .int (v_h_52 0 1), .int (v_h_52 0 2), .int (v_h_52 0 3), .int (v_h_52 0 4), .int (v_h_52 0 5)])), (h1, .inl (cI, 400, .inl (v_h_52 1)))] := hD
          clear hPc hDc hFc hP1 hK1 hD1 hk1 hz1 ht hvm g_50
          refine lv_aload_n hx hb dX5_readOperator_45 rfl (lv_at hl 2 rfl) ?_
          refine va_getN (D := (dC, dI)) (ci := 3) (v := .int (v_h_52 0 3)) (C := RX3) (T := TX3) (N := 7) hx hb hts kk1_ hown hK hP 6 rfl rfl 4 (by decide) kk0_ (fun _ h9 => h9) rfl dX5_readOperator_46 ?_
          refine lv_iconst (v := 1) hx hb dX5_readOperator_49 (by decide) ?_
          refine lv_icmp_ne (tgt := 64) hx hb dX5_readOperator_50 (by decide) (fun c_54 => ?_) (fun c_54 => ?_)
          · replace hf := xi_f c_54 hf
            refine lv_iconst (v := -1) hx hb dX5_readOperator_64 (by decide) ?_
            exact J_65 ((-1 : Int32)) ((-1 : Int32)) v_ga0 v_h_52 hf _ _ (hP.sub [0, 1, 2, 3, 4, 5, 6, 7] rfl) (hD.sub [0, 1, 2, 3, 4, 5, 6, 7] (by decide) rfl) hS ls (lv_sub hl [1, 2, 3, 4, 0] rfl)
          · replace hf := xi_t c_54 hf
            refine lv_aload_n hx hb dX5_readOperator_53 rfl (lv_at hl 1 rfl) ?_
            refine lv_aload_n hx hb dX5_readOperator_54 rfl (lv_at hl 2 rfl) ?_
            refine va_getN (D := (dC, dI)) (ci := 3) (v := .int (v_h_52 0 5)) (C := RX3) (T := TX3) (N := 7) hx hb hts kk1_ hown hK hP 6 rfl rfl 6 (by decide) kk2_ (fun _ h9 => h9) rfl dX5_readOperator_55 ?_
            replace hf := xb1_to hf
            obtain ⟨o_55, g_56, hf⟩ := hf
            have hPc := hP.sub (ws' := [(ga, .inr (5, [.ref ga1, .ref ga2, .ref ga3, .ref ga4, .ref ga5, .int (v_ga0 0 0), .int (v_ga0 0 1), .int (v_ga0 0 2)])), (ga1, .inl (cI, 10, .inl (v_ga0 1))), (ga2, .inl (cI, 10, .inl (v_ga0 2))), (ga3, .inl (cI, 10, .inl (v_ga0 3))), (ga4, .inl (cI, 10, .inl (v_ga0 4))), (ga5, .inl (cI, 5, .inl (v_ga0 5)))]) [0, 1, 2, 3, 4, 5] rfl
            have hDc := hD.sub (ws' := [(ga, .inr (5, [.ref ga1, .ref ga2, .ref ga3, .ref ga4, .ref ga5, .int (v_ga0 0 0), .int (v_ga0 0 1), .int (v_ga0 0 2)])), (ga1, .inl (cI, 10, .inl (v_ga0 1))), (ga2, .inl (cI, 10, .inl (v_ga0 2))), (ga3, .inl (cI, 10, .inl (v_ga0 3))), (ga4, .inl (cI, 10, .inl (v_ga0 4))), (ga5, .inl (cI, 5, .inl (v_ga0 5)))]) [0, 1, 2, 3, 4, 5] (by decide) rfl
            have hFc := va_free (wc := [(ga, .inr (5, [.ref ga1, .ref ga2, .ref ga3, .ref ga4, .ref ga5, .int (v_ga0 0 0), .int (v_ga0 0 1), .int (v_ga0 0 2)])), (ga1, .inl (cI, 10, .inl (v_ga0 1))), (ga2, .inl (cI, 10, .inl (v_ga0 2))), (ga3, .inl (cI, 10, .inl (v_ga0 3))), (ga4, .inl (cI, 10, .inl (v_ga0 4))), (ga5, .inl (cI, 5, .inl (v_ga0 5)))]) hD hS hA [0, 1, 2, 3, 4, 5] rfl
            refine va_calli (va_runV (As := [.int (v_h_52 0 5)]) (rest := []) ⟨hx, hb, hml, hown, hts⟩ (c_X5_findOperatory l dC dI cI cJ cB ga ga1 ga2 ga3 ga4 ga5 H.size v_ga0 (v_h_52 0 5) n9 o_55 g_56) (cwV 1 hts go_wo_X5_readOperatory_5 rfl rfl rfl (by decide +kernel) ⟨Nat.le_of_ble_eq_true rfl, Nat.le_of_ble_eq_true rfl⟩) ⟨fun a U g mk q => by obtain ⟨q0, q1, qN, qP, qK, qD⟩ := q; exact ⟨q0, q1, NW.calling qN, qP, va_K.moved (u := U) (U := U.calling g mk a) (Vm.Alike.refl U.vm) qK, qD⟩, va_recv hK hPc (ci := 5) (q0 := 0) rfl rfl, fun U hU hW => ⟨rfl, by rw [hU], NW.warm hW hnw, by rw [hU]; exact hPc, va_K.moved hW.alike hK, hDc.weaken (fun _ _ _ _ => trivial)⟩⟩ rfl rfl hl.1 rfl (lv_room (Nat.le_of_ble_eq_true rfl)) dX5_readOperator_58 ⟨Nat.zero_le _, Nat.zero_le _⟩) hS (fun q _ h => hFc q h) hFc (fun r_57 u t H1 locs ht hvm hw hB hz1 hk1 hS => ?_)
            cases u
            obtain ⟨hP1, hK1, hD1⟩ := hB
            rw [ht] at hP1
            have hw : (r_57 = o_55) := hw
            subst hw
            obtain ⟨hP, hD⟩ := va_join (wr := [(h, .inr (3, [.ref h1, .int (v_h_52 0 0), .int (v_h_52 0 1), .int (v_h_52 0 2), .int (v_h_52 0 3), .int (v_h_52 0 4), .int (v_h_52 0 5)])), (h1, .inl (cI, 400, .inl (v_h_52 1)))]) (w1 := [(ga, .inr (5, [.ref ga1, .ref ga2, .ref ga3, .ref ga4, .ref ga5, .int (v_ga0 0 0), .int (v_ga0 0 1), .int (v_ga0 0 2)])), (ga1, .inl (cI, 10, .inl (v_ga0 1))), (ga2, .inl (cI, 10, .inl (v_ga0 2))), (ga3, .inl (cI, 10, .inl (v_ga0 3))), (ga4, .inl (cI, 10, .inl (v_ga0 4))), (ga5, .inl (cI, 5, .inl (v_ga0 5)))]) hP hD [0, 1, 2, 3, 4, 5] [6, 7] rfl rfl (by decide) (by decide) hk1 hFc hP1 hD1
            generalize H1 = H at hP hS ⊢
            have hP : va_P (dC, dI) vwCl [(h, .inr (3, [.ref h1, .int (v_h_52 0 0), .int (v_h_52 0 1), .int (v_h_52 0 2), .int (v_h_52 0 3), .int (v_h_52 0 4), .int (v_h_52 0 5)])), (h1, .inl (cI, 400, .inl (v_h_52 1))), (ga, .inr (5, [.ref ga1, .ref ga2, .ref ga3, .ref ga4, .ref ga5, .int (v_ga0 0 0), .int (v_ga0 0 1), .int (v_ga0 0 2)])), (ga1, .inl (cI, 10, .inl (v_ga0 1))), (ga2, .inl (cI, 10, .inl (v_ga0 2))), (ga3, .inl (cI, 10, .inl (v_ga0 3))), (ga4, .inl (cI, 10, .inl (v_ga0 4))), (ga5, .inl (cI, 5, .inl (v_ga0 5)))] H := hP
            have hD : va_D (va_A (ww_X5_readOperatory dC dI cI cJ cB ga ga1 ga2 ga3 ga4 ga5 h h1 s.heap.size v_ga0 v_h0 p0 p1 n9 r1 v_ga1 v_h1) s.heap.size) [(h, .inr (3, [.ref h1, .int (v_h_52 0 0), .int (v_h_52 0 1), .int (v_h_52 0 2), .int (v_h_52 0 3), .int (v_h_52 0 4), .int (v_h_52 0 5)])), (h1, .inl (cI, 400, .inl (v_h_52 1))), (ga, .inr (5, [.ref ga1, .ref ga2, .ref ga3, .ref ga4, .ref ga5, .int (v_ga0 0 0), .int (v_ga0 0 1), .int (v_ga0 0 2)])), (ga1, .inl (cI, 10, .inl (v_ga0 1))), (ga2, .inl (cI, 10, .inl (v_ga0 2))), (ga3, .inl (cI, 10, .inl (v_ga0 3))), (ga4, .inl (cI, 10, .inl (v_ga0 4))), (ga5, .inl (cI, 5, .inl (v_ga0 5)))] := hD
            clear hPc hDc hFc hP1 hK1 hD1 hk1 hz1 ht hvm g_56
            refine lv_goto (tgt := 65) hx hb dX5_readOperator_61 (by decide) ?_
            exact J_65 ((-1 : Int32)) r_57 v_ga0 v_h_52 hf _ _ (hP.sub [2, 3, 4, 5, 6, 7, 0, 1] rfl) (hD.sub [2, 3, 4, 5, 6, 7, 0, 1] (by decide) rfl) hS ls (lv_sub hl [1, 2, 3, 4, 0] rfl)
  · replace hf := xi_t c_22 hf
    refine lv_aload_n hx hb dX5_readOperator_5 rfl (lv_at hl 0 rfl) ?_
    refine lv_iload_n hx hb dX5_readOperator_6 rfl (lv_at hl 3 rfl) ?_
    refine lv_iconst (v := 1) hx hb dX5_readOperator_7 (by decide) ?_
    refine lv_iconst (v := 2) hx hb dX5_readOperator_8 (by decide) ?_
    refine lv_iconst (v := -1) hx hb dX5_readOperator_9 (by decide) ?_
    replace hf := xb1_to hf
    obtain ⟨o_59, g_60, hf⟩ := hf
    have hPc := hP.sub (ws' := [(ga, .inr (5, [.ref ga1, .ref ga2, .ref ga3, .ref ga4, .ref ga5, .int (v_ga0 0 0), .int (v_ga0 0 1), .int (v_ga0 0 2)])), (ga1, .inl (cI, 10, .inl (v_ga0 1))), (ga2, .inl (cI, 10, .inl (v_ga0 2))), (ga3, .inl (cI, 10, .inl (v_ga0 3))), (ga4, .inl (cI, 10, .inl (v_ga0 4))), (ga5, .inl (cI, 5, .inl (v_ga0 5)))]) [0, 1, 2, 3, 4, 5] rfl
    have hDc := hD.sub (ws' := [(ga, .inr (5, [.ref ga1, .ref ga2, .ref ga3, .ref ga4, .ref ga5, .int (v_ga0 0 0), .int (v_ga0 0 1), .int (v_ga0 0 2)])), (ga1, .inl (cI, 10, .inl (v_ga0 1))), (ga2, .inl (cI, 10, .inl (v_ga0 2))), (ga3, .inl (cI, 10, .inl (v_ga0 3))), (ga4, .inl (cI, 10, .inl (v_ga0 4))), (ga5, .inl (cI, 5, .inl (v_ga0 5)))]) [0, 1, 2, 3, 4, 5] (by decide) rfl
    have hFc := va_free (wc := [(ga, .inr (5, [.ref ga1, .ref ga2, .ref ga3, .ref ga4, .ref ga5, .int (v_ga0 0 0), .int (v_ga0 0 1), .int (v_ga0 0 2)])), (ga1, .inl (cI, 10, .inl (v_ga0 1))), (ga2, .inl (cI, 10, .inl (v_ga0 2))), (ga3, .inl (cI, 10, .inl (v_ga0 3))), (ga4, .inl (cI, 10, .inl (v_ga0 4))), (ga5, .inl (cI, 5, .inl (v_ga0 5)))]) hD hS hA [0, 1, 2, 3, 4, 5] rfl
    refine va_callv (va_runV (As := [.int p1, .int ((1 : Int32)), .int ((2 : Int32)), .int ((-1 : Int32))]) (rest := []) ⟨hx, hb, hml, hown, hts⟩ (c_X5_addOperatory l dC dI cI cJ cB ga ga1 ga2 ga3 ga4 ga5 H.size v_ga0 p1 ((1 : Int32)) ((2 : Int32)) ((-1 : Int32)) n9 o_59 g_60) (cwV 4 hts go_wo_X5_readOperatory_4 rfl rfl rfl (by decide +kernel) ⟨Nat.le_of_ble_eq_true rfl, Nat.le_of_ble_eq_true rfl⟩) ⟨fun a U g mk q => by obtain ⟨q0, q1, qN, qP, qK, qD⟩ := q; exact ⟨q0, q1, NW.calling qN, qP, va_K.moved (u := U) (U := U.calling g mk a) (Vm.Alike.refl U.vm) qK, qD⟩, va_recv hK hPc (ci := 5) (q0 := 0) rfl rfl, fun U hU hW => ⟨rfl, by rw [hU], NW.warm hW hnw, by rw [hU]; exact hPc, va_K.moved hW.alike hK, hDc.weaken (fun _ _ _ _ => trivial)⟩⟩ rfl rfl hl.1 rfl (lv_room (Nat.le_of_ble_eq_true rfl)) dX5_readOperator_10 ⟨Nat.zero_le _, Nat.zero_le _⟩) hS (fun q _ h => hFc q h) hFc (fun u t H1 locs ht hvm hw hB hz1 hk1 hS => ?_)
    obtain ⟨v_ga_62, rfl⟩ : ∃ z, z = u := ⟨_, rfl⟩
    obtain ⟨hP1, hK1, hD1⟩ := hB
    rw [ht] at hP1
    have hw : (v_ga_62 = o_59) := hw
    subst hw
    obtain ⟨hP, hD⟩ := va_join (wr := [(h, .inr (3, [.ref h1, .int (v_h0 0 0), .int (v_h0 0 1), .int (v_h0 0 2), .int (v_h0 0 3), .int (v_h0 0 4), .int (v_h0 0 5)])), (h1, .inl (cI, 400, .inl (v_h0 1)))]) (w1 := [(ga, .inr (5, [.ref ga1, .ref ga2, .ref ga3, .ref ga4, .ref ga5, .int (v_ga_62 0 0), .int (v_ga_62 0 1), .int (v_ga_62 0 2)])), (ga1, .inl (cI, 10, .inl (v_ga_62 1))), (ga2, .inl (cI, 10, .inl (v_ga_62 2))), (ga3, .inl (cI, 10, .inl (v_ga_62 3))), (ga4, .inl (cI, 10, .inl (v_ga_62 4))), (ga5, .inl (cI, 5, .inl (v_ga_62 5)))]) hP hD [0, 1, 2, 3, 4, 5] [6, 7] rfl rfl (by decide) (by decide) hk1 hFc hP1 hD1
    generalize H1 = H at hP hS ⊢
    have hP : va_P (dC, dI) vwCl [(h, .inr (3, [.ref h1, .int (v_h0 0 0), .int (v_h0 0 1), .int (v_h0 0 2), .int (v_h0 0 3), .int (v_h0 0 4), .int (v_h0 0 5)])), (h1, .inl (cI, 400, .inl (v_h0 1))), (ga, .inr (5, [.ref ga1, .ref ga2, .ref ga3, .ref ga4, .ref ga5, .int (v_ga_62 0 0), .int (v_ga_62 0 1), .int (v_ga_62 0 2)])), (ga1, .inl (cI, 10, .inl (v_ga_62 1))), (ga2, .inl (cI, 10, .inl (v_ga_62 2))), (ga3, .inl (cI, 10, .inl (v_ga_62 3))), (ga4, .inl (cI, 10, .inl (v_ga_62 4))), (ga5, .inl (cI, 5, .inl (v_ga_62 5)))] H := hP
    have hD : va_D (va_A (ww_X5_readOperatory dC dI cI cJ cB ga ga1 ga2 ga3 ga4 ga5 h h1 s.heap.size v_ga0 v_h0 p0 p1 n9 r1 v_ga1 v_h1) s.heap.size) [(h, .inr (3, [.ref h1, .int (v_h0 0 0), .int (v_h0 0 1), .int (v_h0 0 2), .int (v_h0 0 3), .int (v_h0 0 4), .int (v_h0 0 5)])), (h1, .inl (cI, 400, .inl (v_h0 1))), (ga, .inr (5, [.ref ga1, .ref ga2, .ref ga3, .ref ga4, .ref ga5, .int (v_ga_62 0 0), .int (v_ga_62 0 1), .int (v_ga_62 0 2)])), (ga1, .inl (cI, 10, .inl (v_ga_62 1))), (ga2, .inl (cI, 10, .inl (v_ga_62 2))), (ga3, .inl (cI, 10, .inl (v_ga_62 3))), (ga4, .inl (cI, 10, .inl (v_ga_62 4))), (ga5, .inl (cI, 5, .inl (v_ga_62 5)))] := hD
    clear hPc hDc hFc hP1 hK1 hD1 hk1 hz1 ht hvm g_60
    refine lv_iconst (v := 1) hx hb dX5_readOperator_13 (by decide) ?_
    have hP9 := hP.sub (ws' := [(ga, .inr (5, [.ref ga1, .ref ga2, .ref ga3, .ref ga4, .ref ga5, .int (v_ga_62 0 0), .int (v_ga_62 0 1), .int (v_ga_62 0 2)])), (ga1, .inl (cI, 10, .inl (v_ga_62 1))), (ga2, .inl (cI, 10, .inl (v_ga_62 2))), (ga3, .inl (cI, 10, .inl (v_ga_62 3))), (ga4, .inl (cI, 10, .inl (v_ga_62 4))), (ga5, .inl (cI, 5, .inl (v_ga_62 5))), (h, .inr (3, [.ref h1, .int (v_h0 0 0), .int (v_h0 0 1), .int (v_h0 0 2), .int (v_h0 0 3), .int (v_h0 0 4), .int (v_h0 0 5)])), (h1, .inl (cI, 400, .inl (v_h0 1)))]) [2, 3, 4, 5, 6, 7, 0, 1] rfl
    have hD9 := hD.sub (ws' := [(ga, .inr (5, [.ref ga1, .ref ga2, .ref ga3, .ref ga4, .ref ga5, .int (v_ga_62 0 0), .int (v_ga_62 0 1), .int (v_ga_62 0 2)])), (ga1, .inl (cI, 10, .inl (v_ga_62 1))), (ga2, .inl (cI, 10, .inl (v_ga_62 2))), (ga3, .inl (cI, 10, .inl (v_ga_62 3))), (ga4, .inl (cI, 10, .inl (v_ga_62 4))), (ga5, .inl (cI, 5, .inl (v_ga_62 5))), (h, .inr (3, [.ref h1, .int (v_h0 0 0), .int (v_h0 0 1), .int (v_h0 0 2), .int (v_h0 0 3), .int (v_h0 0 4), .int (v_h0 0 5)])), (h1, .inl (cI, 400, .inl (v_h0 1)))]) [2, 3, 4, 5, 6, 7, 0, 1] (by decide) rfl
    have r9_0 : (1 : Int32) = r1 := (Prod.mk.inj (Option.some.inj hf)).1
    have r9_1 : v_ga_62 = v_ga1 := (Prod.mk.inj (Prod.mk.inj (Option.some.inj hf)).2).1
    have r9_2 : v_h0 = v_h1 := (Prod.mk.inj (Prod.mk.inj (Option.some.inj hf)).2).2
    exact W.zret (v := (1 : Int32)) hx hb hr rfl (fun t ht hW => ⟨⟨(1 : Int32), (v_ga_62, v_h0), rfl, ⟨r9_0, r9_1, r9_2⟩, by rw [ht]; exact hP9, va_K.moved hW.alike hK, hD9⟩, hS.F ht⟩) hS.2.2 dX5_readOperator_14
def wo_X5_readClausey : List Cond := .code yX5_readClause cX5_readClause 5 (some .boolean) :: (([.fieldLink RX5 33 "SumRewriter$Signature" "operators" "I", .fieldLink RX5 37 "SumRewriter$Signature" "variables" "I", .constant RX5 62 (215205)] : List Cond) ++ ((wsX30) ++ ((wsX50) ++ ((wsV RX5 56 RX3 yX3_advance wo_X3_advancey) ++ ((wsV RX5 63 RX5 yX5_isNewName wo_X5_isNewNamey) ++ ((wsV RX5 70 RX5 yX5_readOperator wo_X5_readOperatory) ++ ((wsV RX5 66 RX5 yX5_addVariable wo_X5_addVariabley))))))))
set_option maxRecDepth 20000 in
theorem go_wo_X5_readClausey_2 : GoodIn wo_X5_readClausey (wsV RX5 56 RX3 yX3_advance wo_X3_advancey) := goodIn_sub (fun _ h => (List.mem_cons_of_mem _ (List.mem_append_right _ (List.mem_append_right _ (List.mem_append_right _ (List.mem_append_left _ h)))))) (by decide +kernel)
set_option maxRecDepth 20000 in
theorem go_wo_X5_readClausey_3 : GoodIn wo_X5_readClausey (wsV RX5 63 RX5 yX5_isNewName wo_X5_isNewNamey) := goodIn_sub (fun _ h => (List.mem_cons_of_mem _ (List.mem_append_right _ (List.mem_append_right _ (List.mem_append_right _ (List.mem_append_right _ (List.mem_append_left _ h))))))) (by decide +kernel)
set_option maxRecDepth 20000 in
theorem go_wo_X5_readClausey_4 : GoodIn wo_X5_readClausey (wsV RX5 70 RX5 yX5_readOperator wo_X5_readOperatory) := goodIn_sub (fun _ h => (List.mem_cons_of_mem _ (List.mem_append_right _ (List.mem_append_right _ (List.mem_append_right _ (List.mem_append_right _ (List.mem_append_right _ (List.mem_append_left _ h)))))))) (by decide +kernel)
set_option maxRecDepth 20000 in
theorem go_wo_X5_readClausey_5 : GoodIn wo_X5_readClausey (wsV RX5 66 RX5 yX5_addVariable wo_X5_addVariabley) := goodIn_sub (fun _ h => (List.mem_cons_of_mem _ (List.mem_append_right _ (List.mem_append_right _ (List.mem_append_right _ (List.mem_append_right _ (List.mem_append_right _ (List.mem_append_right _ h)))))))) (by decide +kernel)
abbrev ww_X5_readClausey (dC : Nat → ClassId) (dI : Nat → Nat → Nat) (cI cJ cB : ClassId) (ga ga1 ga2 ga3 ga4 ga5 h h1 : Nat) (sz : Nat) (v_ga0 : Nat → Nat → Int32) (v_h0 : Nat → Nat → Int32) (n9 : Nat) (r1 : Int32) (v_ga1 : Nat → Nat → Int32) (v_h1 : Nat → Nat → Int32) : va_W := [(ga, .inr (5, [.ref ga1, .ref ga2, .ref ga3, .ref ga4, .ref ga5, .int (v_ga0 0 0), .int (v_ga0 0 1), .int (v_ga0 0 2)])), (ga1, .inl (cI, 10, .inl (v_ga0 1))), (ga2, .inl (cI, 10, .inl (v_ga0 2))), (ga3, .inl (cI, 10, .inl (v_ga0 3))), (ga4, .inl (cI, 10, .inl (v_ga0 4))), (ga5, .inl (cI, 5, .inl (v_ga0 5))), (h, .inr (3, [.ref h1, .int (v_h0 0 0), .int (v_h0 0 1), .int (v_h0 0 2), .int (v_h0 0 3), .int (v_h0 0 4), .int (v_h0 0 5)])), (h1, .inl (cI, 400, .inl (v_h0 1)))]
abbrev at_X5_readClausey (dC : Nat → ClassId) (dI : Nat → Nat → Nat) (cI cJ cB : ClassId) (ga ga1 ga2 ga3 ga4 ga5 h h1 : Nat) (sz : Nat) (v_ga0 : Nat → Nat → Int32) (v_h0 : Nat → Nat → Int32) (n9 : Nat) (r1 : Int32) (v_ga1 : Nat → Nat → Int32) (v_h1 : Nat → Nat → Int32) (u : (Nat → Nat → Int32) × (Nat → Nat → Int32)) (t : State) : Prop := match u with
  | (v_ga, v_h) => va_P (dC, dI) vwCl [(ga, .inr (5, [.ref ga1, .ref ga2, .ref ga3, .ref ga4, .ref ga5, .int (v_ga 0 0), .int (v_ga 0 1), .int (v_ga 0 2)])), (ga1, .inl (cI, 10, .inl (v_ga 1))), (ga2, .inl (cI, 10, .inl (v_ga 2))), (ga3, .inl (cI, 10, .inl (v_ga 3))), (ga4, .inl (cI, 10, .inl (v_ga 4))), (ga5, .inl (cI, 5, .inl (v_ga 5))), (h, .inr (3, [.ref h1, .int (v_h 0 0), .int (v_h 0 1), .int (v_h 0 2), .int (v_h 0 3), .int (v_h 0 4), .int (v_h 0 5)])), (h1, .inl (cI, 400, .inl (v_h 1)))] t.heap ∧ va_K (dC, dI) vwCl (tyL cI cJ cB) t ∧ va_D (va_A (ww_X5_readClausey dC dI cI cJ cB ga ga1 ga2 ga3 ga4 ga5 h h1 sz v_ga0 v_h0 n9 r1 v_ga1 v_h1) sz) [(ga, .inr (5, [.ref ga1, .ref ga2, .ref ga3, .ref ga4, .ref ga5, .int (v_ga 0 0), .int (v_ga 0 1), .int (v_ga 0 2)])), (ga1, .inl (cI, 10, .inl (v_ga 1))), (ga2, .inl (cI, 10, .inl (v_ga 2))), (ga3, .inl (cI, 10, .inl (v_ga 3))), (ga4, .inl (cI, 10, .inl (v_ga 4))), (ga5, .inl (cI, 5, .inl (v_ga 5))), (h, .inr (3, [.ref h1, .int (v_h 0 0), .int (v_h 0 1), .int (v_h 0 2), .int (v_h 0 3), .int (v_h 0 4), .int (v_h 0 5)])), (h1, .inl (cI, 400, .inl (v_h 1)))]
abbrev qc_X5_readClausey (dC : Nat → ClassId) (dI : Nat → Nat → Nat) (cI cJ cB : ClassId) (ga ga1 ga2 ga3 ga4 ga5 h h1 : Nat) (sz : Nat) (v_ga0 : Nat → Nat → Int32) (v_h0 : Nat → Nat → Int32) (n9 : Nat) (r1 : Int32) (v_ga1 : Nat → Nat → Int32) (v_h1 : Nat → Nat → Int32) : Array Value → State → Outcome → State → Prop := va_Qi (fun (r : Int32) (u : (Nat → Nat → Int32) × (Nat → Nat → Int32)) => match u with | (v_ga, v_h) => (r = r1) ∧ (v_ga = v_ga1) ∧ (v_h = v_h1)) (at_X5_readClausey dC dI cI cJ cB ga ga1 ga2 ga3 ga4 ga5 h h1 sz v_ga0 v_h0 n9 r1 v_ga1 v_h1) (va_A (ww_X5_readClausey dC dI cI cJ cB ga ga1 ga2 ga3 ga4 ga5 h h1 sz v_ga0 v_h0 n9 r1 v_ga1 v_h1) sz)
abbrev pc_X5_readClausey (dC : Nat → ClassId) (dI : Nat → Nat → Nat) (cI cJ cB : ClassId) (ga ga1 ga2 ga3 ga4 ga5 h h1 : Nat) (sz : Nat) (v_ga0 : Nat → Nat → Int32) (v_h0 : Nat → Nat → Int32) (n9 : Nat) (r1 : Int32) (v_ga1 : Nat → Nat → Int32) (v_h1 : Nat → Nat → Int32) : Array Value → State → Prop := va_Pc [.ref ga, .ref h] (fun U => U.heap.size = sz ∧ NW U ∧ va_P (dC, dI) vwCl (ww_X5_readClausey dC dI cI cJ cB ga ga1 ga2 ga3 ga4 ga5 h h1 sz v_ga0 v_h0 n9 r1 v_ga1 v_h1) U.heap ∧ va_K (dC, dI) vwCl (tyL cI cJ cB) U ∧ va_D (fun _ => True) (ww_X5_readClausey dC dI cI cJ cB ga ga1 ga2 ga3 ga4 ga5 h h1 sz v_ga0 v_h0 n9 r1 v_ga1 v_h1))
abbrev rm_X5_readClausey : Room := { frames := 4, cells := 0, slots := 0, locals := 88 }
abbrev WW_X5_readClausey (p : Program) (l : Launch) (e : Env) (s : State) (m : MethodId) (below : List Frame) (meth : Method) (c : Code) (dC : Nat → ClassId) (dI : Nat → Nat → Nat) (cI cJ cB : ClassId) (ga ga1 ga2 ga3 ga4 ga5 h h1 : Nat) (sz : Nat) (v_ga0 : Nat → Nat → Int32) (v_h0 : Nat → Nat → Int32) (n9 : Nat) (r1 : Int32) (v_ga1 : Nat → Nat → Int32) (v_h1 : Nat → Nat → Int32) (H : Heap) (locs : List Loc) (g : JFrame) : Prop := W p l e rm_X5_readClausey s m ([.ref ga, .ref h] : List Value).toArray below meth c H locs 0 0 (MQ below (qc_X5_readClausey dC dI cI cJ cB ga ga1 ga2 ga3 ga4 ga5 h h1 sz v_ga0 v_h0 n9 r1 v_ga1 v_h1) ([.ref ga, .ref h] : List Value).toArray s 0 0 (va_A (ww_X5_readClausey dC dI cI cJ cB ga ga1 ga2 ga3 ga4 ga5 h h1 sz v_ga0 v_h0 n9 r1 v_ga1 v_h1) sz)) g
set_option maxHeartbeats 4000000 in
set_option maxRecDepth 100000 in
theorem c_X5_readClausey (l : Launch) (dC : Nat → ClassId) (dI : Nat → Nat → Nat) (cI cJ cB : ClassId) (ga ga1 ga2 ga3 ga4 ga5 h h1 : Nat) (sz : Nat) (v_ga0 : Nat → Nat → Int32) (v_h0 : Nat → Nat → Int32) (n9 : Nat) (r1 : Int32) (v_ga1 : Nat → Nat → Int32) (v_h1 : Nat → Nat → Int32) (hf : fx_X5_readClause n9 v_ga0 v_h0  = some (r1, v_ga1, v_h1)) : Met l yX5_readClause wo_X5_readClausey rm_X5_readClausey (pc_X5_readClausey dC dI cI cJ cB ga ga1 ga2 ga3 ga4 ga5 h h1 sz v_ga0 v_h0 n9 r1 v_ga1 v_h1) (qc_X5_readClausey dC dI cI cJ cB ga ga1 ga2 ga3 ga4 ga5 h h1 sz v_ga0 v_h0 n9 r1 v_ga1 v_h1) 0 0 (va_A (ww_X5_readClausey dC dI cI cJ cB ga ga1 ga2 ga3 ga4 ga5 h h1 sz v_ga0 v_h0 n9 r1 v_ga1 v_h1) sz) := by
  unfold fx_X5_readClause at hf
  refine Met.ofW (cc := cX5_readClause) (maxL := 5) (ret := (some .boolean)) (by decide) rfl ?_
  intro p e s m args below meth c s₁ B hml hv
  obtain ⟨rfl, hsz, hnw, hP, hK, hD0⟩ := hv
  have hx := B.exec
  have hb := B.bytes
  have hr := B.returns
  have hts := atoms_spec (ws := wo_X5_readClausey) B.pre
  have hown : s.vm.findClass RX5 = some m.cls := findClass_of_methodNamed B.named
  have hlocks := B.notSynchronized
  clear B
  subst hsz
  have hD := hD0.self (sz := s.heap.size)
  clear hD0
  have kk0_ : (Cond.fieldLinkNest RX5 43 "SumRewriter$Scanner" "sort" "I" "SumRewriter").before ([.ref ga, .ref h] : List Value).toArray s = true := va_Nw.use rfl (hnw _ (by decide +kernel))
  have kk1_ : ∀ w ∈ wsX30, w ∈ wo_X5_readClausey := fun _ h => (List.mem_cons_of_mem _ (List.mem_append_right _ (List.mem_append_left _ h)))
  have kk2_ : (Cond.fieldLinkNest RX5 59 "SumRewriter$Scanner" "value" "I" "SumRewriter").before ([.ref ga, .ref h] : List Value).toArray s = true := va_Nw.use rfl (hnw _ (by decide +kernel))
  have kk3_ := hts (.fieldLink RX5 33 "SumRewriter$Signature" "operators" "I") (by decide +kernel)
  have kk4_ : ∀ w ∈ wsX50, w ∈ wo_X5_readClausey := fun _ h => (List.mem_cons_of_mem _ (List.mem_append_right _ (List.mem_append_right _ (List.mem_append_left _ h))))
  have kk5_ := hts (.fieldLink RX5 37 "SumRewriter$Signature" "variables" "I") (by decide +kernel)
  have kk6_ := hts (.constant RX5 62 (215205)) (by decide +kernel)
  have hA : ∀ q : Nat, s.heap.size ≤ q → (va_A (ww_X5_readClausey dC dI cI cJ cB ga ga1 ga2 ga3 ga4 ga5 h h1 s.heap.size v_ga0 v_h0 n9 r1 v_ga1 v_h1) s.heap.size) q := fun q h => Or.inr h
  have hS : va_S (va_A (ww_X5_readClausey dC dI cI cJ cB ga ga1 ga2 ga3 ga4 ga5 h h1 s.heap.size v_ga0 v_h0 n9 r1 v_ga1 v_h1) s.heap.size) s.heap s.heap [] := va_S.rf
  have hl := lv_entry ([.ref ga, .ref h]) (n := 5) (Nat.le_of_ble_eq_true rfl)
  rw [lg_entry_eq]
  generalize (lg_sl ([.ref ga, .ref h]) ++ List.replicate (5 - (lg_sl ([.ref ga, .ref h])).length) Slot.unset).toArray = ls at hl ⊢
  have hl : lv_has ls 5 [(0, .ref ga), (1, .ref h)] := hl
  have hP : va_P (dC, dI) vwCl [(ga, .inr (5, [.ref ga1, .ref ga2, .ref ga3, .ref ga4, .ref ga5, .int (v_ga0 0 0), .int (v_ga0 0 1), .int (v_ga0 0 2)])), (ga1, .inl (cI, 10, .inl (v_ga0 1))), (ga2, .inl (cI, 10, .inl (v_ga0 2))), (ga3, .inl (cI, 10, .inl (v_ga0 3))), (ga4, .inl (cI, 10, .inl (v_ga0 4))), (ga5, .inl (cI, 5, .inl (v_ga0 5))), (h, .inr (3, [.ref h1, .int (v_h0 0 0), .int (v_h0 0 1), .int (v_h0 0 2), .int (v_h0 0 3), .int (v_h0 0 4), .int (v_h0 0 5)])), (h1, .inl (cI, 400, .inl (v_h0 1)))] s.heap := hP
  have hD : va_D (va_A (ww_X5_readClausey dC dI cI cJ cB ga ga1 ga2 ga3 ga4 ga5 h h1 s.heap.size v_ga0 v_h0 n9 r1 v_ga1 v_h1) s.heap.size) [(ga, .inr (5, [.ref ga1, .ref ga2, .ref ga3, .ref ga4, .ref ga5, .int (v_ga0 0 0), .int (v_ga0 0 1), .int (v_ga0 0 2)])), (ga1, .inl (cI, 10, .inl (v_ga0 1))), (ga2, .inl (cI, 10, .inl (v_ga0 2))), (ga3, .inl (cI, 10, .inl (v_ga0 3))), (ga4, .inl (cI, 10, .inl (v_ga0 4))), (ga5, .inl (cI, 5, .inl (v_ga0 5))), (h, .inr (3, [.ref h1, .int (v_h0 0 0), .int (v_h0 0 1), .int (v_h0 0 2), .int (v_h0 0 3), .int (v_h0 0 4), .int (v_h0 0 5)])), (h1, .inl (cI, 400, .inl (v_h0 1)))] := hD
  obtain ⟨H, hH⟩ : ∃ H, H = s.heap := ⟨_, rfl⟩
  obtain ⟨locs, hlc⟩ : ∃ L : List Loc, L = [] := ⟨_, rfl⟩
  have hS : va_S (va_A (ww_X5_readClausey dC dI cI cJ cB ga ga1 ga2 ga3 ga4 ga5 h h1 s.heap.size v_ga0 v_h0 n9 r1 v_ga1 v_h1) s.heap.size) s.heap H locs := by rw [hH, hlc]; exact hS
  have hP : va_P (dC, dI) vwCl [(ga, .inr (5, [.ref ga1, .ref ga2, .ref ga3, .ref ga4, .ref ga5, .int (v_ga0 0 0), .int (v_ga0 0 1), .int (v_ga0 0 2)])), (ga1, .inl (cI, 10, .inl (v_ga0 1))), (ga2, .inl (cI, 10, .inl (v_ga0 2))), (ga3, .inl (cI, 10, .inl (v_ga0 3))), (ga4, .inl (cI, 10, .inl (v_ga0 4))), (ga5, .inl (cI, 5, .inl (v_ga0 5))), (h, .inr (3, [.ref h1, .int (v_h0 0 0), .int (v_h0 0 1), .int (v_h0 0 2), .int (v_h0 0 3), .int (v_h0 0 4), .int (v_h0 0 5)])), (h1, .inl (cI, 400, .inl (v_h0 1)))] H := by rw [hH]; exact hP
  suffices hgo : WW_X5_readClausey p l e s m below meth c dC dI cI cJ cB ga ga1 ga2 ga3 ga4 ga5 h h1 s.heap.size v_ga0 v_h0 n9 r1 v_ga1 v_h1 H locs (F0 m 0 ls []) by rw [hH, hlc] at hgo; exact hgo
  clear hH hlc
  have J_79 : ∀ (x2 : Int32) (x3 : Int32) (v_ga : Nat → Nat → Int32) (v_h : Nat → Nat → Int32), jx_X5_readClause_79 n9 x2 x3 v_ga v_h = some (r1, v_ga1, v_h1) → ∀ (H : Heap) (locs : List Loc), va_P (dC, dI) vwCl [(ga, .inr (5, [.ref ga1, .ref ga2, .ref ga3, .ref ga4, .ref ga5, .int (v_ga 0 0), .int (v_ga 0 1), .int (v_ga 0 2)])), (ga1, .inl (cI, 10, .inl (v_ga 1))), (ga2, .inl (cI, 10, .inl (v_ga 2))), (ga3, .inl (cI, 10, .inl (v_ga 3))), (ga4, .inl (cI, 10, .inl (v_ga 4))), (ga5, .inl (cI, 5, .inl (v_ga 5))), (h, .inr (3, [.ref h1, .int (v_h 0 0), .int (v_h 0 1), .int (v_h 0 2), .int (v_h 0 3), .int (v_h 0 4), .int (v_h 0 5)])), (h1, .inl (cI, 400, .inl (v_h 1)))] H → va_D (va_A (ww_X5_readClausey dC dI cI cJ cB ga ga1 ga2 ga3 ga4 ga5 h h1 s.heap.size v_ga0 v_h0 n9 r1 v_ga1 v_h1) s.heap.size) [(ga, .inr (5, [.ref ga1, .ref ga2, .ref ga3, .ref ga4, .ref ga5, .int (v_ga 0 0), .int (v_ga 0 1), .int (v_ga 0 2)])), (ga1, .inl (cI, 10, .inl (v_ga 1))), (ga2, .inl (cI, 10, .inl (v_ga 2))), (ga3, .inl (cI, 10, .inl (v_ga 3))), (ga4, .inl (cI, 10, .inl (v_ga 4))), (ga5, .inl (cI, 5, .inl (v_ga 5))), (h, .inr (3, [.ref h1, .int (v_h 0 0), .int (v_h 0 1), .int (v_h 0 2), .int (v_h 0 3), .int (v_h 0 4), .int (v_h 0 5)])), (h1, .inl (cI, 400, .inl (v_h 1)))] → va_S (va_A (ww_X5_readClausey dC dI cI cJ cB ga ga1 ga2 ga3 ga4 ga5 h h1 s.heap.size v_ga0 v_h0 n9 r1 v_ga1 v_h1) s.heap.size) s.heap H locs → ∀ ls : Array Slot, lv_has ls 5 [(0, .ref ga), (1, .ref h), (2, .int x2), (3, .int x3)] → WW_X5_readClausey p l e s m below meth c dC dI cI cJ cB ga ga1 ga2 ga3 ga4 ga5 h h1 s.heap.size v_ga0 v_h0 n9 r1 v_ga1 v_h1 H locs (F0 m 79 ls []) := by
    intro x2 x3 v_ga v_h hf H locs hP hD hS ls hl
    unfold jx_X5_readClause_79 at hf
    refine lv_aload_n hx hb dX5_readClause_79 rfl (lv_at hl 1 rfl) ?_
    replace hf := xb1_to hf
    obtain ⟨o_1, g_2, hf⟩ := hf
    have hPc := hP.sub (ws' := [(h, .inr (3, [.ref h1, .int (v_h 0 0), .int (v_h 0 1), .int (v_h 0 2), .int (v_h 0 3), .int (v_h 0 4), .int (v_h 0 5)])), (h1, .inl (cI, 400, .inl (v_h 1)))]) [6, 7] rfl
    have hDc := hD.sub (ws' := [(h, .inr (3, [.ref h1, .int (v_h 0 0), .int (v_h 0 1), .int (v_h 0 2), .int (v_h 0 3), .int (v_h 0 4), .int (v_h 0 5)])), (h1, .inl (cI, 400, .inl (v_h 1)))]) [6, 7] (by decide) rfl
    have hFc := va_free (wc := [(h, .inr (3, [.ref h1, .int (v_h 0 0), .int (v_h 0 1), .int (v_h 0 2), .int (v_h 0 3), .int (v_h 0 4), .int (v_h 0 5)])), (h1, .inl (cI, 400, .inl (v_h 1)))]) hD hS hA [6, 7] rfl
    refine va_callv (va_runV (As := []) (rest := []) ⟨hx, hb, hml, hown, hts⟩ (c_X3_advancey l dC dI cI cJ cB h h1 H.size v_h n9 o_1 g_2) (cwV 0 hts go_wo_X5_readClausey_2 rfl rfl rfl (by decide +kernel) ⟨Nat.le_of_ble_eq_true rfl, Nat.le_of_ble_eq_true rfl⟩) ⟨fun a U g mk q => by obtain ⟨q0, q1, qN, qP, qK, qD⟩ := q; exact ⟨q0, q1, NW.calling qN, qP, va_K.moved (u := U) (U := U.calling g mk a) (Vm.Alike.refl U.vm) qK, qD⟩, va_recv hK hPc (ci := 3) (q0 := 0) rfl rfl, fun U hU hW => ⟨rfl, by rw [hU], NW.warm hW hnw, by rw [hU]; exact hPc, va_K.moved hW.alike hK, hDc.weaken (fun _ _ _ _ => trivial)⟩⟩ rfl rfl hl.1 rfl (lv_room (Nat.le_of_ble_eq_true rfl)) dX5_readClause_80 ⟨Nat.zero_le _, Nat.zero_le _⟩) hS (fun q _ h => hFc q h) hFc (fun u t H1 locs ht hvm hw hB hz1 hk1 hS => ?_)
    obtain ⟨v_h_4, rfl⟩ : ∃ z, z = u := ⟨_, rfl⟩
    obtain ⟨hP1, hK1, hD1⟩ := hB
    rw [ht] at hP1
    have hw : (v_h_4 = o_1) := hw
    subst hw
    obtain ⟨hP, hD⟩ := va_join (wr := [(ga, .inr (5, [.ref ga1, .ref ga2, .ref ga3, .ref ga4, .ref ga5, .int (v_ga 0 0), .int (v_ga 0 1), .int (v_ga 0 2)])), (ga1, .inl (cI, 10, .inl (v_ga 1))), (ga2, .inl (cI, 10, .inl (v_ga 2))), (ga3, .inl (cI, 10, .inl (v_ga 3))), (ga4, .inl (cI, 10, .inl (v_ga 4))), (ga5, .inl (cI, 5, .inl (v_ga 5)))]) (w1 := [(h, .inr (3, [.ref h1, .int (v_h_4 0 0), .int (v_h_4 0 1), .int (v_h_4 0 2), .int (v_h_4 0 3), .int (v_h_4 0 4), .int (v_h_4 0 5)])), (h1, .inl (cI, 400, .inl (v_h_4 1)))]) hP hD [6, 7] [0, 1, 2, 3, 4, 5] rfl rfl (by decide) (by decide) hk1 hFc hP1 hD1
    generalize H1 = H at hP hS ⊢
    have hP : va_P (dC, dI) vwCl [(ga, .inr (5, [.ref ga1, .ref ga2, .ref ga3, .ref ga4, .ref ga5, .int (v_ga 0 0), .int (v_ga 0 1), .int (v_ga 0 2)])), (ga1, .inl (cI, 10, .inl (v_ga 1))), (ga2, .inl (cI, 10, .inl (v_ga 2))), (ga3, .inl (cI, 10, .inl (v_ga 3))), (ga4, .inl (cI, 10, .inl (v_ga 4))), (ga5, .inl (cI, 5, .inl (v_ga 5))), (h, .inr (3, [.ref h1, .int (v_h_4 0 0), .int (v_h_4 0 1), .int (v_h_4 0 2), .int (v_h_4 0 3), .int (v_h_4 0 4), .int (v_h_4 0 5)])), (h1, .inl (cI, 400, .inl (v_h_4 1)))] H := hP
    have hD : va_D (va_A (ww_X5_readClausey dC dI cI cJ cB ga ga1 ga2 ga3 ga4 ga5 h h1 s.heap.size v_ga0 v_h0 n9 r1 v_ga1 v_h1) s.heap.size) [(ga, .inr (5, [.ref ga1, .ref ga2, .ref ga3, .ref ga4, .ref ga5, .int (v_ga 0 0), .int (v_ga 0 1), .int (v_ga 0 2)])), (ga1, .inl (cI, 10, .inl (v_ga 1))), (ga2, .inl (cI, 10, .inl (v_ga 2))), (ga3, .inl (cI, 10, .inl (v_ga 3))), (ga4, .inl (cI, 10, .inl (v_ga 4))), (ga5, .inl (cI, 5, .inl (v_ga 5))), (h, .inr (3, [.ref h1, .int (v_h_4 0 0), .int (v_h_4 0 1), .int (v_h_4 0 2), .int (v_h_4 0 3), .int (v_h_4 0 4), .int (v_h_4 0 5)])), (h1, .inl (cI, 400, .inl (v_h_4 1)))] := hD
    clear hPc hDc hFc hP1 hK1 hD1 hk1 hz1 ht hvm g_2
    refine lv_aload_n hx hb dX5_readClause_83 rfl (lv_at hl 1 rfl) ?_
    refine va_getN (D := (dC, dI)) (ci := 3) (v := .int (v_h_4 0 3)) (C := RX3) (T := TX3) (N := 7) hx hb hts kk1_ hown hK hP 6 rfl rfl 4 (by decide) kk0_ (fun _ h9 => h9) rfl dX5_readClause_84 ?_
    refine lv_iconst (v := 1) hx hb dX5_readClause_87 (by decide) ?_
    refine lv_icmp_ne (tgt := 102) hx hb dX5_readClause_88 (by decide) (fun c_6 => ?_) (fun c_6 => ?_)
    · replace hf := xi_f c_6 hf
      refine lv_iconst (v := 0) hx hb dX5_readClause_102 (by decide) ?_
      have hP9 := hP.sub (ws' := [(ga, .inr (5, [.ref ga1, .ref ga2, .ref ga3, .ref ga4, .ref ga5, .int (v_ga 0 0), .int (v_ga 0 1), .int (v_ga 0 2)])), (ga1, .inl (cI, 10, .inl (v_ga 1))), (ga2, .inl (cI, 10, .inl (v_ga 2))), (ga3, .inl (cI, 10, .inl (v_ga 3))), (ga4, .inl (cI, 10, .inl (v_ga 4))), (ga5, .inl (cI, 5, .inl (v_ga 5))), (h, .inr (3, [.ref h1, .int (v_h_4 0 0), .int (v_h_4 0 1), .int (v_h_4 0 2), .int (v_h_4 0 3), .int (v_h_4 0 4), .int (v_h_4 0 5)])), (h1, .inl (cI, 400, .inl (v_h_4 1)))]) [0, 1, 2, 3, 4, 5, 6, 7] rfl
      have hD9 := hD.sub (ws' := [(ga, .inr (5, [.ref ga1, .ref ga2, .ref ga3, .ref ga4, .ref ga5, .int (v_ga 0 0), .int (v_ga 0 1), .int (v_ga 0 2)])), (ga1, .inl (cI, 10, .inl (v_ga 1))), (ga2, .inl (cI, 10, .inl (v_ga 2))), (ga3, .inl (cI, 10, .inl (v_ga 3))), (ga4, .inl (cI, 10, .inl (v_ga 4))), (ga5, .inl (cI, 5, .inl (v_ga 5))), (h, .inr (3, [.ref h1, .int (v_h_4 0 0), .int (v_h_4 0 1), .int (v_h_4 0 2), .int (v_h_4 0 3), .int (v_h_4 0 4), .int (v_h_4 0 5)])), (h1, .inl (cI, 400, .inl (v_h_4 1)))]) [0, 1, 2, 3, 4, 5, 6, 7] (by decide) rfl
      have r9_0 : (0 : Int32) = r1 := (Prod.mk.inj (Option.some.inj hf)).1
      have r9_1 : v_ga = v_ga1 := (Prod.mk.inj (Prod.mk.inj (Option.some.inj hf)).2).1
      have r9_2 : v_h_4 = v_h1 := (Prod.mk.inj (Prod.mk.inj (Option.some.inj hf)).2).2
      exact W.zret (v := (0 : Int32)) hx hb hr rfl (fun t ht hW => ⟨⟨(0 : Int32), (v_ga, v_h_4), rfl, ⟨r9_0, r9_1, r9_2⟩, by rw [ht]; exact hP9, va_K.moved hW.alike hK, hD9⟩, hS.F ht⟩) hS.2.2 dX5_readClause_103
    · replace hf := xi_t c_6 hf
      refine lv_aload_n hx hb dX5_readClause_91 rfl (lv_at hl 0 rfl) ?_
      refine lv_aload_n hx hb dX5_readClause_92 rfl (lv_at hl 1 rfl) ?_
      refine va_getN (D := (dC, dI)) (ci := 3) (v := .int (v_h_4 0 5)) (C := RX3) (T := TX3) (N := 7) hx hb hts kk1_ hown hK hP 6 rfl rfl 6 (by decide) kk2_ (fun _ h9 => h9) rfl dX5_readClause_93 ?_
      replace hf := xb1_to hf
      obtain ⟨o_7, g_8, hf⟩ := hf
      have hPc := hP.sub (ws' := [(ga, .inr (5, [.ref ga1, .ref ga2, .ref ga3, .ref ga4, .ref ga5, .int (v_ga 0 0), .int (v_ga 0 1), .int (v_ga 0 2)])), (ga1, .inl (cI, 10, .inl (v_ga 1))), (ga2, .inl (cI, 10, .inl (v_ga 2))), (ga3, .inl (cI, 10, .inl (v_ga 3))), (ga4, .inl (cI, 10, .inl (v_ga 4))), (ga5, .inl (cI, 5, .inl (v_ga 5)))]) [0, 1, 2, 3, 4, 5] rfl
      have hDc := hD.sub (ws' := [(ga, .inr (5, [.ref ga1, .ref ga2, .ref ga3, .ref ga4, .ref ga5, .int (v_ga 0 0), .int (v_ga 0 1), .int (v_ga 0 2)])), (ga1, .inl (cI, 10, .inl (v_ga 1))), (ga2, .inl (cI, 10, .inl (v_ga 2))), (ga3, .inl (cI, 10, .inl (v_ga 3))), (ga4, .inl (cI, 10, .inl (v_ga 4))), (ga5, .inl (cI, 5, .inl (v_ga 5)))]) [0, 1, 2, 3, 4, 5] (by decide) rfl
      have hFc := va_free (wc := [(ga, .inr (5, [.ref ga1, .ref ga2, .ref ga3, .ref ga4, .ref ga5, .int (v_ga 0 0), .int (v_ga 0 1), .int (v_ga 0 2)])), (ga1, .inl (cI, 10, .inl (v_ga 1))), (ga2, .inl (cI, 10, .inl (v_ga 2))), (ga3, .inl (cI, 10, .inl (v_ga 3))), (ga4, .inl (cI, 10, .inl (v_ga 4))), (ga5, .inl (cI, 5, .inl (v_ga 5)))]) hD hS hA [0, 1, 2, 3, 4, 5] rfl
      refine va_calli (va_runV (As := [.int (v_h_4 0 5)]) (rest := []) ⟨hx, hb, hml, hown, hts⟩ (c_X5_isNewNamey l dC dI cI cJ cB ga ga1 ga2 ga3 ga4 ga5 H.size v_ga (v_h_4 0 5) n9 o_7 g_8) (cwV 1 hts go_wo_X5_readClausey_3 rfl rfl rfl (by decide +kernel) ⟨Nat.le_of_ble_eq_true rfl, Nat.le_of_ble_eq_true rfl⟩) ⟨fun a U g mk q => by obtain ⟨q0, q1, qN, qP, qK, qD⟩ := q; exact ⟨q0, q1, NW.calling qN, qP, va_K.moved (u := U) (U := U.calling g mk a) (Vm.Alike.refl U.vm) qK, qD⟩, va_recv hK hPc (ci := 5) (q0 := 0) rfl rfl, fun U hU hW => ⟨rfl, by rw [hU], NW.warm hW hnw, by rw [hU]; exact hPc, va_K.moved hW.alike hK, hDc.weaken (fun _ _ _ _ => trivial)⟩⟩ rfl rfl hl.1 rfl (lv_room (Nat.le_of_ble_eq_true rfl)) dX5_readClause_96 ⟨Nat.zero_le _, Nat.zero_le _⟩) hS (fun q _ h => hFc q h) hFc (fun r_9 u t H1 locs ht hvm hw hB hz1 hk1 hS => ?_)
      cases u
      obtain ⟨hP1, hK1, hD1⟩ := hB
      rw [ht] at hP1
      have hw : (r_9 = o_7) := hw
      subst hw
      obtain ⟨hP, hD⟩ := va_join (wr := [(h, .inr (3, [.ref h1, .int (v_h_4 0 0), .int (v_h_4 0 1), .int (v_h_4 0 2), .int (v_h_4 0 3), .int (v_h_4 0 4), .int (v_h_4 0 5)])), (h1, .inl (cI, 400, .inl (v_h_4 1)))]) (w1 := [(ga, .inr (5, [.ref ga1, .ref ga2, .ref ga3, .ref ga4, .ref ga5, .int (v_ga 0 0), .int (v_ga 0 1), .int (v_ga 0 2)])), (ga1, .inl (cI, 10, .inl (v_ga 1))), (ga2, .inl (cI, 10, .inl (v_ga 2))), (ga3, .inl (cI, 10, .inl (v_ga 3))), (ga4, .inl (cI, 10, .inl (v_ga 4))), (ga5, .inl (cI, 5, .inl (v_ga 5)))]) hP hD [0, 1, 2, 3, 4, 5] [6, 7] rfl rfl (by decide) (by decide) hk1 hFc hP1 hD1
      generalize H1 = H at hP hS ⊢
      have hP : va_P (dC, dI) vwCl [(h, .inr (3, [.ref h1, .int (v_h_4 0 0), .int (v_h_4 0 1), .int (v_h_4 0 2), .int (v_h_4 0 3), .int (v_h_4 0 4), .int (v_h_4 0 5)])), (h1, .inl (cI, 400, .inl (v_h_4 1))), (ga, .inr (5, [.ref ga1, .ref ga2, .ref ga3, .ref ga4, .ref ga5, .int (v_ga 0 0), .int (v_ga 0 1), .int (v_ga 0 2)])), (ga1, .inl (cI, 10, .inl (v_ga 1))), (ga2, .inl (cI, 10, .inl (v_ga 2))), (ga3, .inl (cI, 10, .inl (v_ga 3))), (ga4, .inl (cI, 10, .inl (v_ga 4))), (ga5, .inl (cI, 5, .inl (v_ga 5)))] H := hP
      have hD : va_D (va_A (ww_X5_readClausey dC dI cI cJ cB ga ga1 ga2 ga3 ga4 ga5 h h1 s.heap.size v_ga0 v_h0 n9 r1 v_ga1 v_h1) s.heap.size) [(h, .inr (3, [.ref h1, .int (v_h_4 0 0), .int (v_h_4 0 1), .int (v_h_4 0 2), .int (v_h_4 0 3), .int (v_h_4 0 4), .int (v_h_4 0 5)])), (h1, .inl (cI, 400, .inl (v_h_4 1))), (ga, .inr (5, [.ref ga1, .ref ga2, .ref ga3, .ref ga4, .ref ga5, .int (v_ga 0 0), .int (v_ga 0 1), .int (v_ga 0 2)])), (ga1, .inl (cI, 10, .inl (v_ga 1))), (ga2, .inl (cI, 10, .inl (v_ga 2))), (ga3, .inl (cI, 10, .inl (v_ga 3))), (ga4, .inl (cI, 10, .inl (v_ga 4))), (ga5, .inl (cI, 5, .inl (v_ga 5)))] := hD
      clear hPc hDc hFc hP1 hK1 hD1 hk1 hz1 ht hvm g_8
      refine lv_if_ne (tgt := 104) hx hb dX5_readClause_99 (by decide) (fun c_11 => ?_) (fun c_11 => ?_)
      · replace hf := xi_f c_11 hf
        refine lv_aload_n hx hb dX5_readClause_104 rfl (lv_at hl 1 rfl) ?_
        refine va_getN (D := (dC, dI)) (ci := 3) (v := .int (v_h_4 0 5)) (C := RX3) (T := TX3) (N := 7) hx hb hts kk1_ hown hK hP 0 rfl rfl 6 (by decide) kk2_ (fun _ h9 => h9) rfl dX5_readClause_105 ?_
        refine lv_istore (lv' := [(4, .int (v_h_4 0 5)), (0, .ref ga), (1, .ref h), (2, .int x2), (3, .int x3)]) hx hb dX5_readClause_108 hl (by decide) rfl (fun ls hl => ?_)
        refine lv_aload_n hx hb dX5_readClause_110 rfl (lv_at hl 2 rfl) ?_
        replace hf := xb1_to hf
        obtain ⟨o_12, g_13, hf⟩ := hf
        have hPc := hP.sub (ws' := [(h, .inr (3, [.ref h1, .int (v_h_4 0 0), .int (v_h_4 0 1), .int (v_h_4 0 2), .int (v_h_4 0 3), .int (v_h_4 0 4), .int (v_h_4 0 5)])), (h1, .inl (cI, 400, .inl (v_h_4 1)))]) [0, 1] rfl
        have hDc := hD.sub (ws' := [(h, .inr (3, [.ref h1, .int (v_h_4 0 0), .int (v_h_4 0 1), .int (v_h_4 0 2), .int (v_h_4 0 3), .int (v_h_4 0 4), .int (v_h_4 0 5)])), (h1, .inl (cI, 400, .inl (v_h_4 1)))]) [0, 1] (by decide) rfl
        have hFc := va_free (wc := [(h, .inr (3, [.ref h1, .int (v_h_4 0 0), .int (v_h_4 0 1), .int (v_h_4 0 2), .int (v_h_4 0 3), .int (v_h_4 0 4), .int (v_h_4 0 5)])), (h1, .inl (cI, 400, .inl (v_h_4 1)))]) hD hS hA [0, 1] rfl
        refine va_callv (va_runV (As := []) (rest := []) ⟨hx, hb, hml, hown, hts⟩ (c_X3_advancey l dC dI cI cJ cB h h1 H.size v_h_4 n9 o_12 g_13) (cwV 0 hts go_wo_X5_readClausey_2 rfl rfl rfl (by decide +kernel) ⟨Nat.le_of_ble_eq_true rfl, Nat.le_of_ble_eq_true rfl⟩) ⟨fun a U g mk q => by obtain ⟨q0, q1, qN, qP, qK, qD⟩ := q; exact ⟨q0, q1, NW.calling qN, qP, va_K.moved (u := U) (U := U.calling g mk a) (Vm.Alike.refl U.vm) qK, qD⟩, va_recv hK hPc (ci := 3) (q0 := 0) rfl rfl, fun U hU hW => ⟨rfl, by rw [hU], NW.warm hW hnw, by rw [hU]; exact hPc, va_K.moved hW.alike hK, hDc.weaken (fun _ _ _ _ => trivial)⟩⟩ rfl rfl hl.1 rfl (lv_room (Nat.le_of_ble_eq_true rfl)) dX5_readClause_111 ⟨Nat.zero_le _, Nat.zero_le _⟩) hS (fun q _ h => hFc q h) hFc (fun u t H1 locs ht hvm hw hB hz1 hk1 hS => ?_)
        obtain ⟨v_h_15, rfl⟩ : ∃ z, z = u := ⟨_, rfl⟩
        obtain ⟨hP1, hK1, hD1⟩ := hB
        rw [ht] at hP1
        have hw : (v_h_15 = o_12) := hw
        subst hw
        obtain ⟨hP, hD⟩ := va_join (wr := [(ga, .inr (5, [.ref ga1, .ref ga2, .ref ga3, .ref ga4, .ref ga5, .int (v_ga 0 0), .int (v_ga 0 1), .int (v_ga 0 2)])), (ga1, .inl (cI, 10, .inl (v_ga 1))), (ga2, .inl (cI, 10, .inl (v_ga 2))), (ga3, .inl (cI, 10, .inl (v_ga 3))), (ga4, .inl (cI, 10, .inl (v_ga 4))), (ga5, .inl (cI, 5, .inl (v_ga 5)))]) (w1 := [(h, .inr (3, [.ref h1, .int (v_h_15 0 0), .int (v_h_15 0 1), .int (v_h_15 0 2), .int (v_h_15 0 3), .int (v_h_15 0 4), .int (v_h_15 0 5)])), (h1, .inl (cI, 400, .inl (v_h_15 1)))]) hP hD [0, 1] [2, 3, 4, 5, 6, 7] rfl rfl (by decide) (by decide) hk1 hFc hP1 hD1
        generalize H1 = H at hP hS ⊢
        have hP : va_P (dC, dI) vwCl [(ga, .inr (5, [.ref ga1, .ref ga2, .ref ga3, .ref ga4, .ref ga5, .int (v_ga 0 0), .int (v_ga 0 1), .int (v_ga 0 2)])), (ga1, .inl (cI, 10, .inl (v_ga 1))), (ga2, .inl (cI, 10, .inl (v_ga 2))), (ga3, .inl (cI, 10, .inl (v_ga 3))), (ga4, .inl (cI, 10, .inl (v_ga 4))), (ga5, .inl (cI, 5, .inl (v_ga 5))), (h, .inr (3, [.ref h1, .int (v_h_15 0 0), .int (v_h_15 0 1), .int (v_h_15 0 2), .int (v_h_15 0 3), .int (v_h_15 0 4), .int (v_h_15 0 5)])), (h1, .inl (cI, 400, .inl (v_h_15 1)))] H := hP
        have hD : va_D (va_A (ww_X5_readClausey dC dI cI cJ cB ga ga1 ga2 ga3 ga4 ga5 h h1 s.heap.size v_ga0 v_h0 n9 r1 v_ga1 v_h1) s.heap.size) [(ga, .inr (5, [.ref ga1, .ref ga2, .ref ga3, .ref ga4, .ref ga5, .int (v_ga 0 0), .int (v_ga 0 1), .int (v_ga 0 2)])), (ga1, .inl (cI, 10, .inl (v_ga 1))), (ga2, .inl (cI, 10, .inl (v_ga 2))), (ga3, .inl (cI, 10, .inl (v_ga 3))), (ga4, .inl (cI, 10, .inl (v_ga 4))), (ga5, .inl (cI, 5, .inl (v_ga 5))), (h, .inr (3, [.ref h1, .int (v_h_15 0 0), .int (v_h_15 0 1), .int (v_h_15 0 2), .int (v_h_15 0 3), .int (v_h_15 0 4), .int (v_h_15 0 5)])), (h1, .inl (cI, 400, .inl (v_h_15 1)))] := hD
        clear hPc hDc hFc hP1 hK1 hD1 hk1 hz1 ht hvm g_13
        refine lv_iload_n hx hb dX5_readClause_114 rfl (lv_at hl 4 rfl) ?_
        refine lv_if_eq (tgt := 126) hx hb dX5_readClause_115 (by decide) (fun c_17 => ?_) (fun c_17 => ?_)
        · replace hf := xi_t c_17 hf
          refine lv_aload_n hx hb dX5_readClause_126 rfl (lv_at hl 1 rfl) ?_
          refine lv_aload_n hx hb dX5_readClause_127 rfl (lv_at hl 2 rfl) ?_
          refine lv_iload_n hx hb dX5_readClause_128 rfl (lv_at hl 3 rfl) ?_
          refine lv_iload hx hb dX5_readClause_129 (lv_at hl 0 rfl) ?_
          replace hf := xb3_to hf
          obtain ⟨o_18, o_19, o_20, g_21, hf⟩ := hf
          have hPc := hP.sub (ws' := [(ga, .inr (5, [.ref ga1, .ref ga2, .ref ga3, .ref ga4, .ref ga5, .int (v_ga 0 0), .int (v_ga 0 1), .int (v_ga 0 2)])), (ga1, .inl (cI, 10, .inl (v_ga 1))), (ga2, .inl (cI, 10, .inl (v_ga 2))), (ga3, .inl (cI, 10, .inl (v_ga 3))), (ga4, .inl (cI, 10, .inl (v_ga 4))), (ga5, .inl (cI, 5, .inl (v_ga 5))), (h, .inr (3, [.ref h1, .int (v_h_15 0 0), .int (v_h_15 0 1), .int (v_h_15 0 2), .int (v_h_15 0 3), .int (v_h_15 0 4), .int (v_h_15 0 5)])), (h1, .inl (cI, 400, .inl (v_h_15 1)))]) [0, 1, 2, 3, 4, 5, 6, 7] rfl
          have hDc := hD.sub (ws' := [(ga, .inr (5, [.ref ga1, .ref ga2, .ref ga3, .ref ga4, .ref ga5, .int (v_ga 0 0), .int (v_ga 0 1), .int (v_ga 0 2)])), (ga1, .inl (cI, 10, .inl (v_ga 1))), (ga2, .inl (cI, 10, .inl (v_ga 2))), (ga3, .inl (cI, 10, .inl (v_ga 3))), (ga4, .inl (cI, 10, .inl (v_ga 4))), (ga5, .inl (cI, 5, .inl (v_ga 5))), (h, .inr (3, [.ref h1, .int (v_h_15 0 0), .int (v_h_15 0 1), .int (v_h_15 0 2), .int (v_h_15 0 3), .int (v_h_15 0 4), .int (v_h_15 0 5)])), (h1, .inl (cI, 400, .inl (v_h_15 1)))]) [0, 1, 2, 3, 4, 5, 6, 7] (by decide) rfl
          have hFc := va_free (wc := [(ga, .inr (5, [.ref ga1, .ref ga2, .ref ga3, .ref ga4, .ref ga5, .int (v_ga 0 0), .int (v_ga 0 1), .int (v_ga 0 2)])), (ga1, .inl (cI, 10, .inl (v_ga 1))), (ga2, .inl (cI, 10, .inl (v_ga 2))), (ga3, .inl (cI, 10, .inl (v_ga 3))), (ga4, .inl (cI, 10, .inl (v_ga 4))), (ga5, .inl (cI, 5, .inl (v_ga 5))), (h, .inr (3, [.ref h1, .int (v_h_15 0 0), .int (v_h_15 0 1), .int (v_h_15 0 2), .int (v_h_15 0 3), .int (v_h_15 0 4), .int (v_h_15 0 5)])), (h1, .inl (cI, 400, .inl (v_h_15 1)))]) hD hS hA [0, 1, 2, 3, 4, 5, 6, 7] rfl
          refine va_calli (va_runV (As := [.ref h, .int x2, .int (v_h_4 0 5)]) (rest := []) ⟨hx, hb, hml, hown, hts⟩ (c_X5_readOperatory l dC dI cI cJ cB ga ga1 ga2 ga3 ga4 ga5 h h1 H.size v_ga v_h_15 x2 (v_h_4 0 5) n9 o_18 o_19 o_20 g_21) (cwV 3 hts go_wo_X5_readClausey_4 rfl rfl rfl (by decide +kernel) ⟨Nat.le_of_ble_eq_true rfl, Nat.le_of_ble_eq_true rfl⟩) ⟨fun a U g mk q => by obtain ⟨q0, q1, qN, qP, qK, qD⟩ := q; exact ⟨q0, q1, NW.calling qN, qP, va_K.moved (u := U) (U := U.calling g mk a) (Vm.Alike.refl U.vm) qK, qD⟩, va_recv hK hPc (ci := 5) (q0 := 0) rfl rfl, fun U hU hW => ⟨rfl, by rw [hU], NW.warm hW hnw, by rw [hU]; exact hPc, va_K.moved hW.alike hK, hDc.weaken (fun _ _ _ _ => trivial)⟩⟩ rfl rfl hl.1 rfl (lv_room (Nat.le_of_ble_eq_true rfl)) dX5_readClause_131 ⟨Nat.zero_le _, Nat.zero_le _⟩) hS (fun q _ h => hFc q h) hFc (fun r_22 u t H1 locs ht hvm hw hB hz1 hk1 hS => ?_)
          obtain ⟨v_ga_23, v_h_24⟩ := u
          obtain ⟨hP1, hK1, hD1⟩ := hB
          rw [ht] at hP1
          have hw : (r_22 = o_18) ∧ (v_ga_23 = o_19) ∧ (v_h_24 = o_20) := hw
          obtain ⟨rfl, rfl, rfl⟩ := hw
          obtain ⟨hP, hD⟩ := va_join (wr := []) (w1 := [(ga, .inr (5, [.ref ga1, .ref ga2, .ref ga3, .ref ga4, .ref ga5, .int (v_ga_23 0 0), .int (v_ga_23 0 1), .int (v_ga_23 0 2)])), (ga1, .inl (cI, 10, .inl (v_ga_23 1))), (ga2, .inl (cI, 10, .inl (v_ga_23 2))), (ga3, .inl (cI, 10, .inl (v_ga_23 3))), (ga4, .inl (cI, 10, .inl (v_ga_23 4))), (ga5, .inl (cI, 5, .inl (v_ga_23 5))), (h, .inr (3, [.ref h1, .int (v_h_24 0 0), .int (v_h_24 0 1), .int (v_h_24 0 2), .int (v_h_24 0 3), .int (v_h_24 0 4), .int (v_h_24 0 5)])), (h1, .inl (cI, 400, .inl (v_h_24 1)))]) hP hD [0, 1, 2, 3, 4, 5, 6, 7] [] rfl rfl (by decide) (by decide) hk1 hFc hP1 hD1
          generalize H1 = H at hP hS ⊢
          have hP : va_P (dC, dI) vwCl [(ga, .inr (5, [.ref ga1, .ref ga2, .ref ga3, .ref ga4, .ref ga5, .int (v_ga_23 0 0), .int (v_ga_23 0 1), .int (v_ga_23 0 2)])), (ga1, .inl (cI, 10, .inl (v_ga_23 1))), (ga2, .inl (cI, 10, .inl (v_ga_23 2))), (ga3, .inl (cI, 10, .inl (v_ga_23 3))), (ga4, .inl (cI, 10, .inl (v_ga_23 4))), (ga5, .inl (cI, 5, .inl (v_ga_23 5))), (h, .inr (3, [.ref h1, .int (v_h_24 0 0), .int (v_h_24 0 1), .int (v_h_24 0 2), .int (v_h_24 0 3), .int (v_h_24 0 4), .int (v_h_24 0 5)])), (h1, .inl (cI, 400, .inl (v_h_24 1)))] H := hP
          have hD : va_D (va_A (ww_X5_readClausey dC dI cI cJ cB ga ga1 ga2 ga3 ga4 ga5 h h1 s.heap.size v_ga0 v_h0 n9 r1 v_ga1 v_h1) s.heap.size) [(ga, .inr (5, [.ref ga1, .ref ga2, .ref ga3, .ref ga4, .ref ga5, .int (v_ga_23 0 0), .int (v_ga_23 0 1), .int (v_ga_23 0 2)])), (ga1, .inl (cI, 10, .inl (v_ga_23 1))), (ga2, .inl (cI, 10, .inl (v_ga_23 2))), (ga3, .inl (cI, 10, .inl (v_ga_23 3))), (ga4, .inl (cI, 10, .inl (v_ga_23 4))), (ga5, .inl (cI, 5, .inl (v_ga_23 5))), (h, .inr (3, [.ref h1, .int (v_h_24 0 0), .int (v_h_24 0 1), .int (v_h_24 0 2), .int (v_h_24 0 3), .int (v_h_24 0 4), .int (v_h_24 0 5)])), (h1, .inl (cI, 400, .inl (v_h_24 1)))] := hD
          clear hPc hDc hFc hP1 hK1 hD1 hk1 hz1 ht hvm g_21
          have hP9 := hP.sub (ws' := [(ga, .inr (5, [.ref ga1, .ref ga2, .ref ga3, .ref ga4, .ref ga5, .int (v_ga_23 0 0), .int (v_ga_23 0 1), .int (v_ga_23 0 2)])), (ga1, .inl (cI, 10, .inl (v_ga_23 1))), (ga2, .inl (cI, 10, .inl (v_ga_23 2))), (ga3, .inl (cI, 10, .inl (v_ga_23 3))), (ga4, .inl (cI, 10, .inl (v_ga_23 4))), (ga5, .inl (cI, 5, .inl (v_ga_23 5))), (h, .inr (3, [.ref h1, .int (v_h_24 0 0), .int (v_h_24 0 1), .int (v_h_24 0 2), .int (v_h_24 0 3), .int (v_h_24 0 4), .int (v_h_24 0 5)])), (h1, .inl (cI, 400, .inl (v_h_24 1)))]) [0, 1, 2, 3, 4, 5, 6, 7] rfl
          have hD9 := hD.sub (ws' := [(ga, .inr (5, [.ref ga1, .ref ga2, .ref ga3, .ref ga4, .ref ga5, .int (v_ga_23 0 0), .int (v_ga_23 0 1), .int (v_ga_23 0 2)])), (ga1, .inl (cI, 10, .inl (v_ga_23 1))), (ga2, .inl (cI, 10, .inl (v_ga_23 2))), (ga3, .inl (cI, 10, .inl (v_ga_23 3))), (ga4, .inl (cI, 10, .inl (v_ga_23 4))), (ga5, .inl (cI, 5, .inl (v_ga_23 5))), (h, .inr (3, [.ref h1, .int (v_h_24 0 0), .int (v_h_24 0 1), .int (v_h_24 0 2), .int (v_h_24 0 3), .int (v_h_24 0 4), .int (v_h_24 0 5)])), (h1, .inl (cI, 400, .inl (v_h_24 1)))]) [0, 1, 2, 3, 4, 5, 6, 7] (by decide) rfl
          have z9 := xz_in hf
          replace hf := xz_to hf
          have r9_0 : r_22 = r1 := (Prod.mk.inj (Option.some.inj hf)).1
          have r9_1 : v_ga_23 = v_ga1 := (Prod.mk.inj (Prod.mk.inj (Option.some.inj hf)).2).1
          have r9_2 : v_h_24 = v_h1 := (Prod.mk.inj (Prod.mk.inj (Option.some.inj hf)).2).2
          exact W.zret (v := r_22) hx hb hr (nar_bool z9) (fun t ht hW => ⟨⟨r_22, (v_ga_23, v_h_24), rfl, ⟨r9_0, r9_1, r9_2⟩, by rw [ht]; exact hP9, va_K.moved hW.alike hK, hD9⟩, hS.F ht⟩) hS.2.2 dX5_readClause_134
        · replace hf := xi_f c_17 hf
          refine lv_aload_n hx hb dX5_readClause_118 rfl (lv_at hl 1 rfl) ?_
          refine lv_iload hx hb dX5_readClause_119 (lv_at hl 0 rfl) ?_
          replace hf := xb1_to hf
          obtain ⟨o_26, g_27, hf⟩ := hf
          have hPc := hP.sub (ws' := [(ga, .inr (5, [.ref ga1, .ref ga2, .ref ga3, .ref ga4, .ref ga5, .int (v_ga 0 0), .int (v_ga 0 1), .int (v_ga 0 2)])), (ga1, .inl (cI, 10, .inl (v_ga 1))), (ga2, .inl (cI, 10, .inl (v_ga 2))), (ga3, .inl (cI, 10, .inl (v_ga 3))), (ga4, .inl (cI, 10, .inl (v_ga 4))), (ga5, .inl (cI, 5, .inl (v_ga 5)))]) [0, 1, 2, 3, 4, 5] rfl
          have hDc := hD.sub (ws' := [(ga, .inr (5, [.ref ga1, .ref ga2, .ref ga3, .ref ga4, .ref ga5, .int (v_ga 0 0), .int (v_ga 0 1), .int (v_ga 0 2)])), (ga1, .inl (cI, 10, .inl (v_ga 1))), (ga2, .inl (cI, 10, .inl (v_ga 2))), (ga3, .inl (cI, 10, .inl (v_ga 3))), (ga4, .inl (cI, 10, .inl (v_ga 4))), (ga5, .inl (cI, 5, .inl (v_ga 5)))]) [0, 1, 2, 3, 4, 5] (by decide) rfl
          have hFc := va_free (wc := [(ga, .inr (5, [.ref ga1, .ref ga2, .ref ga3, .ref ga4, .ref ga5, .int (v_ga 0 0), .int (v_ga 0 1), .int (v_ga 0 2)])), (ga1, .inl (cI, 10, .inl (v_ga 1))), (ga2, .inl (cI, 10, .inl (v_ga 2))), (ga3, .inl (cI, 10, .inl (v_ga 3))), (ga4, .inl (cI, 10, .inl (v_ga 4))), (ga5, .inl (cI, 5, .inl (v_ga 5)))]) hD hS hA [0, 1, 2, 3, 4, 5] rfl
          refine va_callv (va_runV (As := [.int (v_h_4 0 5)]) (rest := []) ⟨hx, hb, hml, hown, hts⟩ (c_X5_addVariabley l dC dI cI cJ cB ga ga1 ga2 ga3 ga4 ga5 H.size v_ga (v_h_4 0 5) n9 o_26 g_27) (cwV 1 hts go_wo_X5_readClausey_5 rfl rfl rfl (by decide +kernel) ⟨Nat.le_of_ble_eq_true rfl, Nat.le_of_ble_eq_true rfl⟩) ⟨fun a U g mk q => by obtain ⟨q0, q1, qN, qP, qK, qD⟩ := q; exact ⟨q0, q1, NW.calling qN, qP, va_K.moved (u := U) (U := U.calling g mk a) (Vm.Alike.refl U.vm) qK, qD⟩, va_recv hK hPc (ci := 5) (q0 := 0) rfl rfl, fun U hU hW => ⟨rfl, by rw [hU], NW.warm hW hnw, by rw [hU]; exact hPc, va_K.moved hW.alike hK, hDc.weaken (fun _ _ _ _ => trivial)⟩⟩ rfl rfl hl.1 rfl (lv_room (Nat.le_of_ble_eq_true rfl)) dX5_readClause_121 ⟨Nat.zero_le _, Nat.zero_le _⟩) hS (fun q _ h => hFc q h) hFc (fun u t H1 locs ht hvm hw hB hz1 hk1 hS => ?_)
          obtain ⟨v_ga_29, rfl⟩ : ∃ z, z = u := ⟨_, rfl⟩
          obtain ⟨hP1, hK1, hD1⟩ := hB
          rw [ht] at hP1
          have hw : (v_ga_29 = o_26) := hw
          subst hw
          obtain ⟨hP, hD⟩ := va_join (wr := [(h, .inr (3, [.ref h1, .int (v_h_15 0 0), .int (v_h_15 0 1), .int (v_h_15 0 2), .int (v_h_15 0 3), .int (v_h_15 0 4), .int (v_h_15 0 5)])), (h1, .inl (cI, 400, .inl (v_h_15 1)))]) (w1 := [(ga, .inr (5, [.ref ga1, .ref ga2, .ref ga3, .ref ga4, .ref ga5, .int (v_ga_29 0 0), .int (v_ga_29 0 1), .int (v_ga_29 0 2)])), (ga1, .inl (cI, 10, .inl (v_ga_29 1))), (ga2, .inl (cI, 10, .inl (v_ga_29 2))), (ga3, .inl (cI, 10, .inl (v_ga_29 3))), (ga4, .inl (cI, 10, .inl (v_ga_29 4))), (ga5, .inl (cI, 5, .inl (v_ga_29 5)))]) hP hD [0, 1, 2, 3, 4, 5] [6, 7] rfl rfl (by decide) (by decide) hk1 hFc hP1 hD1
          generalize H1 = H at hP hS ⊢
          have hP : va_P (dC, dI) vwCl [(h, .inr (3, [.ref h1, .int (v_h_15 0 0), .int (v_h_15 0 1), .int (v_h_15 0 2), .int (v_h_15 0 3), .int (v_h_15 0 4), .int (v_h_15 0 5)])), (h1, .inl (cI, 400, .inl (v_h_15 1))), (ga, .inr (5, [.ref ga1, .ref ga2, .ref ga3, .ref ga4, .ref ga5, .int (v_ga_29 0 0), .int (v_ga_29 0 1), .int (v_ga_29 0 2)])), (ga1, .inl (cI, 10, .inl (v_ga_29 1))), (ga2, .inl (cI, 10, .inl (v_ga_29 2))), (ga3, .inl (cI, 10, .inl (v_ga_29 3))), (ga4, .inl (cI, 10, .inl (v_ga_29 4))), (ga5, .inl (cI, 5, .inl (v_ga_29 5)))] H := hP
          have hD : va_D (va_A (ww_X5_readClausey dC dI cI cJ cB ga ga1 ga2 ga3 ga4 ga5 h h1 s.heap.size v_ga0 v_h0 n9 r1 v_ga1 v_h1) s.heap.size) [(h, .inr (3, [.ref h1, .int (v_h_15 0 0), .int (v_h_15 0 1), .int (v_h_15 0 2), .int (v_h_15 0 3), .int (v_h_15 0 4), .int (v_h_15 0 5)])), (h1, .inl (cI, 400, .inl (v_h_15 1))), (ga, .inr (5, [.ref ga1, .ref ga2, .ref ga3, .ref ga4, .ref ga5, .int (v_ga_29 0 0), .int (v_ga_29 0 1), .int (v_ga_29 0 2)])), (ga1, .inl (cI, 10, .inl (v_ga_29 1))), (ga2, .inl (cI, 10, .inl (v_ga_29 2))), (ga3, .inl (cI, 10, .inl (v_ga_29 3))), (ga4, .inl (cI, 10, .inl (v_ga_29 4))), (ga5, .inl (cI, 5, .inl (v_ga_29 5)))] := hD
          clear hPc hDc hFc hP1 hK1 hD1 hk1 hz1 ht hvm g_27
          refine lv_iconst (v := 1) hx hb dX5_readClause_124 (by decide) ?_
          have hP9 := hP.sub (ws' := [(ga, .inr (5, [.ref ga1, .ref ga2, .ref ga3, .ref ga4, .ref ga5, .int (v_ga_29 0 0), .int (v_ga_29 0 1), .int (v_ga_29 0 2)])), (ga1, .inl (cI, 10, .inl (v_ga_29 1))), (ga2, .inl (cI, 10, .inl (v_ga_29 2))), (ga3, .inl (cI, 10, .inl (v_ga_29 3))), (ga4, .inl (cI, 10, .inl (v_ga_29 4))), (ga5, .inl (cI, 5, .inl (v_ga_29 5))), (h, .inr (3, [.ref h1, .int (v_h_15 0 0), .int (v_h_15 0 1), .int (v_h_15 0 2), .int (v_h_15 0 3), .int (v_h_15 0 4), .int (v_h_15 0 5)])), (h1, .inl (cI, 400, .inl (v_h_15 1)))]) [2, 3, 4, 5, 6, 7, 0, 1] rfl
          have hD9 := hD.sub (ws' := [(ga, .inr (5, [.ref ga1, .ref ga2, .ref ga3, .ref ga4, .ref ga5, .int (v_ga_29 0 0), .int (v_ga_29 0 1), .int (v_ga_29 0 2)])), (ga1, .inl (cI, 10, .inl (v_ga_29 1))), (ga2, .inl (cI, 10, .inl (v_ga_29 2))), (ga3, .inl (cI, 10, .inl (v_ga_29 3))), (ga4, .inl (cI, 10, .inl (v_ga_29 4))), (ga5, .inl (cI, 5, .inl (v_ga_29 5))), (h, .inr (3, [.ref h1, .int (v_h_15 0 0), .int (v_h_15 0 1), .int (v_h_15 0 2), .int (v_h_15 0 3), .int (v_h_15 0 4), .int (v_h_15 0 5)])), (h1, .inl (cI, 400, .inl (v_h_15 1)))]) [2, 3, 4, 5, 6, 7, 0, 1] (by decide) rfl
          have r9_0 : (1 : Int32) = r1 := (Prod.mk.inj (Option.some.inj hf)).1
          have r9_1 : v_ga_29 = v_ga1 := (Prod.mk.inj (Prod.mk.inj (Option.some.inj hf)).2).1
          have r9_2 : v_h_15 = v_h1 := (Prod.mk.inj (Prod.mk.inj (Option.some.inj hf)).2).2
          exact W.zret (v := (1 : Int32)) hx hb hr rfl (fun t ht hW => ⟨⟨(1 : Int32), (v_ga_29, v_h_15), rfl, ⟨r9_0, r9_1, r9_2⟩, by rw [ht]; exact hP9, va_K.moved hW.alike hK, hD9⟩, hS.F ht⟩) hS.2.2 dX5_readClause_125
      · replace hf := xi_t c_11 hf
        refine lv_iconst (v := 0) hx hb dX5_readClause_102 (by decide) ?_
        have hP9 := hP.sub (ws' := [(ga, .inr (5, [.ref ga1, .ref ga2, .ref ga3, .ref ga4, .ref ga5, .int (v_ga 0 0), .int (v_ga 0 1), .int (v_ga 0 2)])), (ga1, .inl (cI, 10, .inl (v_ga 1))), (ga2, .inl (cI, 10, .inl (v_ga 2))), (ga3, .inl (cI, 10, .inl (v_ga 3))), (ga4, .inl (cI, 10, .inl (v_ga 4))), (ga5, .inl (cI, 5, .inl (v_ga 5))), (h, .inr (3, [.ref h1, .int (v_h_4 0 0), .int (v_h_4 0 1), .int (v_h_4 0 2), .int (v_h_4 0 3), .int (v_h_4 0 4), .int (v_h_4 0 5)])), (h1, .inl (cI, 400, .inl (v_h_4 1)))]) [2, 3, 4, 5, 6, 7, 0, 1] rfl
        have hD9 := hD.sub (ws' := [(ga, .inr (5, [.ref ga1, .ref ga2, .ref ga3, .ref ga4, .ref ga5, .int (v_ga 0 0), .int (v_ga 0 1), .int (v_ga 0 2)])), (ga1, .inl (cI, 10, .inl (v_ga 1))), (ga2, .inl (cI, 10, .inl (v_ga 2))), (ga3, .inl (cI, 10, .inl (v_ga 3))), (ga4, .inl (cI, 10, .inl (v_ga 4))), (ga5, .inl (cI, 5, .inl (v_ga 5))), (h, .inr (3, [.ref h1, .int (v_h_4 0 0), .int (v_h_4 0 1), .int (v_h_4 0 2), .int (v_h_4 0 3), .int (v_h_4 0 4), .int (v_h_4 0 5)])), (h1, .inl (cI, 400, .inl (v_h_4 1)))]) [2, 3, 4, 5, 6, 7, 0, 1] (by decide) rfl
        have r9_0 : (0 : Int32) = r1 := (Prod.mk.inj (Option.some.inj hf)).1
        have r9_1 : v_ga = v_ga1 := (Prod.mk.inj (Prod.mk.inj (Option.some.inj hf)).2).1
        have r9_2 : v_h_4 = v_h1 := (Prod.mk.inj (Prod.mk.inj (Option.some.inj hf)).2).2
        exact W.zret (v := (0 : Int32)) hx hb hr rfl (fun t ht hW => ⟨⟨(0 : Int32), (v_ga, v_h_4), rfl, ⟨r9_0, r9_1, r9_2⟩, by rw [ht]; exact hP9, va_K.moved hW.alike hK, hD9⟩, hS.F ht⟩) hS.2.2 dX5_readClause_103
  have J_53 : ∀ (x2 : Int32) (x3 : Int32) (v_ga : Nat → Nat → Int32) (v_h : Nat → Nat → Int32), jx_X5_readClause_53 n9 x2 x3 v_ga v_h = some (r1, v_ga1, v_h1) → ∀ (H : Heap) (locs : List Loc), va_P (dC, dI) vwCl [(ga, .inr (5, [.ref ga1, .ref ga2, .ref ga3, .ref ga4, .ref ga5, .int (v_ga 0 0), .int (v_ga 0 1), .int (v_ga 0 2)])), (ga1, .inl (cI, 10, .inl (v_ga 1))), (ga2, .inl (cI, 10, .inl (v_ga 2))), (ga3, .inl (cI, 10, .inl (v_ga 3))), (ga4, .inl (cI, 10, .inl (v_ga 4))), (ga5, .inl (cI, 5, .inl (v_ga 5))), (h, .inr (3, [.ref h1, .int (v_h 0 0), .int (v_h 0 1), .int (v_h 0 2), .int (v_h 0 3), .int (v_h 0 4), .int (v_h 0 5)])), (h1, .inl (cI, 400, .inl (v_h 1)))] H → va_D (va_A (ww_X5_readClausey dC dI cI cJ cB ga ga1 ga2 ga3 ga4 ga5 h h1 s.heap.size v_ga0 v_h0 n9 r1 v_ga1 v_h1) s.heap.size) [(ga, .inr (5, [.ref ga1, .ref ga2, .ref ga3, .ref ga4, .ref ga5, .int (v_ga 0 0), .int (v_ga 0 1), .int (v_ga 0 2)])), (ga1, .inl (cI, 10, .inl (v_ga 1))), (ga2, .inl (cI, 10, .inl (v_ga 2))), (ga3, .inl (cI, 10, .inl (v_ga 3))), (ga4, .inl (cI, 10, .inl (v_ga 4))), (ga5, .inl (cI, 5, .inl (v_ga 5))), (h, .inr (3, [.ref h1, .int (v_h 0 0), .int (v_h 0 1), .int (v_h 0 2), .int (v_h 0 3), .int (v_h 0 4), .int (v_h 0 5)])), (h1, .inl (cI, 400, .inl (v_h 1)))] → va_S (va_A (ww_X5_readClausey dC dI cI cJ cB ga ga1 ga2 ga3 ga4 ga5 h h1 s.heap.size v_ga0 v_h0 n9 r1 v_ga1 v_h1) s.heap.size) s.heap H locs → ∀ ls : Array Slot, lv_has ls 5 [(0, .ref ga), (1, .ref h), (2, .int x2), (3, .int x3)] → WW_X5_readClausey p l e s m below meth c dC dI cI cJ cB ga ga1 ga2 ga3 ga4 ga5 h h1 s.heap.size v_ga0 v_h0 n9 r1 v_ga1 v_h1 H locs (F0 m 53 ls []) := by
    intro x2 x3 v_ga v_h hf H locs hP hD hS ls hl
    unfold jx_X5_readClause_53 at hf
    refine lv_iload_n hx hb dX5_readClause_53 rfl (lv_at hl 3 rfl) ?_
    refine lv_if_eq (tgt := 68) hx hb dX5_readClause_54 (by decide) (fun c_31 => ?_) (fun c_31 => ?_)
    · replace hf := xi_t c_31 hf
      refine lv_aload_n hx hb dX5_readClause_68 rfl (lv_at hl 0 rfl) ?_
      refine va_get (D := (dC, dI)) (ci := 5) (v := .int (v_ga 0 0)) (C := RX5) (T := TX5) (N := 8) hx hb hts kk4_ hown hK hP 0 rfl rfl 5 (by decide) kk3_ (fun _ h9 => h9) rfl dX5_readClause_69 ?_
      refine lv_bipush (v := 10) hx hb dX5_readClause_72 (by decide) ?_
      refine lv_icmp_lt (tgt := 79) hx hb dX5_readClause_74 (by decide) (fun c_32 => ?_) (fun c_32 => ?_)
      · replace hf := xi_t c_32 hf
        exact J_79 x2 x3 v_ga v_h hf _ _ (hP.sub [0, 1, 2, 3, 4, 5, 6, 7] rfl) (hD.sub [0, 1, 2, 3, 4, 5, 6, 7] (by decide) rfl) hS ls (lv_sub hl [0, 1, 2, 3] rfl)
      · replace hf := xi_f c_32 hf
        refine lv_iconst (v := 0) hx hb dX5_readClause_77 (by decide) ?_
        have hP9 := hP.sub (ws' := [(ga, .inr (5, [.ref ga1, .ref ga2, .ref ga3, .ref ga4, .ref ga5, .int (v_ga 0 0), .int (v_ga 0 1), .int (v_ga 0 2)])), (ga1, .inl (cI, 10, .inl (v_ga 1))), (ga2, .inl (cI, 10, .inl (v_ga 2))), (ga3, .inl (cI, 10, .inl (v_ga 3))), (ga4, .inl (cI, 10, .inl (v_ga 4))), (ga5, .inl (cI, 5, .inl (v_ga 5))), (h, .inr (3, [.ref h1, .int (v_h 0 0), .int (v_h 0 1), .int (v_h 0 2), .int (v_h 0 3), .int (v_h 0 4), .int (v_h 0 5)])), (h1, .inl (cI, 400, .inl (v_h 1)))]) [0, 1, 2, 3, 4, 5, 6, 7] rfl
        have hD9 := hD.sub (ws' := [(ga, .inr (5, [.ref ga1, .ref ga2, .ref ga3, .ref ga4, .ref ga5, .int (v_ga 0 0), .int (v_ga 0 1), .int (v_ga 0 2)])), (ga1, .inl (cI, 10, .inl (v_ga 1))), (ga2, .inl (cI, 10, .inl (v_ga 2))), (ga3, .inl (cI, 10, .inl (v_ga 3))), (ga4, .inl (cI, 10, .inl (v_ga 4))), (ga5, .inl (cI, 5, .inl (v_ga 5))), (h, .inr (3, [.ref h1, .int (v_h 0 0), .int (v_h 0 1), .int (v_h 0 2), .int (v_h 0 3), .int (v_h 0 4), .int (v_h 0 5)])), (h1, .inl (cI, 400, .inl (v_h 1)))]) [0, 1, 2, 3, 4, 5, 6, 7] (by decide) rfl
        have r9_0 : (0 : Int32) = r1 := (Prod.mk.inj (Option.some.inj hf)).1
        have r9_1 : v_ga = v_ga1 := (Prod.mk.inj (Prod.mk.inj (Option.some.inj hf)).2).1
        have r9_2 : v_h = v_h1 := (Prod.mk.inj (Prod.mk.inj (Option.some.inj hf)).2).2
        exact W.zret (v := (0 : Int32)) hx hb hr rfl (fun t ht hW => ⟨⟨(0 : Int32), (v_ga, v_h), rfl, ⟨r9_0, r9_1, r9_2⟩, by rw [ht]; exact hP9, va_K.moved hW.alike hK, hD9⟩, hS.F ht⟩) hS.2.2 dX5_readClause_78
    · replace hf := xi_f c_31 hf
      refine lv_aload_n hx hb dX5_readClause_57 rfl (lv_at hl 0 rfl) ?_
      refine va_get (D := (dC, dI)) (ci := 5) (v := .int (v_ga 0 1)) (C := RX5) (T := TX5) (N := 8) hx hb hts kk4_ hown hK hP 0 rfl rfl 6 (by decide) kk5_ (fun _ h9 => h9) rfl dX5_readClause_58 ?_
      refine lv_iconst (v := 5) hx hb dX5_readClause_61 (by decide) ?_
      refine lv_icmp_lt (tgt := 79) hx hb dX5_readClause_62 (by decide) (fun c_33 => ?_) (fun c_33 => ?_)
      · replace hf := xi_t c_33 hf
        exact J_79 x2 x3 v_ga v_h hf _ _ (hP.sub [0, 1, 2, 3, 4, 5, 6, 7] rfl) (hD.sub [0, 1, 2, 3, 4, 5, 6, 7] (by decide) rfl) hS ls (lv_sub hl [0, 1, 2, 3] rfl)
      · replace hf := xi_f c_33 hf
        refine lv_goto (tgt := 77) hx hb dX5_readClause_65 (by decide) ?_
        refine lv_iconst (v := 0) hx hb dX5_readClause_77 (by decide) ?_
        have hP9 := hP.sub (ws' := [(ga, .inr (5, [.ref ga1, .ref ga2, .ref ga3, .ref ga4, .ref ga5, .int (v_ga 0 0), .int (v_ga 0 1), .int (v_ga 0 2)])), (ga1, .inl (cI, 10, .inl (v_ga 1))), (ga2, .inl (cI, 10, .inl (v_ga 2))), (ga3, .inl (cI, 10, .inl (v_ga 3))), (ga4, .inl (cI, 10, .inl (v_ga 4))), (ga5, .inl (cI, 5, .inl (v_ga 5))), (h, .inr (3, [.ref h1, .int (v_h 0 0), .int (v_h 0 1), .int (v_h 0 2), .int (v_h 0 3), .int (v_h 0 4), .int (v_h 0 5)])), (h1, .inl (cI, 400, .inl (v_h 1)))]) [0, 1, 2, 3, 4, 5, 6, 7] rfl
        have hD9 := hD.sub (ws' := [(ga, .inr (5, [.ref ga1, .ref ga2, .ref ga3, .ref ga4, .ref ga5, .int (v_ga 0 0), .int (v_ga 0 1), .int (v_ga 0 2)])), (ga1, .inl (cI, 10, .inl (v_ga 1))), (ga2, .inl (cI, 10, .inl (v_ga 2))), (ga3, .inl (cI, 10, .inl (v_ga 3))), (ga4, .inl (cI, 10, .inl (v_ga 4))), (ga5, .inl (cI, 5, .inl (v_ga 5))), (h, .inr (3, [.ref h1, .int (v_h 0 0), .int (v_h 0 1), .int (v_h 0 2), .int (v_h 0 3), .int (v_h 0 4), .int (v_h 0 5)])), (h1, .inl (cI, 400, .inl (v_h 1)))]) [0, 1, 2, 3, 4, 5, 6, 7] (by decide) rfl
        have r9_0 : (0 : Int32) = r1 := (Prod.mk.inj (Option.some.inj hf)).1
        have r9_1 : v_ga = v_ga1 := (Prod.mk.inj (Prod.mk.inj (Option.some.inj hf)).2).1
        have r9_2 : v_h = v_h1 := (Prod.mk.inj (Prod.mk.inj (Option.some.inj hf)).2).2
        exact W.zret (v := (0 : Int32)) hx hb hr rfl (fun t ht hW => ⟨⟨(0 : Int32), (v_ga, v_h), rfl, ⟨r9_0, r9_1, r9_2⟩, by rw [ht]; exact hP9, va_K.moved hW.alike hK, hD9⟩, hS.F ht⟩) hS.2.2 dX5_readClause_78
  have J_29 : ∀ (x2 : Int32) (z0 : Int32) (v_ga : Nat → Nat → Int32) (v_h : Nat → Nat → Int32), jx_X5_readClause_29 n9 x2 z0 v_ga v_h = some (r1, v_ga1, v_h1) → ∀ (H : Heap) (locs : List Loc), va_P (dC, dI) vwCl [(ga, .inr (5, [.ref ga1, .ref ga2, .ref ga3, .ref ga4, .ref ga5, .int (v_ga 0 0), .int (v_ga 0 1), .int (v_ga 0 2)])), (ga1, .inl (cI, 10, .inl (v_ga 1))), (ga2, .inl (cI, 10, .inl (v_ga 2))), (ga3, .inl (cI, 10, .inl (v_ga 3))), (ga4, .inl (cI, 10, .inl (v_ga 4))), (ga5, .inl (cI, 5, .inl (v_ga 5))), (h, .inr (3, [.ref h1, .int (v_h 0 0), .int (v_h 0 1), .int (v_h 0 2), .int (v_h 0 3), .int (v_h 0 4), .int (v_h 0 5)])), (h1, .inl (cI, 400, .inl (v_h 1)))] H → va_D (va_A (ww_X5_readClausey dC dI cI cJ cB ga ga1 ga2 ga3 ga4 ga5 h h1 s.heap.size v_ga0 v_h0 n9 r1 v_ga1 v_h1) s.heap.size) [(ga, .inr (5, [.ref ga1, .ref ga2, .ref ga3, .ref ga4, .ref ga5, .int (v_ga 0 0), .int (v_ga 0 1), .int (v_ga 0 2)])), (ga1, .inl (cI, 10, .inl (v_ga 1))), (ga2, .inl (cI, 10, .inl (v_ga 2))), (ga3, .inl (cI, 10, .inl (v_ga 3))), (ga4, .inl (cI, 10, .inl (v_ga 4))), (ga5, .inl (cI, 5, .inl (v_ga 5))), (h, .inr (3, [.ref h1, .int (v_h 0 0), .int (v_h 0 1), .int (v_h 0 2), .int (v_h 0 3), .int (v_h 0 4), .int (v_h 0 5)])), (h1, .inl (cI, 400, .inl (v_h 1)))] → va_S (va_A (ww_X5_readClausey dC dI cI cJ cB ga ga1 ga2 ga3 ga4 ga5 h h1 s.heap.size v_ga0 v_h0 n9 r1 v_ga1 v_h1) s.heap.size) s.heap H locs → ∀ ls : Array Slot, lv_has ls 5 [(0, .ref ga), (1, .ref h), (2, .int x2)] → WW_X5_readClausey p l e s m below meth c dC dI cI cJ cB ga ga1 ga2 ga3 ga4 ga5 h h1 s.heap.size v_ga0 v_h0 n9 r1 v_ga1 v_h1 H locs (F0 m 29 ls [.int z0]) := by
    intro x2 z0 v_ga v_h hf H locs hP hD hS ls hl
    unfold jx_X5_readClause_29 at hf
    refine lv_istore_n (lv' := [(3, .int z0), (0, .ref ga), (1, .ref h), (2, .int x2)]) hx hb dX5_readClause_29 rfl hl (by decide) rfl (fun ls hl => ?_)
    refine lv_iload_n hx hb dX5_readClause_30 rfl (lv_at hl 0 rfl) ?_
    refine lv_if_ne (tgt := 53) hx hb dX5_readClause_31 (by decide) (fun c_34 => ?_) (fun c_34 => ?_)
    · replace hf := xi_f c_34 hf
      exact J_53 x2 z0 v_ga v_h hf _ _ (hP.sub [0, 1, 2, 3, 4, 5, 6, 7] rfl) (hD.sub [0, 1, 2, 3, 4, 5, 6, 7] (by decide) rfl) hS ls (lv_sub hl [1, 2, 3, 0] rfl)
    · replace hf := xi_t c_34 hf
      refine lv_iload_n hx hb dX5_readClause_34 rfl (lv_at hl 3 rfl) ?_
      refine lv_ldc (v := 215205) hx hb hown kk6_ dX5_readClause_35 ?_
      refine lv_icmp_eq (tgt := 53) hx hb dX5_readClause_37 (by decide) (fun c_35 => ?_) (fun c_35 => ?_)
      · replace hf := xi_t c_35 hf
        exact J_53 x2 z0 v_ga v_h hf _ _ (hP.sub [0, 1, 2, 3, 4, 5, 6, 7] rfl) (hD.sub [0, 1, 2, 3, 4, 5, 6, 7] (by decide) rfl) hS ls (lv_sub hl [1, 2, 3, 0] rfl)
      · replace hf := xi_f c_35 hf
        refine lv_iload_n hx hb dX5_readClause_40 rfl (lv_at hl 3 rfl) ?_
        refine lv_iconst (v := 3) hx hb dX5_readClause_41 (by decide) ?_
        refine lv_icmp_eq (tgt := 53) hx hb dX5_readClause_42 (by decide) (fun c_36 => ?_) (fun c_36 => ?_)
        · replace hf := xi_t c_36 hf
          exact J_53 x2 z0 v_ga v_h hf _ _ (hP.sub [0, 1, 2, 3, 4, 5, 6, 7] rfl) (hD.sub [0, 1, 2, 3, 4, 5, 6, 7] (by decide) rfl) hS ls (lv_sub hl [1, 2, 3, 0] rfl)
        · replace hf := xi_f c_36 hf
          refine lv_iload_n hx hb dX5_readClause_45 rfl (lv_at hl 3 rfl) ?_
          refine lv_bipush (v := 35) hx hb dX5_readClause_46 (by decide) ?_
          refine lv_icmp_eq (tgt := 53) hx hb dX5_readClause_48 (by decide) (fun c_37 => ?_) (fun c_37 => ?_)
          · replace hf := xi_t c_37 hf
            exact J_53 x2 z0 v_ga v_h hf _ _ (hP.sub [0, 1, 2, 3, 4, 5, 6, 7] rfl) (hD.sub [0, 1, 2, 3, 4, 5, 6, 7] (by decide) rfl) hS ls (lv_sub hl [1, 2, 3, 0] rfl)
          · replace hf := xi_f c_37 hf
            refine lv_iconst (v := 0) hx hb dX5_readClause_51 (by decide) ?_
            have hP9 := hP.sub (ws' := [(ga, .inr (5, [.ref ga1, .ref ga2, .ref ga3, .ref ga4, .ref ga5, .int (v_ga 0 0), .int (v_ga 0 1), .int (v_ga 0 2)])), (ga1, .inl (cI, 10, .inl (v_ga 1))), (ga2, .inl (cI, 10, .inl (v_ga 2))), (ga3, .inl (cI, 10, .inl (v_ga 3))), (ga4, .inl (cI, 10, .inl (v_ga 4))), (ga5, .inl (cI, 5, .inl (v_ga 5))), (h, .inr (3, [.ref h1, .int (v_h 0 0), .int (v_h 0 1), .int (v_h 0 2), .int (v_h 0 3), .int (v_h 0 4), .int (v_h 0 5)])), (h1, .inl (cI, 400, .inl (v_h 1)))]) [0, 1, 2, 3, 4, 5, 6, 7] rfl
            have hD9 := hD.sub (ws' := [(ga, .inr (5, [.ref ga1, .ref ga2, .ref ga3, .ref ga4, .ref ga5, .int (v_ga 0 0), .int (v_ga 0 1), .int (v_ga 0 2)])), (ga1, .inl (cI, 10, .inl (v_ga 1))), (ga2, .inl (cI, 10, .inl (v_ga 2))), (ga3, .inl (cI, 10, .inl (v_ga 3))), (ga4, .inl (cI, 10, .inl (v_ga 4))), (ga5, .inl (cI, 5, .inl (v_ga 5))), (h, .inr (3, [.ref h1, .int (v_h 0 0), .int (v_h 0 1), .int (v_h 0 2), .int (v_h 0 3), .int (v_h 0 4), .int (v_h 0 5)])), (h1, .inl (cI, 400, .inl (v_h 1)))]) [0, 1, 2, 3, 4, 5, 6, 7] (by decide) rfl
            have r9_0 : (0 : Int32) = r1 := (Prod.mk.inj (Option.some.inj hf)).1
            have r9_1 : v_ga = v_ga1 := (Prod.mk.inj (Prod.mk.inj (Option.some.inj hf)).2).1
            have r9_2 : v_h = v_h1 := (Prod.mk.inj (Prod.mk.inj (Option.some.inj hf)).2).2
            exact W.zret (v := (0 : Int32)) hx hb hr rfl (fun t ht hW => ⟨⟨(0 : Int32), (v_ga, v_h), rfl, ⟨r9_0, r9_1, r9_2⟩, by rw [ht]; exact hP9, va_K.moved hW.alike hK, hD9⟩, hS.F ht⟩) hS.2.2 dX5_readClause_52
  refine lv_aload_n hx hb dX5_readClause_0 rfl (lv_at hl 1 rfl) ?_
  refine va_getN (D := (dC, dI)) (ci := 3) (v := .int (v_h0 0 3)) (C := RX3) (T := TX3) (N := 7) hx hb hts kk1_ hown hK hP 6 rfl rfl 4 (by decide) kk0_ (fun _ h9 => h9) rfl dX5_readClause_1 ?_
  refine lv_iconst (v := 1) hx hb dX5_readClause_4 (by decide) ?_
  refine lv_icmp_ne (tgt := 15) hx hb dX5_readClause_5 (by decide) (fun c_38 => ?_) (fun c_38 => ?_)
  · replace hf := xi_f c_38 hf
    refine lv_iconst (v := 0) hx hb dX5_readClause_15 (by decide) ?_
    refine lv_istore_n (lv' := [(2, .int ((0 : Int32))), (0, .ref ga), (1, .ref h)]) hx hb dX5_readClause_16 rfl hl (by decide) rfl (fun ls hl => ?_)
    refine lv_iload_n hx hb dX5_readClause_17 rfl (lv_at hl 0 rfl) ?_
    refine lv_sipush (v := 22578) hx hb dX5_readClause_18 (by decide) ?_
    refine lv_icmp_ne (tgt := 28) hx hb dX5_readClause_21 (by decide) (fun _ => ?_) (fun c_39 => absurd c_39 (by decide))
    refine lv_iconst (v := 0) hx hb dX5_readClause_28 (by decide) ?_
    exact J_29 ((0 : Int32)) ((0 : Int32)) v_ga0 v_h0 hf _ _ (hP.sub [0, 1, 2, 3, 4, 5, 6, 7] rfl) (hD.sub [0, 1, 2, 3, 4, 5, 6, 7] (by decide) rfl) hS ls (lv_sub hl [1, 2, 0] rfl)
  · replace hf := xi_t c_38 hf
    refine lv_aload_n hx hb dX5_readClause_8 rfl (lv_at hl 1 rfl) ?_
    refine va_getN (D := (dC, dI)) (ci := 3) (v := .int (v_h0 0 5)) (C := RX3) (T := TX3) (N := 7) hx hb hts kk1_ hown hK hP 6 rfl rfl 6 (by decide) kk2_ (fun _ h9 => h9) rfl dX5_readClause_9 ?_
    refine lv_goto (tgt := 16) hx hb dX5_readClause_12 (by decide) ?_
    refine lv_istore_n (lv' := [(2, .int (v_h0 0 5)), (0, .ref ga), (1, .ref h)]) hx hb dX5_readClause_16 rfl hl (by decide) rfl (fun ls hl => ?_)
    refine lv_iload_n hx hb dX5_readClause_17 rfl (lv_at hl 0 rfl) ?_
    refine lv_sipush (v := 22578) hx hb dX5_readClause_18 (by decide) ?_
    refine lv_icmp_ne (tgt := 28) hx hb dX5_readClause_21 (by decide) (fun c_40 => ?_) (fun c_40 => ?_)
    · replace hf := xi_f c_40 hf
      refine lv_iconst (v := 0) hx hb dX5_readClause_28 (by decide) ?_
      exact J_29 (v_h0 0 5) ((0 : Int32)) v_ga0 v_h0 hf _ _ (hP.sub [0, 1, 2, 3, 4, 5, 6, 7] rfl) (hD.sub [0, 1, 2, 3, 4, 5, 6, 7] (by decide) rfl) hS ls (lv_sub hl [1, 2, 0] rfl)
    · replace hf := xi_t c_40 hf
      refine lv_iconst (v := 1) hx hb dX5_readClause_24 (by decide) ?_
      refine lv_goto (tgt := 29) hx hb dX5_readClause_25 (by decide) ?_
      exact J_29 (v_h0 0 5) ((1 : Int32)) v_ga0 v_h0 hf _ _ (hP.sub [0, 1, 2, 3, 4, 5, 6, 7] rfl) (hD.sub [0, 1, 2, 3, 4, 5, 6, 7] (by decide) rfl) hS ls (lv_sub hl [1, 2, 0] rfl)
def wo_X5_ready : List Cond := .code yX5_read cX5_read 3 (some .boolean) :: (([.fieldLink RX5 33 "SumRewriter$Signature" "operators" "I", .fieldLink RX5 37 "SumRewriter$Signature" "variables" "I", .fieldLink RX5 40 "SumRewriter$Signature" "lastingBits" "I"] : List Cond) ++ ((wsX30) ++ ((wsX50) ++ ((wsV RX5 48 RX5 yX5_readClause wo_X5_readClausey) ++ ((wsV RX5 52 RX3 yX3_isSign wo_X3_isSigny) ++ ((wsV RX5 56 RX3 yX3_advance wo_X3_advancey)))))))
set_option maxRecDepth 20000 in
theorem go_wo_X5_ready_2 : GoodIn wo_X5_ready (wsV RX5 48 RX5 yX5_readClause wo_X5_readClausey) := goodIn_sub (fun _ h => (List.mem_cons_of_mem _ (List.mem_append_right _ (List.mem_append_right _ (List.mem_append_right _ (List.mem_append_left _ h)))))) (by decide +kernel)
set_option maxRecDepth 20000 in
theorem go_wo_X5_ready_3 : GoodIn wo_X5_ready (wsV RX5 52 RX3 yX3_isSign wo_X3_isSigny) := goodIn_sub (fun _ h => (List.mem_cons_of_mem _ (List.mem_append_right _ (List.mem_append_right _ (List.mem_append_right _ (List.mem_append_right _ (List.mem_append_left _ h))))))) (by decide +kernel)
set_option maxRecDepth 20000 in
theorem go_wo_X5_ready_4 : GoodIn wo_X5_ready (wsV RX5 56 RX3 yX3_advance wo_X3_advancey) := goodIn_sub (fun _ h => (List.mem_cons_of_mem _ (List.mem_append_right _ (List.mem_append_right _ (List.mem_append_right _ (List.mem_append_right _ (List.mem_append_right _ h))))))) (by decide +kernel)
abbrev ww_X5_ready (dC : Nat → ClassId) (dI : Nat → Nat → Nat) (cI cJ cB : ClassId) (ga ga1 ga2 ga3 ga4 ga5 h h1 : Nat) (sz : Nat) (v_ga0 : Nat → Nat → Int32) (v_h0 : Nat → Nat → Int32) (n9 : Nat) (r1 : Int32) (v_ga1 : Nat → Nat → Int32) (v_h1 : Nat → Nat → Int32) : va_W := [(ga, .inr (5, [.ref ga1, .ref ga2, .ref ga3, .ref ga4, .ref ga5, .int (v_ga0 0 0), .int (v_ga0 0 1), .int (v_ga0 0 2)])), (ga1, .inl (cI, 10, .inl (v_ga0 1))), (ga2, .inl (cI, 10, .inl (v_ga0 2))), (ga3, .inl (cI, 10, .inl (v_ga0 3))), (ga4, .inl (cI, 10, .inl (v_ga0 4))), (ga5, .inl (cI, 5, .inl (v_ga0 5))), (h, .inr (3, [.ref h1, .int (v_h0 0 0), .int (v_h0 0 1), .int (v_h0 0 2), .int (v_h0 0 3), .int (v_h0 0 4), .int (v_h0 0 5)])), (h1, .inl (cI, 400, .inl (v_h0 1)))]
abbrev at_X5_ready (dC : Nat → ClassId) (dI : Nat → Nat → Nat) (cI cJ cB : ClassId) (ga ga1 ga2 ga3 ga4 ga5 h h1 : Nat) (sz : Nat) (v_ga0 : Nat → Nat → Int32) (v_h0 : Nat → Nat → Int32) (n9 : Nat) (r1 : Int32) (v_ga1 : Nat → Nat → Int32) (v_h1 : Nat → Nat → Int32) (u : (Nat → Nat → Int32) × (Nat → Nat → Int32)) (t : State) : Prop := match u with
  | (v_ga, v_h) => va_P (dC, dI) vwCl [(ga, .inr (5, [.ref ga1, .ref ga2, .ref ga3, .ref ga4, .ref ga5, .int (v_ga 0 0), .int (v_ga 0 1), .int (v_ga 0 2)])), (ga1, .inl (cI, 10, .inl (v_ga 1))), (ga2, .inl (cI, 10, .inl (v_ga 2))), (ga3, .inl (cI, 10, .inl (v_ga 3))), (ga4, .inl (cI, 10, .inl (v_ga 4))), (ga5, .inl (cI, 5, .inl (v_ga 5))), (h, .inr (3, [.ref h1, .int (v_h 0 0), .int (v_h 0 1), .int (v_h 0 2), .int (v_h 0 3), .int (v_h 0 4), .int (v_h 0 5)])), (h1, .inl (cI, 400, .inl (v_h 1)))] t.heap ∧ va_K (dC, dI) vwCl (tyL cI cJ cB) t ∧ va_D (va_A (ww_X5_ready dC dI cI cJ cB ga ga1 ga2 ga3 ga4 ga5 h h1 sz v_ga0 v_h0 n9 r1 v_ga1 v_h1) sz) [(ga, .inr (5, [.ref ga1, .ref ga2, .ref ga3, .ref ga4, .ref ga5, .int (v_ga 0 0), .int (v_ga 0 1), .int (v_ga 0 2)])), (ga1, .inl (cI, 10, .inl (v_ga 1))), (ga2, .inl (cI, 10, .inl (v_ga 2))), (ga3, .inl (cI, 10, .inl (v_ga 3))), (ga4, .inl (cI, 10, .inl (v_ga 4))), (ga5, .inl (cI, 5, .inl (v_ga 5))), (h, .inr (3, [.ref h1, .int (v_h 0 0), .int (v_h 0 1), .int (v_h 0 2), .int (v_h 0 3), .int (v_h 0 4), .int (v_h 0 5)])), (h1, .inl (cI, 400, .inl (v_h 1)))]
abbrev qc_X5_ready (dC : Nat → ClassId) (dI : Nat → Nat → Nat) (cI cJ cB : ClassId) (ga ga1 ga2 ga3 ga4 ga5 h h1 : Nat) (sz : Nat) (v_ga0 : Nat → Nat → Int32) (v_h0 : Nat → Nat → Int32) (n9 : Nat) (r1 : Int32) (v_ga1 : Nat → Nat → Int32) (v_h1 : Nat → Nat → Int32) : Array Value → State → Outcome → State → Prop := va_Qi (fun (r : Int32) (u : (Nat → Nat → Int32) × (Nat → Nat → Int32)) => match u with | (v_ga, v_h) => (r = r1) ∧ (v_ga = v_ga1) ∧ (v_h = v_h1)) (at_X5_ready dC dI cI cJ cB ga ga1 ga2 ga3 ga4 ga5 h h1 sz v_ga0 v_h0 n9 r1 v_ga1 v_h1) (va_A (ww_X5_ready dC dI cI cJ cB ga ga1 ga2 ga3 ga4 ga5 h h1 sz v_ga0 v_h0 n9 r1 v_ga1 v_h1) sz)
abbrev pc_X5_ready (dC : Nat → ClassId) (dI : Nat → Nat → Nat) (cI cJ cB : ClassId) (ga ga1 ga2 ga3 ga4 ga5 h h1 : Nat) (sz : Nat) (v_ga0 : Nat → Nat → Int32) (v_h0 : Nat → Nat → Int32) (n9 : Nat) (r1 : Int32) (v_ga1 : Nat → Nat → Int32) (v_h1 : Nat → Nat → Int32) : Array Value → State → Prop := va_Pc [.ref ga, .ref h] (fun U => U.heap.size = sz ∧ NW U ∧ va_P (dC, dI) vwCl (ww_X5_ready dC dI cI cJ cB ga ga1 ga2 ga3 ga4 ga5 h h1 sz v_ga0 v_h0 n9 r1 v_ga1 v_h1) U.heap ∧ va_K (dC, dI) vwCl (tyL cI cJ cB) U ∧ va_D (fun _ => True) (ww_X5_ready dC dI cI cJ cB ga ga1 ga2 ga3 ga4 ga5 h h1 sz v_ga0 v_h0 n9 r1 v_ga1 v_h1))
abbrev rm_X5_ready : Room := { frames := 5, cells := 0, slots := 0, locals := 112 }
abbrev WW_X5_ready (p : Program) (l : Launch) (e : Env) (s : State) (m : MethodId) (below : List Frame) (meth : Method) (c : Code) (dC : Nat → ClassId) (dI : Nat → Nat → Nat) (cI cJ cB : ClassId) (ga ga1 ga2 ga3 ga4 ga5 h h1 : Nat) (sz : Nat) (v_ga0 : Nat → Nat → Int32) (v_h0 : Nat → Nat → Int32) (n9 : Nat) (r1 : Int32) (v_ga1 : Nat → Nat → Int32) (v_h1 : Nat → Nat → Int32) (H : Heap) (locs : List Loc) (g : JFrame) : Prop := W p l e rm_X5_ready s m ([.ref ga, .ref h] : List Value).toArray below meth c H locs 0 0 (MQ below (qc_X5_ready dC dI cI cJ cB ga ga1 ga2 ga3 ga4 ga5 h h1 sz v_ga0 v_h0 n9 r1 v_ga1 v_h1) ([.ref ga, .ref h] : List Value).toArray s 0 0 (va_A (ww_X5_ready dC dI cI cJ cB ga ga1 ga2 ga3 ga4 ga5 h h1 sz v_ga0 v_h0 n9 r1 v_ga1 v_h1) sz)) g
set_option maxHeartbeats 4000000 in
set_option maxRecDepth 100000 in
theorem c_X5_ready (l : Launch) (dC : Nat → ClassId) (dI : Nat → Nat → Nat) (cI cJ cB : ClassId) (ga ga1 ga2 ga3 ga4 ga5 h h1 : Nat) (sz : Nat) (v_ga0 : Nat → Nat → Int32) (v_h0 : Nat → Nat → Int32) (n9 : Nat) (r1 : Int32) (v_ga1 : Nat → Nat → Int32) (v_h1 : Nat → Nat → Int32) (hf : fx_X5_read n9 v_ga0 v_h0  = some (r1, v_ga1, v_h1)) : Met l yX5_read wo_X5_ready rm_X5_ready (pc_X5_ready dC dI cI cJ cB ga ga1 ga2 ga3 ga4 ga5 h h1 sz v_ga0 v_h0 n9 r1 v_ga1 v_h1) (qc_X5_ready dC dI cI cJ cB ga ga1 ga2 ga3 ga4 ga5 h h1 sz v_ga0 v_h0 n9 r1 v_ga1 v_h1) 0 0 (va_A (ww_X5_ready dC dI cI cJ cB ga ga1 ga2 ga3 ga4 ga5 h h1 sz v_ga0 v_h0 n9 r1 v_ga1 v_h1) sz) := by
  unfold fx_X5_read at hf
  refine Met.ofW (cc := cX5_read) (maxL := 3) (ret := (some .boolean)) (by decide) rfl ?_
  intro p e s m args below meth c s₁ B hml hv
  obtain ⟨rfl, hsz, hnw, hP, hK, hD0⟩ := hv
  have hx := B.exec
  have hb := B.bytes
  have hr := B.returns
  have hts := atoms_spec (ws := wo_X5_ready) B.pre
  have hown : s.vm.findClass RX5 = some m.cls := findClass_of_methodNamed B.named
  have hlocks := B.notSynchronized
  clear B
  subst hsz
  have hD := hD0.self (sz := s.heap.size)
  clear hD0
  have kk0_ : (Cond.fieldLinkNest RX5 43 "SumRewriter$Scanner" "sort" "I" "SumRewriter").before ([.ref ga, .ref h] : List Value).toArray s = true := va_Nw.use rfl (hnw _ (by decide +kernel))
  have kk1_ : ∀ w ∈ wsX30, w ∈ wo_X5_ready := fun _ h => (List.mem_cons_of_mem _ (List.mem_append_right _ (List.mem_append_left _ h)))
  have kk2_ := hts (.fieldLink RX5 33 "SumRewriter$Signature" "operators" "I") (by decide +kernel)
  have kk3_ : ∀ w ∈ wsX50, w ∈ wo_X5_ready := fun _ h => (List.mem_cons_of_mem _ (List.mem_append_right _ (List.mem_append_right _ (List.mem_append_left _ h))))
  have kk4_ := hts (.fieldLink RX5 37 "SumRewriter$Signature" "variables" "I") (by decide +kernel)
  have kk5_ := hts (.fieldLink RX5 40 "SumRewriter$Signature" "lastingBits" "I") (by decide +kernel)
  have hA : ∀ q : Nat, s.heap.size ≤ q → (va_A (ww_X5_ready dC dI cI cJ cB ga ga1 ga2 ga3 ga4 ga5 h h1 s.heap.size v_ga0 v_h0 n9 r1 v_ga1 v_h1) s.heap.size) q := fun q h => Or.inr h
  have hS : va_S (va_A (ww_X5_ready dC dI cI cJ cB ga ga1 ga2 ga3 ga4 ga5 h h1 s.heap.size v_ga0 v_h0 n9 r1 v_ga1 v_h1) s.heap.size) s.heap s.heap [] := va_S.rf
  have hl := lv_entry ([.ref ga, .ref h]) (n := 3) (Nat.le_of_ble_eq_true rfl)
  rw [lg_entry_eq]
  generalize (lg_sl ([.ref ga, .ref h]) ++ List.replicate (3 - (lg_sl ([.ref ga, .ref h])).length) Slot.unset).toArray = ls at hl ⊢
  have hl : lv_has ls 3 [(0, .ref ga), (1, .ref h)] := hl
  have hP : va_P (dC, dI) vwCl [(ga, .inr (5, [.ref ga1, .ref ga2, .ref ga3, .ref ga4, .ref ga5, .int (v_ga0 0 0), .int (v_ga0 0 1), .int (v_ga0 0 2)])), (ga1, .inl (cI, 10, .inl (v_ga0 1))), (ga2, .inl (cI, 10, .inl (v_ga0 2))), (ga3, .inl (cI, 10, .inl (v_ga0 3))), (ga4, .inl (cI, 10, .inl (v_ga0 4))), (ga5, .inl (cI, 5, .inl (v_ga0 5))), (h, .inr (3, [.ref h1, .int (v_h0 0 0), .int (v_h0 0 1), .int (v_h0 0 2), .int (v_h0 0 3), .int (v_h0 0 4), .int (v_h0 0 5)])), (h1, .inl (cI, 400, .inl (v_h0 1)))] s.heap := hP
  have hD : va_D (va_A (ww_X5_ready dC dI cI cJ cB ga ga1 ga2 ga3 ga4 ga5 h h1 s.heap.size v_ga0 v_h0 n9 r1 v_ga1 v_h1) s.heap.size) [(ga, .inr (5, [.ref ga1, .ref ga2, .ref ga3, .ref ga4, .ref ga5, .int (v_ga0 0 0), .int (v_ga0 0 1), .int (v_ga0 0 2)])), (ga1, .inl (cI, 10, .inl (v_ga0 1))), (ga2, .inl (cI, 10, .inl (v_ga0 2))), (ga3, .inl (cI, 10, .inl (v_ga0 3))), (ga4, .inl (cI, 10, .inl (v_ga0 4))), (ga5, .inl (cI, 5, .inl (v_ga0 5))), (h, .inr (3, [.ref h1, .int (v_h0 0 0), .int (v_h0 0 1), .int (v_h0 0 2), .int (v_h0 0 3), .int (v_h0 0 4), .int (v_h0 0 5)])), (h1, .inl (cI, 400, .inl (v_h0 1)))] := hD
  obtain ⟨H, hH⟩ : ∃ H, H = s.heap := ⟨_, rfl⟩
  obtain ⟨locs, hlc⟩ : ∃ L : List Loc, L = [] := ⟨_, rfl⟩
  have hS : va_S (va_A (ww_X5_ready dC dI cI cJ cB ga ga1 ga2 ga3 ga4 ga5 h h1 s.heap.size v_ga0 v_h0 n9 r1 v_ga1 v_h1) s.heap.size) s.heap H locs := by rw [hH, hlc]; exact hS
  have hP : va_P (dC, dI) vwCl [(ga, .inr (5, [.ref ga1, .ref ga2, .ref ga3, .ref ga4, .ref ga5, .int (v_ga0 0 0), .int (v_ga0 0 1), .int (v_ga0 0 2)])), (ga1, .inl (cI, 10, .inl (v_ga0 1))), (ga2, .inl (cI, 10, .inl (v_ga0 2))), (ga3, .inl (cI, 10, .inl (v_ga0 3))), (ga4, .inl (cI, 10, .inl (v_ga0 4))), (ga5, .inl (cI, 5, .inl (v_ga0 5))), (h, .inr (3, [.ref h1, .int (v_h0 0 0), .int (v_h0 0 1), .int (v_h0 0 2), .int (v_h0 0 3), .int (v_h0 0 4), .int (v_h0 0 5)])), (h1, .inl (cI, 400, .inl (v_h0 1)))] H := by rw [hH]; exact hP
  suffices hgo : WW_X5_ready p l e s m below meth c dC dI cI cJ cB ga ga1 ga2 ga3 ga4 ga5 h h1 s.heap.size v_ga0 v_h0 n9 r1 v_ga1 v_h1 H locs (F0 m 0 ls []) by rw [hH, hlc] at hgo; exact hgo
  clear hH hlc
  have L_18 : ∀ (N_18 : Nat), ∀ (x2 : Int32) (v_ga : Nat → Nat → Int32) (v_h : Nat → Nat → Int32), lx_X5_read_18 n9 N_18 x2 v_ga v_h = some (r1, v_ga1, v_h1) → ∀ (H : Heap) (locs : List Loc), va_P (dC, dI) vwCl [(ga, .inr (5, [.ref ga1, .ref ga2, .ref ga3, .ref ga4, .ref ga5, .int (v_ga 0 0), .int (v_ga 0 1), .int (v_ga 0 2)])), (ga1, .inl (cI, 10, .inl (v_ga 1))), (ga2, .inl (cI, 10, .inl (v_ga 2))), (ga3, .inl (cI, 10, .inl (v_ga 3))), (ga4, .inl (cI, 10, .inl (v_ga 4))), (ga5, .inl (cI, 5, .inl (v_ga 5))), (h, .inr (3, [.ref h1, .int (v_h 0 0), .int (v_h 0 1), .int (v_h 0 2), .int (v_h 0 3), .int (v_h 0 4), .int (v_h 0 5)])), (h1, .inl (cI, 400, .inl (v_h 1)))] H → va_D (va_A (ww_X5_ready dC dI cI cJ cB ga ga1 ga2 ga3 ga4 ga5 h h1 s.heap.size v_ga0 v_h0 n9 r1 v_ga1 v_h1) s.heap.size) [(ga, .inr (5, [.ref ga1, .ref ga2, .ref ga3, .ref ga4, .ref ga5, .int (v_ga 0 0), .int (v_ga 0 1), .int (v_ga 0 2)])), (ga1, .inl (cI, 10, .inl (v_ga 1))), (ga2, .inl (cI, 10, .inl (v_ga 2))), (ga3, .inl (cI, 10, .inl (v_ga 3))), (ga4, .inl (cI, 10, .inl (v_ga 4))), (ga5, .inl (cI, 5, .inl (v_ga 5))), (h, .inr (3, [.ref h1, .int (v_h 0 0), .int (v_h 0 1), .int (v_h 0 2), .int (v_h 0 3), .int (v_h 0 4), .int (v_h 0 5)])), (h1, .inl (cI, 400, .inl (v_h 1)))] → va_S (va_A (ww_X5_ready dC dI cI cJ cB ga ga1 ga2 ga3 ga4 ga5 h h1 s.heap.size v_ga0 v_h0 n9 r1 v_ga1 v_h1) s.heap.size) s.heap H locs → ∀ ls : Array Slot, lv_has ls 3 [(0, .ref ga), (1, .ref h), (2, .int x2)] → WW_X5_ready p l e s m below meth c dC dI cI cJ cB ga ga1 ga2 ga3 ga4 ga5 h h1 s.heap.size v_ga0 v_h0 n9 r1 v_ga1 v_h1 H locs (F0 m 18 ls []) := by
    intro N_18
    induction N_18 with
    | zero => intro x2 v_ga v_h hf; exact xn_to hf
    | succ N_18 ih_18 =>
      intro x2 v_ga v_h hf H locs hP hD hS ls hl
      replace hf : bx_X5_read_18 n9 (lx_X5_read_18 n9 N_18) x2 v_ga v_h = some (r1, v_ga1, v_h1) := hf
      generalize lx_X5_read_18 n9 N_18 = k_18 at hf ih_18
      unfold bx_X5_read_18 at hf
      refine lv_iload_n hx hb dX5_read_18 rfl (lv_at hl 2 rfl) ?_
      refine lv_sipush (v := 400) hx hb dX5_read_19 (by decide) ?_
      refine lv_icmp_ge (tgt := 63) hx hb dX5_read_22 (by decide) (fun c_1 => ?_) (fun c_1 => ?_)
      · replace hf := xi_t c_1 hf
        refine lv_aload_n hx hb dX5_read_63 rfl (lv_at hl 1 rfl) ?_
        refine va_getN (D := (dC, dI)) (ci := 3) (v := .int (v_h 0 3)) (C := RX3) (T := TX3) (N := 7) hx hb hts kk1_ hown hK hP 6 rfl rfl 4 (by decide) kk0_ (fun _ h9 => h9) rfl dX5_read_64 ?_
        refine lv_if_ne (tgt := 74) hx hb dX5_read_67 (by decide) (fun c_2 => ?_) (fun c_2 => ?_)
        · replace hf := xi_f c_2 hf
          refine lv_iconst (v := 0) hx hb dX5_read_74 (by decide) ?_
          have hP9 := hP.sub (ws' := [(ga, .inr (5, [.ref ga1, .ref ga2, .ref ga3, .ref ga4, .ref ga5, .int (v_ga 0 0), .int (v_ga 0 1), .int (v_ga 0 2)])), (ga1, .inl (cI, 10, .inl (v_ga 1))), (ga2, .inl (cI, 10, .inl (v_ga 2))), (ga3, .inl (cI, 10, .inl (v_ga 3))), (ga4, .inl (cI, 10, .inl (v_ga 4))), (ga5, .inl (cI, 5, .inl (v_ga 5))), (h, .inr (3, [.ref h1, .int (v_h 0 0), .int (v_h 0 1), .int (v_h 0 2), .int (v_h 0 3), .int (v_h 0 4), .int (v_h 0 5)])), (h1, .inl (cI, 400, .inl (v_h 1)))]) [0, 1, 2, 3, 4, 5, 6, 7] rfl
          have hD9 := hD.sub (ws' := [(ga, .inr (5, [.ref ga1, .ref ga2, .ref ga3, .ref ga4, .ref ga5, .int (v_ga 0 0), .int (v_ga 0 1), .int (v_ga 0 2)])), (ga1, .inl (cI, 10, .inl (v_ga 1))), (ga2, .inl (cI, 10, .inl (v_ga 2))), (ga3, .inl (cI, 10, .inl (v_ga 3))), (ga4, .inl (cI, 10, .inl (v_ga 4))), (ga5, .inl (cI, 5, .inl (v_ga 5))), (h, .inr (3, [.ref h1, .int (v_h 0 0), .int (v_h 0 1), .int (v_h 0 2), .int (v_h 0 3), .int (v_h 0 4), .int (v_h 0 5)])), (h1, .inl (cI, 400, .inl (v_h 1)))]) [0, 1, 2, 3, 4, 5, 6, 7] (by decide) rfl
          have r9_0 : (0 : Int32) = r1 := (Prod.mk.inj (Option.some.inj hf)).1
          have r9_1 : v_ga = v_ga1 := (Prod.mk.inj (Prod.mk.inj (Option.some.inj hf)).2).1
          have r9_2 : v_h = v_h1 := (Prod.mk.inj (Prod.mk.inj (Option.some.inj hf)).2).2
          exact W.zret (v := (0 : Int32)) hx hb hr rfl (fun t ht hW => ⟨⟨(0 : Int32), (v_ga, v_h), rfl, ⟨r9_0, r9_1, r9_2⟩, by rw [ht]; exact hP9, va_K.moved hW.alike hK, hD9⟩, hS.F ht⟩) hS.2.2 dX5_read_75
        · replace hf := xi_t c_2 hf
          refine lv_iconst (v := 1) hx hb dX5_read_70 (by decide) ?_
          refine lv_goto (tgt := 75) hx hb dX5_read_71 (by decide) ?_
          have hP9 := hP.sub (ws' := [(ga, .inr (5, [.ref ga1, .ref ga2, .ref ga3, .ref ga4, .ref ga5, .int (v_ga 0 0), .int (v_ga 0 1), .int (v_ga 0 2)])), (ga1, .inl (cI, 10, .inl (v_ga 1))), (ga2, .inl (cI, 10, .inl (v_ga 2))), (ga3, .inl (cI, 10, .inl (v_ga 3))), (ga4, .inl (cI, 10, .inl (v_ga 4))), (ga5, .inl (cI, 5, .inl (v_ga 5))), (h, .inr (3, [.ref h1, .int (v_h 0 0), .int (v_h 0 1), .int (v_h 0 2), .int (v_h 0 3), .int (v_h 0 4), .int (v_h 0 5)])), (h1, .inl (cI, 400, .inl (v_h 1)))]) [0, 1, 2, 3, 4, 5, 6, 7] rfl
          have hD9 := hD.sub (ws' := [(ga, .inr (5, [.ref ga1, .ref ga2, .ref ga3, .ref ga4, .ref ga5, .int (v_ga 0 0), .int (v_ga 0 1), .int (v_ga 0 2)])), (ga1, .inl (cI, 10, .inl (v_ga 1))), (ga2, .inl (cI, 10, .inl (v_ga 2))), (ga3, .inl (cI, 10, .inl (v_ga 3))), (ga4, .inl (cI, 10, .inl (v_ga 4))), (ga5, .inl (cI, 5, .inl (v_ga 5))), (h, .inr (3, [.ref h1, .int (v_h 0 0), .int (v_h 0 1), .int (v_h 0 2), .int (v_h 0 3), .int (v_h 0 4), .int (v_h 0 5)])), (h1, .inl (cI, 400, .inl (v_h 1)))]) [0, 1, 2, 3, 4, 5, 6, 7] (by decide) rfl
          have r9_0 : (1 : Int32) = r1 := (Prod.mk.inj (Option.some.inj hf)).1
          have r9_1 : v_ga = v_ga1 := (Prod.mk.inj (Prod.mk.inj (Option.some.inj hf)).2).1
          have r9_2 : v_h = v_h1 := (Prod.mk.inj (Prod.mk.inj (Option.some.inj hf)).2).2
          exact W.zret (v := (1 : Int32)) hx hb hr rfl (fun t ht hW => ⟨⟨(1 : Int32), (v_ga, v_h), rfl, ⟨r9_0, r9_1, r9_2⟩, by rw [ht]; exact hP9, va_K.moved hW.alike hK, hD9⟩, hS.F ht⟩) hS.2.2 dX5_read_75
      · replace hf := xi_f c_1 hf
        refine lv_aload_n hx hb dX5_read_25 rfl (lv_at hl 1 rfl) ?_
        refine va_getN (D := (dC, dI)) (ci := 3) (v := .int (v_h 0 3)) (C := RX3) (T := TX3) (N := 7) hx hb hts kk1_ hown hK hP 6 rfl rfl 4 (by decide) kk0_ (fun _ h9 => h9) rfl dX5_read_26 ?_
        refine lv_if_ne (tgt := 34) hx hb dX5_read_29 (by decide) (fun c_3 => ?_) (fun c_3 => ?_)
        · replace hf := xi_f c_3 hf
          refine lv_aload_n hx hb dX5_read_34 rfl (lv_at hl 0 rfl) ?_
          refine lv_aload_n hx hb dX5_read_35 rfl (lv_at hl 1 rfl) ?_
          replace hf := xb3_to hf
          obtain ⟨o_4, o_5, o_6, g_7, hf⟩ := hf
          have hPc := hP.sub (ws' := [(ga, .inr (5, [.ref ga1, .ref ga2, .ref ga3, .ref ga4, .ref ga5, .int (v_ga 0 0), .int (v_ga 0 1), .int (v_ga 0 2)])), (ga1, .inl (cI, 10, .inl (v_ga 1))), (ga2, .inl (cI, 10, .inl (v_ga 2))), (ga3, .inl (cI, 10, .inl (v_ga 3))), (ga4, .inl (cI, 10, .inl (v_ga 4))), (ga5, .inl (cI, 5, .inl (v_ga 5))), (h, .inr (3, [.ref h1, .int (v_h 0 0), .int (v_h 0 1), .int (v_h 0 2), .int (v_h 0 3), .int (v_h 0 4), .int (v_h 0 5)])), (h1, .inl (cI, 400, .inl (v_h 1)))]) [0, 1, 2, 3, 4, 5, 6, 7] rfl
          have hDc := hD.sub (ws' := [(ga, .inr (5, [.ref ga1, .ref ga2, .ref ga3, .ref ga4, .ref ga5, .int (v_ga 0 0), .int (v_ga 0 1), .int (v_ga 0 2)])), (ga1, .inl (cI, 10, .inl (v_ga 1))), (ga2, .inl (cI, 10, .inl (v_ga 2))), (ga3, .inl (cI, 10, .inl (v_ga 3))), (ga4, .inl (cI, 10, .inl (v_ga 4))), (ga5, .inl (cI, 5, .inl (v_ga 5))), (h, .inr (3, [.ref h1, .int (v_h 0 0), .int (v_h 0 1), .int (v_h 0 2), .int (v_h 0 3), .int (v_h 0 4), .int (v_h 0 5)])), (h1, .inl (cI, 400, .inl (v_h 1)))]) [0, 1, 2, 3, 4, 5, 6, 7] (by decide) rfl
          have hFc := va_free (wc := [(ga, .inr (5, [.ref ga1, .ref ga2, .ref ga3, .ref ga4, .ref ga5, .int (v_ga 0 0), .int (v_ga 0 1), .int (v_ga 0 2)])), (ga1, .inl (cI, 10, .inl (v_ga 1))), (ga2, .inl (cI, 10, .inl (v_ga 2))), (ga3, .inl (cI, 10, .inl (v_ga 3))), (ga4, .inl (cI, 10, .inl (v_ga 4))), (ga5, .inl (cI, 5, .inl (v_ga 5))), (h, .inr (3, [.ref h1, .int (v_h 0 0), .int (v_h 0 1), .int (v_h 0 2), .int (v_h 0 3), .int (v_h 0 4), .int (v_h 0 5)])), (h1, .inl (cI, 400, .inl (v_h 1)))]) hD hS hA [0, 1, 2, 3, 4, 5, 6, 7] rfl
          refine va_calli (va_runV (As := [.ref h]) (rest := []) ⟨hx, hb, hml, hown, hts⟩ (c_X5_readClausey l dC dI cI cJ cB ga ga1 ga2 ga3 ga4 ga5 h h1 H.size v_ga v_h n9 o_4 o_5 o_6 g_7) (cwV 1 hts go_wo_X5_ready_2 rfl rfl rfl (by decide +kernel) ⟨Nat.le_of_ble_eq_true rfl, Nat.le_of_ble_eq_true rfl⟩) ⟨fun a U g mk q => by obtain ⟨q0, q1, qN, qP, qK, qD⟩ := q; exact ⟨q0, q1, NW.calling qN, qP, va_K.moved (u := U) (U := U.calling g mk a) (Vm.Alike.refl U.vm) qK, qD⟩, va_recv hK hPc (ci := 5) (q0 := 0) rfl rfl, fun U hU hW => ⟨rfl, by rw [hU], NW.warm hW hnw, by rw [hU]; exact hPc, va_K.moved hW.alike hK, hDc.weaken (fun _ _ _ _ => trivial)⟩⟩ rfl rfl hl.1 rfl (lv_room (Nat.le_of_ble_eq_true rfl)) dX5_read_36 ⟨Nat.zero_le _, Nat.zero_le _⟩) hS (fun q _ h => hFc q h) hFc (fun r_8 u t H1 locs ht hvm hw hB hz1 hk1 hS => ?_)
          obtain ⟨v_ga_9, v_h_10⟩ := u
          obtain ⟨hP1, hK1, hD1⟩ := hB
          rw [ht] at hP1
          have hw : (r_8 = o_4) ∧ (v_ga_9 = o_5) ∧ (v_h_10 = o_6) := hw
          obtain ⟨rfl, rfl, rfl⟩ := hw
          obtain ⟨hP, hD⟩ := va_join (wr := []) (w1 := [(ga, .inr (5, [.ref ga1, .ref ga2, .ref ga3, .ref ga4, .ref ga5, .int (v_ga_9 0 0), .int (v_ga_9 0 1), .int (v_ga_9 0 2)])), (ga1, .inl (cI, 10, .inl (v_ga_9 1))), (ga2, .inl (cI, 10, .inl (v_ga_9 2))), (ga3, .inl (cI, 10, .inl (v_ga_9 3))), (ga4, .inl (cI, 10, .inl (v_ga_9 4))), (ga5, .inl (cI, 5, .inl (v_ga_9 5))), (h, .inr (3, [.ref h1, .int (v_h_10 0 0), .int (v_h_10 0 1), .int (v_h_10 0 2), .int (v_h_10 0 3), .int (v_h_10 0 4), .int (v_h_10 0 5)])), (h1, .inl (cI, 400, .inl (v_h_10 1)))]) hP hD [0, 1, 2, 3, 4, 5, 6, 7] [] rfl rfl (by decide) (by decide) hk1 hFc hP1 hD1
          generalize H1 = H at hP hS ⊢
          have hP : va_P (dC, dI) vwCl [(ga, .inr (5, [.ref ga1, .ref ga2, .ref ga3, .ref ga4, .ref ga5, .int (v_ga_9 0 0), .int (v_ga_9 0 1), .int (v_ga_9 0 2)])), (ga1, .inl (cI, 10, .inl (v_ga_9 1))), (ga2, .inl (cI, 10, .inl (v_ga_9 2))), (ga3, .inl (cI, 10, .inl (v_ga_9 3))), (ga4, .inl (cI, 10, .inl (v_ga_9 4))), (ga5, .inl (cI, 5, .inl (v_ga_9 5))), (h, .inr (3, [.ref h1, .int (v_h_10 0 0), .int (v_h_10 0 1), .int (v_h_10 0 2), .int (v_h_10 0 3), .int (v_h_10 0 4), .int (v_h_10 0 5)])), (h1, .inl (cI, 400, .inl (v_h_10 1)))] H := hP
          have hD : va_D (va_A (ww_X5_ready dC dI cI cJ cB ga ga1 ga2 ga3 ga4 ga5 h h1 s.heap.size v_ga0 v_h0 n9 r1 v_ga1 v_h1) s.heap.size) [(ga, .inr (5, [.ref ga1, .ref ga2, .ref ga3, .ref ga4, .ref ga5, .int (v_ga_9 0 0), .int (v_ga_9 0 1), .int (v_ga_9 0 2)])), (ga1, .inl (cI, 10, .inl (v_ga_9 1))), (ga2, .inl (cI, 10, .inl (v_ga_9 2))), (ga3, .inl (cI, 10, .inl (v_ga_9 3))), (ga4, .inl (cI, 10, .inl (v_ga_9 4))), (ga5, .inl (cI, 5, .inl (v_ga_9 5))), (h, .inr (3, [.ref h1, .int (v_h_10 0 0), .int (v_h_10 0 1), .int (v_h_10 0 2), .int (v_h_10 0 3), .int (v_h_10 0 4), .int (v_h_10 0 5)])), (h1, .inl (cI, 400, .inl (v_h_10 1)))] := hD
          clear hPc hDc hFc hP1 hK1 hD1 hk1 hz1 ht hvm g_7
          refine lv_if_eq (tgt := 51) hx hb dX5_read_39 (by decide) (fun c_12 => ?_) (fun c_12 => ?_)
          · replace hf := xi_t c_12 hf
            refine lv_iconst (v := 0) hx hb dX5_read_51 (by decide) ?_
            have hP9 := hP.sub (ws' := [(ga, .inr (5, [.ref ga1, .ref ga2, .ref ga3, .ref ga4, .ref ga5, .int (v_ga_9 0 0), .int (v_ga_9 0 1), .int (v_ga_9 0 2)])), (ga1, .inl (cI, 10, .inl (v_ga_9 1))), (ga2, .inl (cI, 10, .inl (v_ga_9 2))), (ga3, .inl (cI, 10, .inl (v_ga_9 3))), (ga4, .inl (cI, 10, .inl (v_ga_9 4))), (ga5, .inl (cI, 5, .inl (v_ga_9 5))), (h, .inr (3, [.ref h1, .int (v_h_10 0 0), .int (v_h_10 0 1), .int (v_h_10 0 2), .int (v_h_10 0 3), .int (v_h_10 0 4), .int (v_h_10 0 5)])), (h1, .inl (cI, 400, .inl (v_h_10 1)))]) [0, 1, 2, 3, 4, 5, 6, 7] rfl
            have hD9 := hD.sub (ws' := [(ga, .inr (5, [.ref ga1, .ref ga2, .ref ga3, .ref ga4, .ref ga5, .int (v_ga_9 0 0), .int (v_ga_9 0 1), .int (v_ga_9 0 2)])), (ga1, .inl (cI, 10, .inl (v_ga_9 1))), (ga2, .inl (cI, 10, .inl (v_ga_9 2))), (ga3, .inl (cI, 10, .inl (v_ga_9 3))), (ga4, .inl (cI, 10, .inl (v_ga_9 4))), (ga5, .inl (cI, 5, .inl (v_ga_9 5))), (h, .inr (3, [.ref h1, .int (v_h_10 0 0), .int (v_h_10 0 1), .int (v_h_10 0 2), .int (v_h_10 0 3), .int (v_h_10 0 4), .int (v_h_10 0 5)])), (h1, .inl (cI, 400, .inl (v_h_10 1)))]) [0, 1, 2, 3, 4, 5, 6, 7] (by decide) rfl
            have r9_0 : (0 : Int32) = r1 := (Prod.mk.inj (Option.some.inj hf)).1
            have r9_1 : v_ga_9 = v_ga1 := (Prod.mk.inj (Prod.mk.inj (Option.some.inj hf)).2).1
            have r9_2 : v_h_10 = v_h1 := (Prod.mk.inj (Prod.mk.inj (Option.some.inj hf)).2).2
            exact W.zret (v := (0 : Int32)) hx hb hr rfl (fun t ht hW => ⟨⟨(0 : Int32), (v_ga_9, v_h_10), rfl, ⟨r9_0, r9_1, r9_2⟩, by rw [ht]; exact hP9, va_K.moved hW.alike hK, hD9⟩, hS.F ht⟩) hS.2.2 dX5_read_52
          · replace hf := xi_f c_12 hf
            refine lv_aload_n hx hb dX5_read_42 rfl (lv_at hl 1 rfl) ?_
            refine lv_bipush (v := 59) hx hb dX5_read_43 (by decide) ?_
            replace hf := xb1_to hf
            obtain ⟨o_13, g_14, hf⟩ := hf
            have hPc := hP.sub (ws' := [(h, .inr (3, [.ref h1, .int (v_h_10 0 0), .int (v_h_10 0 1), .int (v_h_10 0 2), .int (v_h_10 0 3), .int (v_h_10 0 4), .int (v_h_10 0 5)])), (h1, .inl (cI, 400, .inl (v_h_10 1)))]) [6, 7] rfl
            have hDc := hD.sub (ws' := [(h, .inr (3, [.ref h1, .int (v_h_10 0 0), .int (v_h_10 0 1), .int (v_h_10 0 2), .int (v_h_10 0 3), .int (v_h_10 0 4), .int (v_h_10 0 5)])), (h1, .inl (cI, 400, .inl (v_h_10 1)))]) [6, 7] (by decide) rfl
            have hFc := va_free (wc := [(h, .inr (3, [.ref h1, .int (v_h_10 0 0), .int (v_h_10 0 1), .int (v_h_10 0 2), .int (v_h_10 0 3), .int (v_h_10 0 4), .int (v_h_10 0 5)])), (h1, .inl (cI, 400, .inl (v_h_10 1)))]) hD hS hA [6, 7] rfl
            refine va_calli (va_runV (As := [.int ((59 : Int32))]) (rest := []) ⟨hx, hb, hml, hown, hts⟩ (c_X3_isSigny l dC dI cI cJ cB h h1 H.size v_h_10 ((59 : Int32)) n9 o_13 g_14) (cwV 1 hts go_wo_X5_ready_3 rfl rfl rfl (by decide +kernel) ⟨Nat.le_of_ble_eq_true rfl, Nat.le_of_ble_eq_true rfl⟩) ⟨fun a U g mk q => by obtain ⟨q0, q1, qN, qP, qK, qD⟩ := q; exact ⟨q0, q1, NW.calling qN, qP, va_K.moved (u := U) (U := U.calling g mk a) (Vm.Alike.refl U.vm) qK, qD⟩, va_recv hK hPc (ci := 3) (q0 := 0) rfl rfl, fun U hU hW => ⟨rfl, by rw [hU], NW.warm hW hnw, by rw [hU]; exact hPc, va_K.moved hW.alike hK, hDc.weaken (fun _ _ _ _ => trivial)⟩⟩ rfl rfl hl.1 rfl (lv_room (Nat.le_of_ble_eq_true rfl)) dX5_read_45 ⟨Nat.zero_le _, Nat.zero_le _⟩) hS (fun q _ h => hFc q h) hFc (fun r_15 u t H1 locs ht hvm hw hB hz1 hk1 hS => ?_)
            cases u
            obtain ⟨hP1, hK1, hD1⟩ := hB
            rw [ht] at hP1
            have hw : (r_15 = o_13) := hw
            subst hw
            obtain ⟨hP, hD⟩ := va_join (wr := [(ga, .inr (5, [.ref ga1, .ref ga2, .ref ga3, .ref ga4, .ref ga5, .int (v_ga_9 0 0), .int (v_ga_9 0 1), .int (v_ga_9 0 2)])), (ga1, .inl (cI, 10, .inl (v_ga_9 1))), (ga2, .inl (cI, 10, .inl (v_ga_9 2))), (ga3, .inl (cI, 10, .inl (v_ga_9 3))), (ga4, .inl (cI, 10, .inl (v_ga_9 4))), (ga5, .inl (cI, 5, .inl (v_ga_9 5)))]) (w1 := [(h, .inr (3, [.ref h1, .int (v_h_10 0 0), .int (v_h_10 0 1), .int (v_h_10 0 2), .int (v_h_10 0 3), .int (v_h_10 0 4), .int (v_h_10 0 5)])), (h1, .inl (cI, 400, .inl (v_h_10 1)))]) hP hD [6, 7] [0, 1, 2, 3, 4, 5] rfl rfl (by decide) (by decide) hk1 hFc hP1 hD1
            generalize H1 = H at hP hS ⊢
            have hP : va_P (dC, dI) vwCl [(ga, .inr (5, [.ref ga1, .ref ga2, .ref ga3, .ref ga4, .ref ga5, .int (v_ga_9 0 0), .int (v_ga_9 0 1), .int (v_ga_9 0 2)])), (ga1, .inl (cI, 10, .inl (v_ga_9 1))), (ga2, .inl (cI, 10, .inl (v_ga_9 2))), (ga3, .inl (cI, 10, .inl (v_ga_9 3))), (ga4, .inl (cI, 10, .inl (v_ga_9 4))), (ga5, .inl (cI, 5, .inl (v_ga_9 5))), (h, .inr (3, [.ref h1, .int (v_h_10 0 0), .int (v_h_10 0 1), .int (v_h_10 0 2), .int (v_h_10 0 3), .int (v_h_10 0 4), .int (v_h_10 0 5)])), (h1, .inl (cI, 400, .inl (v_h_10 1)))] H := hP
            have hD : va_D (va_A (ww_X5_ready dC dI cI cJ cB ga ga1 ga2 ga3 ga4 ga5 h h1 s.heap.size v_ga0 v_h0 n9 r1 v_ga1 v_h1) s.heap.size) [(ga, .inr (5, [.ref ga1, .ref ga2, .ref ga3, .ref ga4, .ref ga5, .int (v_ga_9 0 0), .int (v_ga_9 0 1), .int (v_ga_9 0 2)])), (ga1, .inl (cI, 10, .inl (v_ga_9 1))), (ga2, .inl (cI, 10, .inl (v_ga_9 2))), (ga3, .inl (cI, 10, .inl (v_ga_9 3))), (ga4, .inl (cI, 10, .inl (v_ga_9 4))), (ga5, .inl (cI, 5, .inl (v_ga_9 5))), (h, .inr (3, [.ref h1, .int (v_h_10 0 0), .int (v_h_10 0 1), .int (v_h_10 0 2), .int (v_h_10 0 3), .int (v_h_10 0 4), .int (v_h_10 0 5)])), (h1, .inl (cI, 400, .inl (v_h_10 1)))] := hD
            clear hPc hDc hFc hP1 hK1 hD1 hk1 hz1 ht hvm g_14
            refine lv_if_ne (tgt := 53) hx hb dX5_read_48 (by decide) (fun c_17 => ?_) (fun c_17 => ?_)
            · replace hf := xi_f c_17 hf
              refine lv_aload_n hx hb dX5_read_53 rfl (lv_at hl 1 rfl) ?_
              replace hf := xb1_to hf
              obtain ⟨o_18, g_19, hf⟩ := hf
              have hPc := hP.sub (ws' := [(h, .inr (3, [.ref h1, .int (v_h_10 0 0), .int (v_h_10 0 1), .int (v_h_10 0 2), .int (v_h_10 0 3), .int (v_h_10 0 4), .int (v_h_10 0 5)])), (h1, .inl (cI, 400, .inl (v_h_10 1)))]) [6, 7] rfl
              have hDc := hD.sub (ws' := [(h, .inr (3, [.ref h1, .int (v_h_10 0 0), .int (v_h_10 0 1), .int (v_h_10 0 2), .int (v_h_10 0 3), .int (v_h_10 0 4), .int (v_h_10 0 5)])), (h1, .inl (cI, 400, .inl (v_h_10 1)))]) [6, 7] (by decide) rfl
              have hFc := va_free (wc := [(h, .inr (3, [.ref h1, .int (v_h_10 0 0), .int (v_h_10 0 1), .int (v_h_10 0 2), .int (v_h_10 0 3), .int (v_h_10 0 4), .int (v_h_10 0 5)])), (h1, .inl (cI, 400, .inl (v_h_10 1)))]) hD hS hA [6, 7] rfl
              refine va_callv (va_runV (As := []) (rest := []) ⟨hx, hb, hml, hown, hts⟩ (c_X3_advancey l dC dI cI cJ cB h h1 H.size v_h_10 n9 o_18 g_19) (cwV 0 hts go_wo_X5_ready_4 rfl rfl rfl (by decide +kernel) ⟨Nat.le_of_ble_eq_true rfl, Nat.le_of_ble_eq_true rfl⟩) ⟨fun a U g mk q => by obtain ⟨q0, q1, qN, qP, qK, qD⟩ := q; exact ⟨q0, q1, NW.calling qN, qP, va_K.moved (u := U) (U := U.calling g mk a) (Vm.Alike.refl U.vm) qK, qD⟩, va_recv hK hPc (ci := 3) (q0 := 0) rfl rfl, fun U hU hW => ⟨rfl, by rw [hU], NW.warm hW hnw, by rw [hU]; exact hPc, va_K.moved hW.alike hK, hDc.weaken (fun _ _ _ _ => trivial)⟩⟩ rfl rfl hl.1 rfl (lv_room (Nat.le_of_ble_eq_true rfl)) dX5_read_54 ⟨Nat.zero_le _, Nat.zero_le _⟩) hS (fun q _ h => hFc q h) hFc (fun u t H1 locs ht hvm hw hB hz1 hk1 hS => ?_)
              obtain ⟨v_h_21, rfl⟩ : ∃ z, z = u := ⟨_, rfl⟩
              obtain ⟨hP1, hK1, hD1⟩ := hB
              rw [ht] at hP1
              have hw : (v_h_21 = o_18) := hw
              subst hw
              obtain ⟨hP, hD⟩ := va_join (wr := [(ga, .inr (5, [.ref ga1, .ref ga2, .ref ga3, .ref ga4, .ref ga5, .int (v_ga_9 0 0), .int (v_ga_9 0 1), .int (v_ga_9 0 2)])), (ga1, .inl (cI, 10, .inl (v_ga_9 1))), (ga2, .inl (cI, 10, .inl (v_ga_9 2))), (ga3, .inl (cI, 10, .inl (v_ga_9 3))), (ga4, .inl (cI, 10, .inl (v_ga_9 4))), (ga5, .inl (cI, 5, .inl (v_ga_9 5)))]) (w1 := [(h, .inr (3, [.ref h1, .int (v_h_21 0 0), .int (v_h_21 0 1), .int (v_h_21 0 2), .int (v_h_21 0 3), .int (v_h_21 0 4), .int (v_h_21 0 5)])), (h1, .inl (cI, 400, .inl (v_h_21 1)))]) hP hD [6, 7] [0, 1, 2, 3, 4, 5] rfl rfl (by decide) (by decide) hk1 hFc hP1 hD1
              generalize H1 = H at hP hS ⊢
              have hP : va_P (dC, dI) vwCl [(ga, .inr (5, [.ref ga1, .ref ga2, .ref ga3, .ref ga4, .ref ga5, .int (v_ga_9 0 0), .int (v_ga_9 0 1), .int (v_ga_9 0 2)])), (ga1, .inl (cI, 10, .inl (v_ga_9 1))), (ga2, .inl (cI, 10, .inl (v_ga_9 2))), (ga3, .inl (cI, 10, .inl (v_ga_9 3))), (ga4, .inl (cI, 10, .inl (v_ga_9 4))), (ga5, .inl (cI, 5, .inl (v_ga_9 5))), (h, .inr (3, [.ref h1, .int (v_h_21 0 0), .int (v_h_21 0 1), .int (v_h_21 0 2), .int (v_h_21 0 3), .int (v_h_21 0 4), .int (v_h_21 0 5)])), (h1, .inl (cI, 400, .inl (v_h_21 1)))] H := hP
              have hD : va_D (va_A (ww_X5_ready dC dI cI cJ cB ga ga1 ga2 ga3 ga4 ga5 h h1 s.heap.size v_ga0 v_h0 n9 r1 v_ga1 v_h1) s.heap.size) [(ga, .inr (5, [.ref ga1, .ref ga2, .ref ga3, .ref ga4, .ref ga5, .int (v_ga_9 0 0), .int (v_ga_9 0 1), .int (v_ga_9 0 2)])), (ga1, .inl (cI, 10, .inl (v_ga_9 1))), (ga2, .inl (cI, 10, .inl (v_ga_9 2))), (ga3, .inl (cI, 10, .inl (v_ga_9 3))), (ga4, .inl (cI, 10, .inl (v_ga_9 4))), (ga5, .inl (cI, 5, .inl (v_ga_9 5))), (h, .inr (3, [.ref h1, .int (v_h_21 0 0), .int (v_h_21 0 1), .int (v_h_21 0 2), .int (v_h_21 0 3), .int (v_h_21 0 4), .int (v_h_21 0 5)])), (h1, .inl (cI, 400, .inl (v_h_21 1)))] := hD
              clear hPc hDc hFc hP1 hK1 hD1 hk1 hz1 ht hvm g_19
              obtain ⟨x2_23, ex2_23⟩ : ∃ y : Int32, y = x2 + (1) := ⟨_, rfl⟩
              refine lv_iinc (v := x2_23) (lv' := [(2, .int x2_23), (0, .ref ga), (1, .ref h)]) hx hb dX5_read_57 hl (k := 2) rfl (by rw [ex2_23]; rfl) (by decide) rfl (fun ls hl => ?_)
              replace hf := xl_to ex2_23 hf
              refine lv_goto (tgt := 18) hx hb dX5_read_60 (by decide) ?_
              exact ih_18 x2_23 v_ga_9 v_h_21 hf _ _ (hP.sub [0, 1, 2, 3, 4, 5, 6, 7] rfl) (hD.sub [0, 1, 2, 3, 4, 5, 6, 7] (by decide) rfl) hS ls (lv_sub hl [1, 2, 0] rfl)
            · replace hf := xi_t c_17 hf
              refine lv_iconst (v := 0) hx hb dX5_read_51 (by decide) ?_
              have hP9 := hP.sub (ws' := [(ga, .inr (5, [.ref ga1, .ref ga2, .ref ga3, .ref ga4, .ref ga5, .int (v_ga_9 0 0), .int (v_ga_9 0 1), .int (v_ga_9 0 2)])), (ga1, .inl (cI, 10, .inl (v_ga_9 1))), (ga2, .inl (cI, 10, .inl (v_ga_9 2))), (ga3, .inl (cI, 10, .inl (v_ga_9 3))), (ga4, .inl (cI, 10, .inl (v_ga_9 4))), (ga5, .inl (cI, 5, .inl (v_ga_9 5))), (h, .inr (3, [.ref h1, .int (v_h_10 0 0), .int (v_h_10 0 1), .int (v_h_10 0 2), .int (v_h_10 0 3), .int (v_h_10 0 4), .int (v_h_10 0 5)])), (h1, .inl (cI, 400, .inl (v_h_10 1)))]) [0, 1, 2, 3, 4, 5, 6, 7] rfl
              have hD9 := hD.sub (ws' := [(ga, .inr (5, [.ref ga1, .ref ga2, .ref ga3, .ref ga4, .ref ga5, .int (v_ga_9 0 0), .int (v_ga_9 0 1), .int (v_ga_9 0 2)])), (ga1, .inl (cI, 10, .inl (v_ga_9 1))), (ga2, .inl (cI, 10, .inl (v_ga_9 2))), (ga3, .inl (cI, 10, .inl (v_ga_9 3))), (ga4, .inl (cI, 10, .inl (v_ga_9 4))), (ga5, .inl (cI, 5, .inl (v_ga_9 5))), (h, .inr (3, [.ref h1, .int (v_h_10 0 0), .int (v_h_10 0 1), .int (v_h_10 0 2), .int (v_h_10 0 3), .int (v_h_10 0 4), .int (v_h_10 0 5)])), (h1, .inl (cI, 400, .inl (v_h_10 1)))]) [0, 1, 2, 3, 4, 5, 6, 7] (by decide) rfl
              have r9_0 : (0 : Int32) = r1 := (Prod.mk.inj (Option.some.inj hf)).1
              have r9_1 : v_ga_9 = v_ga1 := (Prod.mk.inj (Prod.mk.inj (Option.some.inj hf)).2).1
              have r9_2 : v_h_10 = v_h1 := (Prod.mk.inj (Prod.mk.inj (Option.some.inj hf)).2).2
              exact W.zret (v := (0 : Int32)) hx hb hr rfl (fun t ht hW => ⟨⟨(0 : Int32), (v_ga_9, v_h_10), rfl, ⟨r9_0, r9_1, r9_2⟩, by rw [ht]; exact hP9, va_K.moved hW.alike hK, hD9⟩, hS.F ht⟩) hS.2.2 dX5_read_52
        · replace hf := xi_t c_3 hf
          refine lv_iconst (v := 1) hx hb dX5_read_32 (by decide) ?_
          have hP9 := hP.sub (ws' := [(ga, .inr (5, [.ref ga1, .ref ga2, .ref ga3, .ref ga4, .ref ga5, .int (v_ga 0 0), .int (v_ga 0 1), .int (v_ga 0 2)])), (ga1, .inl (cI, 10, .inl (v_ga 1))), (ga2, .inl (cI, 10, .inl (v_ga 2))), (ga3, .inl (cI, 10, .inl (v_ga 3))), (ga4, .inl (cI, 10, .inl (v_ga 4))), (ga5, .inl (cI, 5, .inl (v_ga 5))), (h, .inr (3, [.ref h1, .int (v_h 0 0), .int (v_h 0 1), .int (v_h 0 2), .int (v_h 0 3), .int (v_h 0 4), .int (v_h 0 5)])), (h1, .inl (cI, 400, .inl (v_h 1)))]) [0, 1, 2, 3, 4, 5, 6, 7] rfl
          have hD9 := hD.sub (ws' := [(ga, .inr (5, [.ref ga1, .ref ga2, .ref ga3, .ref ga4, .ref ga5, .int (v_ga 0 0), .int (v_ga 0 1), .int (v_ga 0 2)])), (ga1, .inl (cI, 10, .inl (v_ga 1))), (ga2, .inl (cI, 10, .inl (v_ga 2))), (ga3, .inl (cI, 10, .inl (v_ga 3))), (ga4, .inl (cI, 10, .inl (v_ga 4))), (ga5, .inl (cI, 5, .inl (v_ga 5))), (h, .inr (3, [.ref h1, .int (v_h 0 0), .int (v_h 0 1), .int (v_h 0 2), .int (v_h 0 3), .int (v_h 0 4), .int (v_h 0 5)])), (h1, .inl (cI, 400, .inl (v_h 1)))]) [0, 1, 2, 3, 4, 5, 6, 7] (by decide) rfl
          have r9_0 : (1 : Int32) = r1 := (Prod.mk.inj (Option.some.inj hf)).1
          have r9_1 : v_ga = v_ga1 := (Prod.mk.inj (Prod.mk.inj (Option.some.inj hf)).2).1
          have r9_2 : v_h = v_h1 := (Prod.mk.inj (Prod.mk.inj (Option.some.inj hf)).2).2
          exact W.zret (v := (1 : Int32)) hx hb hr rfl (fun t ht hW => ⟨⟨(1 : Int32), (v_ga, v_h), rfl, ⟨r9_0, r9_1, r9_2⟩, by rw [ht]; exact hP9, va_K.moved hW.alike hK, hD9⟩, hS.F ht⟩) hS.2.2 dX5_read_33
  refine lv_aload_n hx hb dX5_read_0 rfl (lv_at hl 0 rfl) ?_
  refine lv_iconst (v := 0) hx hb dX5_read_1 (by decide) ?_
  refine va_put (D := (dC, dI)) (ci := 5) (v := .int ((0 : Int32))) (ty := .int) (C := RX5) (T := TX5) (N := 8) hx hb hts kk3_ tyX5 tyX5_ok nmX5 hown hK hP hD hS 0 rfl rfl 5 (by decide) kk2_ (fun _ h9 => h9) rfl (by decide +kernel) rfl rfl (Nat.le_of_ble_eq_true rfl) dX5_read_2 (fun H locs hP hD hS => ?_)
  obtain ⟨v_ga_24, ev_ga_24⟩ : ∃ z, z = mu v_ga0 0 0 ((0 : Int32)) := ⟨_, rfl⟩
  have hP : va_P (dC, dI) vwCl [(ga, .inr (5, [.ref ga1, .ref ga2, .ref ga3, .ref ga4, .ref ga5, .int (v_ga_24 0 0), .int (v_ga_24 0 1), .int (v_ga_24 0 2)])), (ga1, .inl (cI, 10, .inl (v_ga_24 1))), (ga2, .inl (cI, 10, .inl (v_ga_24 2))), (ga3, .inl (cI, 10, .inl (v_ga_24 3))), (ga4, .inl (cI, 10, .inl (v_ga_24 4))), (ga5, .inl (cI, 5, .inl (v_ga_24 5))), (h, .inr (3, [.ref h1, .int (v_h0 0 0), .int (v_h0 0 1), .int (v_h0 0 2), .int (v_h0 0 3), .int (v_h0 0 4), .int (v_h0 0 5)])), (h1, .inl (cI, 400, .inl (v_h0 1)))] H := by rw [ev_ga_24]; exact hP
  have hD : va_D (va_A (ww_X5_ready dC dI cI cJ cB ga ga1 ga2 ga3 ga4 ga5 h h1 s.heap.size v_ga0 v_h0 n9 r1 v_ga1 v_h1) s.heap.size) [(ga, .inr (5, [.ref ga1, .ref ga2, .ref ga3, .ref ga4, .ref ga5, .int (v_ga_24 0 0), .int (v_ga_24 0 1), .int (v_ga_24 0 2)])), (ga1, .inl (cI, 10, .inl (v_ga_24 1))), (ga2, .inl (cI, 10, .inl (v_ga_24 2))), (ga3, .inl (cI, 10, .inl (v_ga_24 3))), (ga4, .inl (cI, 10, .inl (v_ga_24 4))), (ga5, .inl (cI, 5, .inl (v_ga_24 5))), (h, .inr (3, [.ref h1, .int (v_h0 0 0), .int (v_h0 0 1), .int (v_h0 0 2), .int (v_h0 0 3), .int (v_h0 0 4), .int (v_h0 0 5)])), (h1, .inl (cI, 400, .inl (v_h0 1)))] := by rw [ev_ga_24]; exact hD
  replace hf := xl_to ev_ga_24 hf
  refine lv_aload_n hx hb dX5_read_5 rfl (lv_at hl 0 rfl) ?_
  refine lv_iconst (v := 0) hx hb dX5_read_6 (by decide) ?_
  refine va_put (D := (dC, dI)) (ci := 5) (v := .int ((0 : Int32))) (ty := .int) (C := RX5) (T := TX5) (N := 8) hx hb hts kk3_ tyX5 tyX5_ok nmX5 hown hK hP hD hS 0 rfl rfl 6 (by decide) kk4_ (fun _ h9 => h9) rfl (by decide +kernel) rfl rfl (Nat.le_of_ble_eq_true rfl) dX5_read_7 (fun H locs hP hD hS => ?_)
  obtain ⟨v_ga_25, ev_ga_25⟩ : ∃ z, z = mu v_ga_24 0 1 ((0 : Int32)) := ⟨_, rfl⟩
  have hP : va_P (dC, dI) vwCl [(ga, .inr (5, [.ref ga1, .ref ga2, .ref ga3, .ref ga4, .ref ga5, .int (v_ga_25 0 0), .int (v_ga_25 0 1), .int (v_ga_25 0 2)])), (ga1, .inl (cI, 10, .inl (v_ga_25 1))), (ga2, .inl (cI, 10, .inl (v_ga_25 2))), (ga3, .inl (cI, 10, .inl (v_ga_25 3))), (ga4, .inl (cI, 10, .inl (v_ga_25 4))), (ga5, .inl (cI, 5, .inl (v_ga_25 5))), (h, .inr (3, [.ref h1, .int (v_h0 0 0), .int (v_h0 0 1), .int (v_h0 0 2), .int (v_h0 0 3), .int (v_h0 0 4), .int (v_h0 0 5)])), (h1, .inl (cI, 400, .inl (v_h0 1)))] H := by rw [ev_ga_25]; exact hP
  have hD : va_D (va_A (ww_X5_ready dC dI cI cJ cB ga ga1 ga2 ga3 ga4 ga5 h h1 s.heap.size v_ga0 v_h0 n9 r1 v_ga1 v_h1) s.heap.size) [(ga, .inr (5, [.ref ga1, .ref ga2, .ref ga3, .ref ga4, .ref ga5, .int (v_ga_25 0 0), .int (v_ga_25 0 1), .int (v_ga_25 0 2)])), (ga1, .inl (cI, 10, .inl (v_ga_25 1))), (ga2, .inl (cI, 10, .inl (v_ga_25 2))), (ga3, .inl (cI, 10, .inl (v_ga_25 3))), (ga4, .inl (cI, 10, .inl (v_ga_25 4))), (ga5, .inl (cI, 5, .inl (v_ga_25 5))), (h, .inr (3, [.ref h1, .int (v_h0 0 0), .int (v_h0 0 1), .int (v_h0 0 2), .int (v_h0 0 3), .int (v_h0 0 4), .int (v_h0 0 5)])), (h1, .inl (cI, 400, .inl (v_h0 1)))] := by rw [ev_ga_25]; exact hD
  replace hf := xl_to ev_ga_25 hf
  refine lv_aload_n hx hb dX5_read_10 rfl (lv_at hl 0 rfl) ?_
  refine lv_bipush (v := 31) hx hb dX5_read_11 (by decide) ?_
  refine va_put (D := (dC, dI)) (ci := 5) (v := .int ((31 : Int32))) (ty := .int) (C := RX5) (T := TX5) (N := 8) hx hb hts kk3_ tyX5 tyX5_ok nmX5 hown hK hP hD hS 0 rfl rfl 7 (by decide) kk5_ (fun _ h9 => h9) rfl (by decide +kernel) rfl rfl (Nat.le_of_ble_eq_true rfl) dX5_read_13 (fun H locs hP hD hS => ?_)
  obtain ⟨v_ga_26, ev_ga_26⟩ : ∃ z, z = mu v_ga_25 0 2 ((31 : Int32)) := ⟨_, rfl⟩
  have hP : va_P (dC, dI) vwCl [(ga, .inr (5, [.ref ga1, .ref ga2, .ref ga3, .ref ga4, .ref ga5, .int (v_ga_26 0 0), .int (v_ga_26 0 1), .int (v_ga_26 0 2)])), (ga1, .inl (cI, 10, .inl (v_ga_26 1))), (ga2, .inl (cI, 10, .inl (v_ga_26 2))), (ga3, .inl (cI, 10, .inl (v_ga_26 3))), (ga4, .inl (cI, 10, .inl (v_ga_26 4))), (ga5, .inl (cI, 5, .inl (v_ga_26 5))), (h, .inr (3, [.ref h1, .int (v_h0 0 0), .int (v_h0 0 1), .int (v_h0 0 2), .int (v_h0 0 3), .int (v_h0 0 4), .int (v_h0 0 5)])), (h1, .inl (cI, 400, .inl (v_h0 1)))] H := by rw [ev_ga_26]; exact hP
  have hD : va_D (va_A (ww_X5_ready dC dI cI cJ cB ga ga1 ga2 ga3 ga4 ga5 h h1 s.heap.size v_ga0 v_h0 n9 r1 v_ga1 v_h1) s.heap.size) [(ga, .inr (5, [.ref ga1, .ref ga2, .ref ga3, .ref ga4, .ref ga5, .int (v_ga_26 0 0), .int (v_ga_26 0 1), .int (v_ga_26 0 2)])), (ga1, .inl (cI, 10, .inl (v_ga_26 1))), (ga2, .inl (cI, 10, .inl (v_ga_26 2))), (ga3, .inl (cI, 10, .inl (v_ga_26 3))), (ga4, .inl (cI, 10, .inl (v_ga_26 4))), (ga5, .inl (cI, 5, .inl (v_ga_26 5))), (h, .inr (3, [.ref h1, .int (v_h0 0 0), .int (v_h0 0 1), .int (v_h0 0 2), .int (v_h0 0 3), .int (v_h0 0 4), .int (v_h0 0 5)])), (h1, .inl (cI, 400, .inl (v_h0 1)))] := by rw [ev_ga_26]; exact hD
  replace hf := xl_to ev_ga_26 hf
  refine lv_iconst (v := 0) hx hb dX5_read_16 (by decide) ?_
  refine lv_istore_n (lv' := [(2, .int ((0 : Int32))), (0, .ref ga), (1, .ref h)]) hx hb dX5_read_17 rfl hl (by decide) rfl (fun ls hl => ?_)
  exact L_18 n9 ((0 : Int32)) v_ga_26 v_h0 hf _ _ (hP.sub [0, 1, 2, 3, 4, 5, 6, 7] rfl) (hD.sub [0, 1, 2, 3, 4, 5, 6, 7] (by decide) rfl) hS ls (lv_sub hl [1, 2, 0] rfl)
def wo_X5_takeOvery : List Cond := .code yX5_takeOver cX5_takeOver 2 none :: (([.fieldLink RX5 9 "SumRewriter$Signature" "names" "[I", .methodLink RX5 27 arraycopyName, .native arraycopyName, .static arraycopyName, .initialized "java/lang/System", .fieldLink RX5 15 "SumRewriter$Signature" "kinds" "[I", .fieldLink RX5 18 "SumRewriter$Signature" "parts" "[I", .fieldLink RX5 21 "SumRewriter$Signature" "units" "[I", .fieldLink RX5 24 "SumRewriter$Signature" "variableNames" "[I", .fieldLink RX5 33 "SumRewriter$Signature" "operators" "I", .fieldLink RX5 37 "SumRewriter$Signature" "variables" "I", .fieldLink RX5 40 "SumRewriter$Signature" "lastingBits" "I"] : List Cond) ++ ((wsX50)))
abbrev ww_X5_takeOvery (dC : Nat → ClassId) (dI : Nat → Nat → Nat) (cI cJ cB : ClassId) (ga ga1 ga2 ga3 ga4 ga5 gb gb1 gb2 gb3 gb4 gb5 : Nat) (sz : Nat) (v_ga0 : Nat → Nat → Int32) (v_gb : Nat → Nat → Int32) (n9 : Nat) (v_ga1 : Nat → Nat → Int32) : va_W := [(ga, .inr (5, [.ref ga1, .ref ga2, .ref ga3, .ref ga4, .ref ga5, .int (v_ga0 0 0), .int (v_ga0 0 1), .int (v_ga0 0 2)])), (ga1, .inl (cI, 10, .inl (v_ga0 1))), (ga2, .inl (cI, 10, .inl (v_ga0 2))), (ga3, .inl (cI, 10, .inl (v_ga0 3))), (ga4, .inl (cI, 10, .inl (v_ga0 4))), (ga5, .inl (cI, 5, .inl (v_ga0 5))), (gb, .inr (5, [.ref gb1, .ref gb2, .ref gb3, .ref gb4, .ref gb5, .int (v_gb 0 0), .int (v_gb 0 1), .int (v_gb 0 2)])), (gb1, .inl (cI, 10, .inl (v_gb 1))), (gb2, .inl (cI, 10, .inl (v_gb 2))), (gb3, .inl (cI, 10, .inl (v_gb 3))), (gb4, .inl (cI, 10, .inl (v_gb 4))), (gb5, .inl (cI, 5, .inl (v_gb 5)))]
abbrev at_X5_takeOvery (dC : Nat → ClassId) (dI : Nat → Nat → Nat) (cI cJ cB : ClassId) (ga ga1 ga2 ga3 ga4 ga5 gb gb1 gb2 gb3 gb4 gb5 : Nat) (sz : Nat) (v_ga0 : Nat → Nat → Int32) (v_gb : Nat → Nat → Int32) (n9 : Nat) (v_ga1 : Nat → Nat → Int32) (u : (Nat → Nat → Int32)) (t : State) : Prop := match u with
  | v_ga => va_P (dC, dI) vwCl [(ga, .inr (5, [.ref ga1, .ref ga2, .ref ga3, .ref ga4, .ref ga5, .int (v_ga 0 0), .int (v_ga 0 1), .int (v_ga 0 2)])), (ga1, .inl (cI, 10, .inl (v_ga 1))), (ga2, .inl (cI, 10, .inl (v_ga 2))), (ga3, .inl (cI, 10, .inl (v_ga 3))), (ga4, .inl (cI, 10, .inl (v_ga 4))), (ga5, .inl (cI, 5, .inl (v_ga 5))), (gb, .inr (5, [.ref gb1, .ref gb2, .ref gb3, .ref gb4, .ref gb5, .int (v_gb 0 0), .int (v_gb 0 1), .int (v_gb 0 2)])), (gb1, .inl (cI, 10, .inl (v_gb 1))), (gb2, .inl (cI, 10, .inl (v_gb 2))), (gb3, .inl (cI, 10, .inl (v_gb 3))), (gb4, .inl (cI, 10, .inl (v_gb 4))), (gb5, .inl (cI, 5, .inl (v_gb 5)))] t.heap ∧ va_K (dC, dI) vwCl (tyL cI cJ cB) t ∧ va_D (va_A (ww_X5_takeOvery dC dI cI cJ cB ga ga1 ga2 ga3 ga4 ga5 gb gb1 gb2 gb3 gb4 gb5 sz v_ga0 v_gb n9 v_ga1) sz) [(ga, .inr (5, [.ref ga1, .ref ga2, .ref ga3, .ref ga4, .ref ga5, .int (v_ga 0 0), .int (v_ga 0 1), .int (v_ga 0 2)])), (ga1, .inl (cI, 10, .inl (v_ga 1))), (ga2, .inl (cI, 10, .inl (v_ga 2))), (ga3, .inl (cI, 10, .inl (v_ga 3))), (ga4, .inl (cI, 10, .inl (v_ga 4))), (ga5, .inl (cI, 5, .inl (v_ga 5))), (gb, .inr (5, [.ref gb1, .ref gb2, .ref gb3, .ref gb4, .ref gb5, .int (v_gb 0 0), .int (v_gb 0 1), .int (v_gb 0 2)])), (gb1, .inl (cI, 10, .inl (v_gb 1))), (gb2, .inl (cI, 10, .inl (v_gb 2))), (gb3, .inl (cI, 10, .inl (v_gb 3))), (gb4, .inl (cI, 10, .inl (v_gb 4))), (gb5, .inl (cI, 5, .inl (v_gb 5)))]
abbrev qc_X5_takeOvery (dC : Nat → ClassId) (dI : Nat → Nat → Nat) (cI cJ cB : ClassId) (ga ga1 ga2 ga3 ga4 ga5 gb gb1 gb2 gb3 gb4 gb5 : Nat) (sz : Nat) (v_ga0 : Nat → Nat → Int32) (v_gb : Nat → Nat → Int32) (n9 : Nat) (v_ga1 : Nat → Nat → Int32) : Array Value → State → Outcome → State → Prop := va_Qv (fun (u : (Nat → Nat → Int32)) => match u with | v_ga => (v_ga = v_ga1)) (at_X5_takeOvery dC dI cI cJ cB ga ga1 ga2 ga3 ga4 ga5 gb gb1 gb2 gb3 gb4 gb5 sz v_ga0 v_gb n9 v_ga1) (va_A (ww_X5_takeOvery dC dI cI cJ cB ga ga1 ga2 ga3 ga4 ga5 gb gb1 gb2 gb3 gb4 gb5 sz v_ga0 v_gb n9 v_ga1) sz)
abbrev pc_X5_takeOvery (dC : Nat → ClassId) (dI : Nat → Nat → Nat) (cI cJ cB : ClassId) (ga ga1 ga2 ga3 ga4 ga5 gb gb1 gb2 gb3 gb4 gb5 : Nat) (sz : Nat) (v_ga0 : Nat → Nat → Int32) (v_gb : Nat → Nat → Int32) (n9 : Nat) (v_ga1 : Nat → Nat → Int32) : Array Value → State → Prop := va_Pc [.ref ga, .ref gb] (fun U => U.heap.size = sz ∧ NW U ∧ va_P (dC, dI) vwCl (ww_X5_takeOvery dC dI cI cJ cB ga ga1 ga2 ga3 ga4 ga5 gb gb1 gb2 gb3 gb4 gb5 sz v_ga0 v_gb n9 v_ga1) U.heap ∧ va_K (dC, dI) vwCl (tyL cI cJ cB) U ∧ va_D (fun _ => True) (ww_X5_takeOvery dC dI cI cJ cB ga ga1 ga2 ga3 ga4 ga5 gb gb1 gb2 gb3 gb4 gb5 sz v_ga0 v_gb n9 v_ga1))
abbrev rm_X5_takeOvery : Room := { frames := 2, cells := 0, slots := 0, locals := 60 }
abbrev WW_X5_takeOvery (p : Program) (l : Launch) (e : Env) (s : State) (m : MethodId) (below : List Frame) (meth : Method) (c : Code) (dC : Nat → ClassId) (dI : Nat → Nat → Nat) (cI cJ cB : ClassId) (ga ga1 ga2 ga3 ga4 ga5 gb gb1 gb2 gb3 gb4 gb5 : Nat) (sz : Nat) (v_ga0 : Nat → Nat → Int32) (v_gb : Nat → Nat → Int32) (n9 : Nat) (v_ga1 : Nat → Nat → Int32) (H : Heap) (locs : List Loc) (g : JFrame) : Prop := W p l e rm_X5_takeOvery s m ([.ref ga, .ref gb] : List Value).toArray below meth c H locs 0 0 (MQ below (qc_X5_takeOvery dC dI cI cJ cB ga ga1 ga2 ga3 ga4 ga5 gb gb1 gb2 gb3 gb4 gb5 sz v_ga0 v_gb n9 v_ga1) ([.ref ga, .ref gb] : List Value).toArray s 0 0 (va_A (ww_X5_takeOvery dC dI cI cJ cB ga ga1 ga2 ga3 ga4 ga5 gb gb1 gb2 gb3 gb4 gb5 sz v_ga0 v_gb n9 v_ga1) sz)) g
set_option maxHeartbeats 4000000 in
set_option maxRecDepth 100000 in
theorem c_X5_takeOvery (l : Launch) (dC : Nat → ClassId) (dI : Nat → Nat → Nat) (cI cJ cB : ClassId) (ga ga1 ga2 ga3 ga4 ga5 gb gb1 gb2 gb3 gb4 gb5 : Nat) (sz : Nat) (v_ga0 : Nat → Nat → Int32) (v_gb : Nat → Nat → Int32) (n9 : Nat) (v_ga1 : Nat → Nat → Int32) (hf : fx_X5_takeOver n9 v_ga0 v_gb  = some (v_ga1)) : Met l yX5_takeOver wo_X5_takeOvery rm_X5_takeOvery (pc_X5_takeOvery dC dI cI cJ cB ga ga1 ga2 ga3 ga4 ga5 gb gb1 gb2 gb3 gb4 gb5 sz v_ga0 v_gb n9 v_ga1) (qc_X5_takeOvery dC dI cI cJ cB ga ga1 ga2 ga3 ga4 ga5 gb gb1 gb2 gb3 gb4 gb5 sz v_ga0 v_gb n9 v_ga1) 0 0 (va_A (ww_X5_takeOvery dC dI cI cJ cB ga ga1 ga2 ga3 ga4 ga5 gb gb1 gb2 gb3 gb4 gb5 sz v_ga0 v_gb n9 v_ga1) sz) := by
  unfold fx_X5_takeOver at hf
  refine Met.ofW (cc := cX5_takeOver) (maxL := 2) (ret := none) (by decide) rfl ?_
  intro p e s m args below meth c s₁ B hml hv
  obtain ⟨rfl, hsz, hnw, hP, hK, hD0⟩ := hv
  have hx := B.exec
  have hb := B.bytes
  have hr := B.returns
  have hts := atoms_spec (ws := wo_X5_takeOvery) B.pre
  have hown : s.vm.findClass RX5 = some m.cls := findClass_of_methodNamed B.named
  have hlocks := B.notSynchronized
  clear B
  subst hsz
  have hD := hD0.self (sz := s.heap.size)
  clear hD0
  have kk0_ := hts (.fieldLink RX5 9 "SumRewriter$Signature" "names" "[I") (by decide +kernel)
  have kk1_ : ∀ w ∈ wsX50, w ∈ wo_X5_takeOvery := fun _ h => (List.mem_cons_of_mem _ (List.mem_append_right _ h))
  have kk2_ := hts (.methodLink RX5 27 arraycopyName) (by decide +kernel)
  have kk3_ := hts (.native arraycopyName) (by decide +kernel)
  have kk4_ := hts (.static arraycopyName) (by decide +kernel)
  have kk5_ := hts (.initialized "java/lang/System") (by decide +kernel)
  have kk6_ := hts (.fieldLink RX5 15 "SumRewriter$Signature" "kinds" "[I") (by decide +kernel)
  have kk7_ := hts (.fieldLink RX5 18 "SumRewriter$Signature" "parts" "[I") (by decide +kernel)
  have kk8_ := hts (.fieldLink RX5 21 "SumRewriter$Signature" "units" "[I") (by decide +kernel)
  have kk9_ := hts (.fieldLink RX5 24 "SumRewriter$Signature" "variableNames" "[I") (by decide +kernel)
  have kk10_ := hts (.fieldLink RX5 33 "SumRewriter$Signature" "operators" "I") (by decide +kernel)
  have kk11_ := hts (.fieldLink RX5 37 "SumRewriter$Signature" "variables" "I") (by decide +kernel)
  have kk12_ := hts (.fieldLink RX5 40 "SumRewriter$Signature" "lastingBits" "I") (by decide +kernel)
  have hA : ∀ q : Nat, s.heap.size ≤ q → (va_A (ww_X5_takeOvery dC dI cI cJ cB ga ga1 ga2 ga3 ga4 ga5 gb gb1 gb2 gb3 gb4 gb5 s.heap.size v_ga0 v_gb n9 v_ga1) s.heap.size) q := fun q h => Or.inr h
  have hS : va_S (va_A (ww_X5_takeOvery dC dI cI cJ cB ga ga1 ga2 ga3 ga4 ga5 gb gb1 gb2 gb3 gb4 gb5 s.heap.size v_ga0 v_gb n9 v_ga1) s.heap.size) s.heap s.heap [] := va_S.rf
  have hl := lv_entry ([.ref ga, .ref gb]) (n := 2) (Nat.le_of_ble_eq_true rfl)
  rw [lg_entry_eq]
  generalize (lg_sl ([.ref ga, .ref gb]) ++ List.replicate (2 - (lg_sl ([.ref ga, .ref gb])).length) Slot.unset).toArray = ls at hl ⊢
  have hl : lv_has ls 2 [(0, .ref ga), (1, .ref gb)] := hl
  have hP : va_P (dC, dI) vwCl [(ga, .inr (5, [.ref ga1, .ref ga2, .ref ga3, .ref ga4, .ref ga5, .int (v_ga0 0 0), .int (v_ga0 0 1), .int (v_ga0 0 2)])), (ga1, .inl (cI, 10, .inl (v_ga0 1))), (ga2, .inl (cI, 10, .inl (v_ga0 2))), (ga3, .inl (cI, 10, .inl (v_ga0 3))), (ga4, .inl (cI, 10, .inl (v_ga0 4))), (ga5, .inl (cI, 5, .inl (v_ga0 5))), (gb, .inr (5, [.ref gb1, .ref gb2, .ref gb3, .ref gb4, .ref gb5, .int (v_gb 0 0), .int (v_gb 0 1), .int (v_gb 0 2)])), (gb1, .inl (cI, 10, .inl (v_gb 1))), (gb2, .inl (cI, 10, .inl (v_gb 2))), (gb3, .inl (cI, 10, .inl (v_gb 3))), (gb4, .inl (cI, 10, .inl (v_gb 4))), (gb5, .inl (cI, 5, .inl (v_gb 5)))] s.heap := hP
  have hD : va_D (va_A (ww_X5_takeOvery dC dI cI cJ cB ga ga1 ga2 ga3 ga4 ga5 gb gb1 gb2 gb3 gb4 gb5 s.heap.size v_ga0 v_gb n9 v_ga1) s.heap.size) [(ga, .inr (5, [.ref ga1, .ref ga2, .ref ga3, .ref ga4, .ref ga5, .int (v_ga0 0 0), .int (v_ga0 0 1), .int (v_ga0 0 2)])), (ga1, .inl (cI, 10, .inl (v_ga0 1))), (ga2, .inl (cI, 10, .inl (v_ga0 2))), (ga3, .inl (cI, 10, .inl (v_ga0 3))), (ga4, .inl (cI, 10, .inl (v_ga0 4))), (ga5, .inl (cI, 5, .inl (v_ga0 5))), (gb, .inr (5, [.ref gb1, .ref gb2, .ref gb3, .ref gb4, .ref gb5, .int (v_gb 0 0), .int (v_gb 0 1), .int (v_gb 0 2)])), (gb1, .inl (cI, 10, .inl (v_gb 1))), (gb2, .inl (cI, 10, .inl (v_gb 2))), (gb3, .inl (cI, 10, .inl (v_gb 3))), (gb4, .inl (cI, 10, .inl (v_gb 4))), (gb5, .inl (cI, 5, .inl (v_gb 5)))] := hD
  obtain ⟨H, hH⟩ : ∃ H, H = s.heap := ⟨_, rfl⟩
  obtain ⟨locs, hlc⟩ : ∃ L : List Loc, L = [] := ⟨_, rfl⟩
  have hS : va_S (va_A (ww_X5_takeOvery dC dI cI cJ cB ga ga1 ga2 ga3 ga4 ga5 gb gb1 gb2 gb3 gb4 gb5 s.heap.size v_ga0 v_gb n9 v_ga1) s.heap.size) s.heap H locs := by rw [hH, hlc]; exact hS
  have hP : va_P (dC, dI) vwCl [(ga, .inr (5, [.ref ga1, .ref ga2, .ref ga3, .ref ga4, .ref ga5, .int (v_ga0 0 0), .int (v_ga0 0 1), .int (v_ga0 0 2)])), (ga1, .inl (cI, 10, .inl (v_ga0 1))), (ga2, .inl (cI, 10, .inl (v_ga0 2))), (ga3, .inl (cI, 10, .inl (v_ga0 3))), (ga4, .inl (cI, 10, .inl (v_ga0 4))), (ga5, .inl (cI, 5, .inl (v_ga0 5))), (gb, .inr (5, [.ref gb1, .ref gb2, .ref gb3, .ref gb4, .ref gb5, .int (v_gb 0 0), .int (v_gb 0 1), .int (v_gb 0 2)])), (gb1, .inl (cI, 10, .inl (v_gb 1))), (gb2, .inl (cI, 10, .inl (v_gb 2))), (gb3, .inl (cI, 10, .inl (v_gb 3))), (gb4, .inl (cI, 10, .inl (v_gb 4))), (gb5, .inl (cI, 5, .inl (v_gb 5)))] H := by rw [hH]; exact hP
  suffices hgo : WW_X5_takeOvery p l e s m below meth c dC dI cI cJ cB ga ga1 ga2 ga3 ga4 ga5 gb gb1 gb2 gb3 gb4 gb5 s.heap.size v_ga0 v_gb n9 v_ga1 H locs (F0 m 0 ls []) by rw [hH, hlc] at hgo; exact hgo
  clear hH hlc
  refine lv_aload_n hx hb dX5_takeOver_0 rfl (lv_at hl 1 rfl) ?_
  refine va_get (D := (dC, dI)) (ci := 5) (v := .ref gb1) (C := RX5) (T := TX5) (N := 8) hx hb hts kk1_ hown hK hP 6 rfl rfl 0 (by decide) kk0_ (fun _ h9 => h9) rfl dX5_takeOver_1 ?_
  refine lv_iconst (v := 0) hx hb dX5_takeOver_4 (by decide) ?_
  refine lv_aload_n hx hb dX5_takeOver_5 rfl (lv_at hl 0 rfl) ?_
  refine va_get (D := (dC, dI)) (ci := 5) (v := .ref ga1) (C := RX5) (T := TX5) (N := 8) hx hb hts kk1_ hown hK hP 0 rfl rfl 0 (by decide) kk0_ (fun _ h9 => h9) rfl dX5_takeOver_6 ?_
  refine lv_iconst (v := 0) hx hb dX5_takeOver_9 (by decide) ?_
  refine lv_bipush (v := 10) hx hb dX5_takeOver_10 (by decide) ?_
  obtain ⟨w9a, w9b, w9c, w9d, w9e⟩ := xcp_in hf
  refine va_copyi hx hb (by rw [hml]; exact hl.1.symm) hown kk2_ kk3_ kk4_ kk5_ hK hP hD hS 7 1 0 0 rfl rfl rfl rfl rfl w9a w9b w9c w9d w9e (fun _ _ => rfl) (Nat.le_of_ble_eq_true rfl) (Nat.le_of_ble_eq_true rfl) dX5_takeOver_12 (fun H locs hP hD hS => ?_)
  obtain ⟨v_ga_1, ev_ga_1⟩ : ∃ z, z = mcp v_ga0 1 (v_gb 1) ((0 : Int32)).toNatClampNeg ((0 : Int32)).toNatClampNeg ((10 : Int32)).toNatClampNeg := ⟨_, rfl⟩
  have hP : va_P (dC, dI) vwCl [(ga, .inr (5, [.ref ga1, .ref ga2, .ref ga3, .ref ga4, .ref ga5, .int (v_ga_1 0 0), .int (v_ga_1 0 1), .int (v_ga_1 0 2)])), (ga1, .inl (cI, 10, .inl (v_ga_1 1))), (ga2, .inl (cI, 10, .inl (v_ga_1 2))), (ga3, .inl (cI, 10, .inl (v_ga_1 3))), (ga4, .inl (cI, 10, .inl (v_ga_1 4))), (ga5, .inl (cI, 5, .inl (v_ga_1 5))), (gb, .inr (5, [.ref gb1, .ref gb2, .ref gb3, .ref gb4, .ref gb5, .int (v_gb 0 0), .int (v_gb 0 1), .int (v_gb 0 2)])), (gb1, .inl (cI, 10, .inl (v_gb 1))), (gb2, .inl (cI, 10, .inl (v_gb 2))), (gb3, .inl (cI, 10, .inl (v_gb 3))), (gb4, .inl (cI, 10, .inl (v_gb 4))), (gb5, .inl (cI, 5, .inl (v_gb 5)))] H := by rw [ev_ga_1]; exact hP
  have hD : va_D (va_A (ww_X5_takeOvery dC dI cI cJ cB ga ga1 ga2 ga3 ga4 ga5 gb gb1 gb2 gb3 gb4 gb5 s.heap.size v_ga0 v_gb n9 v_ga1) s.heap.size) [(ga, .inr (5, [.ref ga1, .ref ga2, .ref ga3, .ref ga4, .ref ga5, .int (v_ga_1 0 0), .int (v_ga_1 0 1), .int (v_ga_1 0 2)])), (ga1, .inl (cI, 10, .inl (v_ga_1 1))), (ga2, .inl (cI, 10, .inl (v_ga_1 2))), (ga3, .inl (cI, 10, .inl (v_ga_1 3))), (ga4, .inl (cI, 10, .inl (v_ga_1 4))), (ga5, .inl (cI, 5, .inl (v_ga_1 5))), (gb, .inr (5, [.ref gb1, .ref gb2, .ref gb3, .ref gb4, .ref gb5, .int (v_gb 0 0), .int (v_gb 0 1), .int (v_gb 0 2)])), (gb1, .inl (cI, 10, .inl (v_gb 1))), (gb2, .inl (cI, 10, .inl (v_gb 2))), (gb3, .inl (cI, 10, .inl (v_gb 3))), (gb4, .inl (cI, 10, .inl (v_gb 4))), (gb5, .inl (cI, 5, .inl (v_gb 5)))] := by rw [ev_ga_1]; exact hD
  clear w9a w9b w9c w9d w9e
  replace hf := xcp_to ev_ga_1 hf
  refine lv_aload_n hx hb dX5_takeOver_15 rfl (lv_at hl 1 rfl) ?_
  refine va_get (D := (dC, dI)) (ci := 5) (v := .ref gb2) (C := RX5) (T := TX5) (N := 8) hx hb hts kk1_ hown hK hP 6 rfl rfl 1 (by decide) kk6_ (fun _ h9 => h9) rfl dX5_takeOver_16 ?_
  refine lv_iconst (v := 0) hx hb dX5_takeOver_19 (by decide) ?_
  refine lv_aload_n hx hb dX5_takeOver_20 rfl (lv_at hl 0 rfl) ?_
  refine va_get (D := (dC, dI)) (ci := 5) (v := .ref ga2) (C := RX5) (T := TX5) (N := 8) hx hb hts kk1_ hown hK hP 0 rfl rfl 1 (by decide) kk6_ (fun _ h9 => h9) rfl dX5_takeOver_21 ?_
  refine lv_iconst (v := 0) hx hb dX5_takeOver_24 (by decide) ?_
  refine lv_bipush (v := 10) hx hb dX5_takeOver_25 (by decide) ?_
  obtain ⟨w9a, w9b, w9c, w9d, w9e⟩ := xcp_in hf
  refine va_copyi hx hb (by rw [hml]; exact hl.1.symm) hown kk2_ kk3_ kk4_ kk5_ hK hP hD hS 8 2 0 0 rfl rfl rfl rfl rfl w9a w9b w9c w9d w9e (fun _ _ => rfl) (Nat.le_of_ble_eq_true rfl) (Nat.le_of_ble_eq_true rfl) dX5_takeOver_27 (fun H locs hP hD hS => ?_)
  obtain ⟨v_ga_2, ev_ga_2⟩ : ∃ z, z = mcp v_ga_1 2 (v_gb 2) ((0 : Int32)).toNatClampNeg ((0 : Int32)).toNatClampNeg ((10 : Int32)).toNatClampNeg := ⟨_, rfl⟩
  have hP : va_P (dC, dI) vwCl [(ga, .inr (5, [.ref ga1, .ref ga2, .ref ga3, .ref ga4, .ref ga5, .int (v_ga_2 0 0), .int (v_ga_2 0 1), .int (v_ga_2 0 2)])), (ga1, .inl (cI, 10, .inl (v_ga_2 1))), (ga2, .inl (cI, 10, .inl (v_ga_2 2))), (ga3, .inl (cI, 10, .inl (v_ga_2 3))), (ga4, .inl (cI, 10, .inl (v_ga_2 4))), (ga5, .inl (cI, 5, .inl (v_ga_2 5))), (gb, .inr (5, [.ref gb1, .ref gb2, .ref gb3, .ref gb4, .ref gb5, .int (v_gb 0 0), .int (v_gb 0 1), .int (v_gb 0 2)])), (gb1, .inl (cI, 10, .inl (v_gb 1))), (gb2, .inl (cI, 10, .inl (v_gb 2))), (gb3, .inl (cI, 10, .inl (v_gb 3))), (gb4, .inl (cI, 10, .inl (v_gb 4))), (gb5, .inl (cI, 5, .inl (v_gb 5)))] H := by rw [ev_ga_2]; exact hP
  have hD : va_D (va_A (ww_X5_takeOvery dC dI cI cJ cB ga ga1 ga2 ga3 ga4 ga5 gb gb1 gb2 gb3 gb4 gb5 s.heap.size v_ga0 v_gb n9 v_ga1) s.heap.size) [(ga, .inr (5, [.ref ga1, .ref ga2, .ref ga3, .ref ga4, .ref ga5, .int (v_ga_2 0 0), .int (v_ga_2 0 1), .int (v_ga_2 0 2)])), (ga1, .inl (cI, 10, .inl (v_ga_2 1))), (ga2, .inl (cI, 10, .inl (v_ga_2 2))), (ga3, .inl (cI, 10, .inl (v_ga_2 3))), (ga4, .inl (cI, 10, .inl (v_ga_2 4))), (ga5, .inl (cI, 5, .inl (v_ga_2 5))), (gb, .inr (5, [.ref gb1, .ref gb2, .ref gb3, .ref gb4, .ref gb5, .int (v_gb 0 0), .int (v_gb 0 1), .int (v_gb 0 2)])), (gb1, .inl (cI, 10, .inl (v_gb 1))), (gb2, .inl (cI, 10, .inl (v_gb 2))), (gb3, .inl (cI, 10, .inl (v_gb 3))), (gb4, .inl (cI, 10, .inl (v_gb 4))), (gb5, .inl (cI, 5, .inl (v_gb 5)))] := by rw [ev_ga_2]; exact hD
  clear w9a w9b w9c w9d w9e
  replace hf := xcp_to ev_ga_2 hf
  refine lv_aload_n hx hb dX5_takeOver_30 rfl (lv_at hl 1 rfl) ?_
  refine va_get (D := (dC, dI)) (ci := 5) (v := .ref gb3) (C := RX5) (T := TX5) (N := 8) hx hb hts kk1_ hown hK hP 6 rfl rfl 2 (by decide) kk7_ (fun _ h9 => h9) rfl dX5_takeOver_31 ?_
  refine lv_iconst (v := 0) hx hb dX5_takeOver_34 (by decide) ?_
  refine lv_aload_n hx hb dX5_takeOver_35 rfl (lv_at hl 0 rfl) ?_
  refine va_get (D := (dC, dI)) (ci := 5) (v := .ref ga3) (C := RX5) (T := TX5) (N := 8) hx hb hts kk1_ hown hK hP 0 rfl rfl 2 (by decide) kk7_ (fun _ h9 => h9) rfl dX5_takeOver_36 ?_
  refine lv_iconst (v := 0) hx hb dX5_takeOver_39 (by decide) ?_
  refine lv_bipush (v := 10) hx hb dX5_takeOver_40 (by decide) ?_
  obtain ⟨w9a, w9b, w9c, w9d, w9e⟩ := xcp_in hf
  refine va_copyi hx hb (by rw [hml]; exact hl.1.symm) hown kk2_ kk3_ kk4_ kk5_ hK hP hD hS 9 3 0 0 rfl rfl rfl rfl rfl w9a w9b w9c w9d w9e (fun _ _ => rfl) (Nat.le_of_ble_eq_true rfl) (Nat.le_of_ble_eq_true rfl) dX5_takeOver_42 (fun H locs hP hD hS => ?_)
  obtain ⟨v_ga_3, ev_ga_3⟩ : ∃ z, z = mcp v_ga_2 3 (v_gb 3) ((0 : Int32)).toNatClampNeg ((0 : Int32)).toNatClampNeg ((10 : Int32)).toNatClampNeg := ⟨_, rfl⟩
  have hP : va_P (dC, dI) vwCl [(ga, .inr (5, [.ref ga1, .ref ga2, .ref ga3, .ref ga4, .ref ga5, .int (v_ga_3 0 0), .int (v_ga_3 0 1), .int (v_ga_3 0 2)])), (ga1, .inl (cI, 10, .inl (v_ga_3 1))), (ga2, .inl (cI, 10, .inl (v_ga_3 2))), (ga3, .inl (cI, 10, .inl (v_ga_3 3))), (ga4, .inl (cI, 10, .inl (v_ga_3 4))), (ga5, .inl (cI, 5, .inl (v_ga_3 5))), (gb, .inr (5, [.ref gb1, .ref gb2, .ref gb3, .ref gb4, .ref gb5, .int (v_gb 0 0), .int (v_gb 0 1), .int (v_gb 0 2)])), (gb1, .inl (cI, 10, .inl (v_gb 1))), (gb2, .inl (cI, 10, .inl (v_gb 2))), (gb3, .inl (cI, 10, .inl (v_gb 3))), (gb4, .inl (cI, 10, .inl (v_gb 4))), (gb5, .inl (cI, 5, .inl (v_gb 5)))] H := by rw [ev_ga_3]; exact hP
  have hD : va_D (va_A (ww_X5_takeOvery dC dI cI cJ cB ga ga1 ga2 ga3 ga4 ga5 gb gb1 gb2 gb3 gb4 gb5 s.heap.size v_ga0 v_gb n9 v_ga1) s.heap.size) [(ga, .inr (5, [.ref ga1, .ref ga2, .ref ga3, .ref ga4, .ref ga5, .int (v_ga_3 0 0), .int (v_ga_3 0 1), .int (v_ga_3 0 2)])), (ga1, .inl (cI, 10, .inl (v_ga_3 1))), (ga2, .inl (cI, 10, .inl (v_ga_3 2))), (ga3, .inl (cI, 10, .inl (v_ga_3 3))), (ga4, .inl (cI, 10, .inl (v_ga_3 4))), (ga5, .inl (cI, 5, .inl (v_ga_3 5))), (gb, .inr (5, [.ref gb1, .ref gb2, .ref gb3, .ref gb4, .ref gb5, .int (v_gb 0 0), .int (v_gb 0 1), .int (v_gb 0 2)])), (gb1, .inl (cI, 10, .inl (v_gb 1))), (gb2, .inl (cI, 10, .inl (v_gb 2))), (gb3, .inl (cI, 10, .inl (v_gb 3))), (gb4, .inl (cI, 10, .inl (v_gb 4))), (gb5, .inl (cI, 5, .inl (v_gb 5)))] := by rw [ev_ga_3]; exact hD
  clear w9a w9b w9c w9d w9e
  replace hf := xcp_to ev_ga_3 hf
  refine lv_aload_n hx hb dX5_takeOver_45 rfl (lv_at hl 1 rfl) ?_
  refine va_get (D := (dC, dI)) (ci := 5) (v := .ref gb4) (C := RX5) (T := TX5) (N := 8) hx hb hts kk1_ hown hK hP 6 rfl rfl 3 (by decide) kk8_ (fun _ h9 => h9) rfl dX5_takeOver_46 ?_
  refine lv_iconst (v := 0) hx hb dX5_takeOver_49 (by decide) ?_
  refine lv_aload_n hx hb dX5_takeOver_50 rfl (lv_at hl 0 rfl) ?_
  refine va_get (D := (dC, dI)) (ci := 5) (v := .ref ga4) (C := RX5) (T := TX5) (N := 8) hx hb hts kk1_ hown hK hP 0 rfl rfl 3 (by decide) kk8_ (fun _ h9 => h9) rfl dX5_takeOver_51 ?_
  refine lv_iconst (v := 0) hx hb dX5_takeOver_54 (by decide) ?_
  refine lv_bipush (v := 10) hx hb dX5_takeOver_55 (by decide) ?_
  obtain ⟨w9a, w9b, w9c, w9d, w9e⟩ := xcp_in hf
  refine va_copyi hx hb (by rw [hml]; exact hl.1.symm) hown kk2_ kk3_ kk4_ kk5_ hK hP hD hS 10 4 0 0 rfl rfl rfl rfl rfl w9a w9b w9c w9d w9e (fun _ _ => rfl) (Nat.le_of_ble_eq_true rfl) (Nat.le_of_ble_eq_true rfl) dX5_takeOver_57 (fun H locs hP hD hS => ?_)
  obtain ⟨v_ga_4, ev_ga_4⟩ : ∃ z, z = mcp v_ga_3 4 (v_gb 4) ((0 : Int32)).toNatClampNeg ((0 : Int32)).toNatClampNeg ((10 : Int32)).toNatClampNeg := ⟨_, rfl⟩
  have hP : va_P (dC, dI) vwCl [(ga, .inr (5, [.ref ga1, .ref ga2, .ref ga3, .ref ga4, .ref ga5, .int (v_ga_4 0 0), .int (v_ga_4 0 1), .int (v_ga_4 0 2)])), (ga1, .inl (cI, 10, .inl (v_ga_4 1))), (ga2, .inl (cI, 10, .inl (v_ga_4 2))), (ga3, .inl (cI, 10, .inl (v_ga_4 3))), (ga4, .inl (cI, 10, .inl (v_ga_4 4))), (ga5, .inl (cI, 5, .inl (v_ga_4 5))), (gb, .inr (5, [.ref gb1, .ref gb2, .ref gb3, .ref gb4, .ref gb5, .int (v_gb 0 0), .int (v_gb 0 1), .int (v_gb 0 2)])), (gb1, .inl (cI, 10, .inl (v_gb 1))), (gb2, .inl (cI, 10, .inl (v_gb 2))), (gb3, .inl (cI, 10, .inl (v_gb 3))), (gb4, .inl (cI, 10, .inl (v_gb 4))), (gb5, .inl (cI, 5, .inl (v_gb 5)))] H := by rw [ev_ga_4]; exact hP
  have hD : va_D (va_A (ww_X5_takeOvery dC dI cI cJ cB ga ga1 ga2 ga3 ga4 ga5 gb gb1 gb2 gb3 gb4 gb5 s.heap.size v_ga0 v_gb n9 v_ga1) s.heap.size) [(ga, .inr (5, [.ref ga1, .ref ga2, .ref ga3, .ref ga4, .ref ga5, .int (v_ga_4 0 0), .int (v_ga_4 0 1), .int (v_ga_4 0 2)])), (ga1, .inl (cI, 10, .inl (v_ga_4 1))), (ga2, .inl (cI, 10, .inl (v_ga_4 2))), (ga3, .inl (cI, 10, .inl (v_ga_4 3))), (ga4, .inl (cI, 10, .inl (v_ga_4 4))), (ga5, .inl (cI, 5, .inl (v_ga_4 5))), (gb, .inr (5, [.ref gb1, .ref gb2, .ref gb3, .ref gb4, .ref gb5, .int (v_gb 0 0), .int (v_gb 0 1), .int (v_gb 0 2)])), (gb1, .inl (cI, 10, .inl (v_gb 1))), (gb2, .inl (cI, 10, .inl (v_gb 2))), (gb3, .inl (cI, 10, .inl (v_gb 3))), (gb4, .inl (cI, 10, .inl (v_gb 4))), (gb5, .inl (cI, 5, .inl (v_gb 5)))] := by rw [ev_ga_4]; exact hD
  clear w9a w9b w9c w9d w9e
  replace hf := xcp_to ev_ga_4 hf
  refine lv_aload_n hx hb dX5_takeOver_60 rfl (lv_at hl 1 rfl) ?_
  refine va_get (D := (dC, dI)) (ci := 5) (v := .ref gb5) (C := RX5) (T := TX5) (N := 8) hx hb hts kk1_ hown hK hP 6 rfl rfl 4 (by decide) kk9_ (fun _ h9 => h9) rfl dX5_takeOver_61 ?_
  refine lv_iconst (v := 0) hx hb dX5_takeOver_64 (by decide) ?_
  refine lv_aload_n hx hb dX5_takeOver_65 rfl (lv_at hl 0 rfl) ?_
  refine va_get (D := (dC, dI)) (ci := 5) (v := .ref ga5) (C := RX5) (T := TX5) (N := 8) hx hb hts kk1_ hown hK hP 0 rfl rfl 4 (by decide) kk9_ (fun _ h9 => h9) rfl dX5_takeOver_66 ?_
  refine lv_iconst (v := 0) hx hb dX5_takeOver_69 (by decide) ?_
  refine lv_iconst (v := 5) hx hb dX5_takeOver_70 (by decide) ?_
  obtain ⟨w9a, w9b, w9c, w9d, w9e⟩ := xcp_in hf
  refine va_copyi hx hb (by rw [hml]; exact hl.1.symm) hown kk2_ kk3_ kk4_ kk5_ hK hP hD hS 11 5 0 0 rfl rfl rfl rfl rfl w9a w9b w9c w9d w9e (fun _ _ => rfl) (Nat.le_of_ble_eq_true rfl) (Nat.le_of_ble_eq_true rfl) dX5_takeOver_71 (fun H locs hP hD hS => ?_)
  obtain ⟨v_ga_5, ev_ga_5⟩ : ∃ z, z = mcp v_ga_4 5 (v_gb 5) ((0 : Int32)).toNatClampNeg ((0 : Int32)).toNatClampNeg ((5 : Int32)).toNatClampNeg := ⟨_, rfl⟩
  have hP : va_P (dC, dI) vwCl [(ga, .inr (5, [.ref ga1, .ref ga2, .ref ga3, .ref ga4, .ref ga5, .int (v_ga_5 0 0), .int (v_ga_5 0 1), .int (v_ga_5 0 2)])), (ga1, .inl (cI, 10, .inl (v_ga_5 1))), (ga2, .inl (cI, 10, .inl (v_ga_5 2))), (ga3, .inl (cI, 10, .inl (v_ga_5 3))), (ga4, .inl (cI, 10, .inl (v_ga_5 4))), (ga5, .inl (cI, 5, .inl (v_ga_5 5))), (gb, .inr (5, [.ref gb1, .ref gb2, .ref gb3, .ref gb4, .ref gb5, .int (v_gb 0 0), .int (v_gb 0 1), .int (v_gb 0 2)])), (gb1, .inl (cI, 10, .inl (v_gb 1))), (gb2, .inl (cI, 10, .inl (v_gb 2))), (gb3, .inl (cI, 10, .inl (v_gb 3))), (gb4, .inl (cI, 10, .inl (v_gb 4))), (gb5, .inl (cI, 5, .inl (v_gb 5)))] H := by rw [ev_ga_5]; exact hP
  have hD : va_D (va_A (ww_X5_takeOvery dC dI cI cJ cB ga ga1 ga2 ga3 ga4 ga5 gb gb1 gb2 gb3 gb4 gb5 s.heap.size v_ga0 v_gb n9 v_ga1) s.heap.size) [(ga, .inr (5, [.ref ga1, .ref ga2, .ref ga3, .ref ga4, .ref ga5, .int (v_ga_5 0 0), .int (v_ga_5 0 1), .int (v_ga_5 0 2)])), (ga1, .inl (cI, 10, .inl (v_ga_5 1))), (ga2, .inl (cI, 10, .inl (v_ga_5 2))), (ga3, .inl (cI, 10, .inl (v_ga_5 3))), (ga4, .inl (cI, 10, .inl (v_ga_5 4))), (ga5, .inl (cI, 5, .inl (v_ga_5 5))), (gb, .inr (5, [.ref gb1, .ref gb2, .ref gb3, .ref gb4, .ref gb5, .int (v_gb 0 0), .int (v_gb 0 1), .int (v_gb 0 2)])), (gb1, .inl (cI, 10, .inl (v_gb 1))), (gb2, .inl (cI, 10, .inl (v_gb 2))), (gb3, .inl (cI, 10, .inl (v_gb 3))), (gb4, .inl (cI, 10, .inl (v_gb 4))), (gb5, .inl (cI, 5, .inl (v_gb 5)))] := by rw [ev_ga_5]; exact hD
  clear w9a w9b w9c w9d w9e
  replace hf := xcp_to ev_ga_5 hf
  refine lv_aload_n hx hb dX5_takeOver_74 rfl (lv_at hl 0 rfl) ?_
  refine lv_aload_n hx hb dX5_takeOver_75 rfl (lv_at hl 1 rfl) ?_
  refine va_get (D := (dC, dI)) (ci := 5) (v := .int (v_gb 0 0)) (C := RX5) (T := TX5) (N := 8) hx hb hts kk1_ hown hK hP 6 rfl rfl 5 (by decide) kk10_ (fun _ h9 => h9) rfl dX5_takeOver_76 ?_
  refine va_put (D := (dC, dI)) (ci := 5) (v := .int (v_gb 0 0)) (ty := .int) (C := RX5) (T := TX5) (N := 8) hx hb hts kk1_ tyX5 tyX5_ok nmX5 hown hK hP hD hS 0 rfl rfl 5 (by decide) kk10_ (fun _ h9 => h9) rfl (by decide +kernel) rfl rfl (Nat.le_of_ble_eq_true rfl) dX5_takeOver_79 (fun H locs hP hD hS => ?_)
  obtain ⟨v_ga_6, ev_ga_6⟩ : ∃ z, z = mu v_ga_5 0 0 (v_gb 0 0) := ⟨_, rfl⟩
  have hP : va_P (dC, dI) vwCl [(ga, .inr (5, [.ref ga1, .ref ga2, .ref ga3, .ref ga4, .ref ga5, .int (v_ga_6 0 0), .int (v_ga_6 0 1), .int (v_ga_6 0 2)])), (ga1, .inl (cI, 10, .inl (v_ga_6 1))), (ga2, .inl (cI, 10, .inl (v_ga_6 2))), (ga3, .inl (cI, 10, .inl (v_ga_6 3))), (ga4, .inl (cI, 10, .inl (v_ga_6 4))), (ga5, .inl (cI, 5, .inl (v_ga_6 5))), (gb, .inr (5, [.ref gb1, .ref gb2, .ref gb3, .ref gb4, .ref gb5, .int (v_gb 0 0), .int (v_gb 0 1), .int (v_gb 0 2)])), (gb1, .inl (cI, 10, .inl (v_gb 1))), (gb2, .inl (cI, 10, .inl (v_gb 2))), (gb3, .inl (cI, 10, .inl (v_gb 3))), (gb4, .inl (cI, 10, .inl (v_gb 4))), (gb5, .inl (cI, 5, .inl (v_gb 5)))] H := by rw [ev_ga_6]; exact hP
  have hD : va_D (va_A (ww_X5_takeOvery dC dI cI cJ cB ga ga1 ga2 ga3 ga4 ga5 gb gb1 gb2 gb3 gb4 gb5 s.heap.size v_ga0 v_gb n9 v_ga1) s.heap.size) [(ga, .inr (5, [.ref ga1, .ref ga2, .ref ga3, .ref ga4, .ref ga5, .int (v_ga_6 0 0), .int (v_ga_6 0 1), .int (v_ga_6 0 2)])), (ga1, .inl (cI, 10, .inl (v_ga_6 1))), (ga2, .inl (cI, 10, .inl (v_ga_6 2))), (ga3, .inl (cI, 10, .inl (v_ga_6 3))), (ga4, .inl (cI, 10, .inl (v_ga_6 4))), (ga5, .inl (cI, 5, .inl (v_ga_6 5))), (gb, .inr (5, [.ref gb1, .ref gb2, .ref gb3, .ref gb4, .ref gb5, .int (v_gb 0 0), .int (v_gb 0 1), .int (v_gb 0 2)])), (gb1, .inl (cI, 10, .inl (v_gb 1))), (gb2, .inl (cI, 10, .inl (v_gb 2))), (gb3, .inl (cI, 10, .inl (v_gb 3))), (gb4, .inl (cI, 10, .inl (v_gb 4))), (gb5, .inl (cI, 5, .inl (v_gb 5)))] := by rw [ev_ga_6]; exact hD
  replace hf := xl_to ev_ga_6 hf
  refine lv_aload_n hx hb dX5_takeOver_82 rfl (lv_at hl 0 rfl) ?_
  refine lv_aload_n hx hb dX5_takeOver_83 rfl (lv_at hl 1 rfl) ?_
  refine va_get (D := (dC, dI)) (ci := 5) (v := .int (v_gb 0 1)) (C := RX5) (T := TX5) (N := 8) hx hb hts kk1_ hown hK hP 6 rfl rfl 6 (by decide) kk11_ (fun _ h9 => h9) rfl dX5_takeOver_84 ?_
  refine va_put (D := (dC, dI)) (ci := 5) (v := .int (v_gb 0 1)) (ty := .int) (C := RX5) (T := TX5) (N := 8) hx hb hts kk1_ tyX5 tyX5_ok nmX5 hown hK hP hD hS 0 rfl rfl 6 (by decide) kk11_ (fun _ h9 => h9) rfl (by decide +kernel) rfl rfl (Nat.le_of_ble_eq_true rfl) dX5_takeOver_87 (fun H locs hP hD hS => ?_)
  obtain ⟨v_ga_7, ev_ga_7⟩ : ∃ z, z = mu v_ga_6 0 1 (v_gb 0 1) := ⟨_, rfl⟩
  have hP : va_P (dC, dI) vwCl [(ga, .inr (5, [.ref ga1, .ref ga2, .ref ga3, .ref ga4, .ref ga5, .int (v_ga_7 0 0), .int (v_ga_7 0 1), .int (v_ga_7 0 2)])), (ga1, .inl (cI, 10, .inl (v_ga_7 1))), (ga2, .inl (cI, 10, .inl (v_ga_7 2))), (ga3, .inl (cI, 10, .inl (v_ga_7 3))), (ga4, .inl (cI, 10, .inl (v_ga_7 4))), (ga5, .inl (cI, 5, .inl (v_ga_7 5))), (gb, .inr (5, [.ref gb1, .ref gb2, .ref gb3, .ref gb4, .ref gb5, .int (v_gb 0 0), .int (v_gb 0 1), .int (v_gb 0 2)])), (gb1, .inl (cI, 10, .inl (v_gb 1))), (gb2, .inl (cI, 10, .inl (v_gb 2))), (gb3, .inl (cI, 10, .inl (v_gb 3))), (gb4, .inl (cI, 10, .inl (v_gb 4))), (gb5, .inl (cI, 5, .inl (v_gb 5)))] H := by rw [ev_ga_7]; exact hP
  have hD : va_D (va_A (ww_X5_takeOvery dC dI cI cJ cB ga ga1 ga2 ga3 ga4 ga5 gb gb1 gb2 gb3 gb4 gb5 s.heap.size v_ga0 v_gb n9 v_ga1) s.heap.size) [(ga, .inr (5, [.ref ga1, .ref ga2, .ref ga3, .ref ga4, .ref ga5, .int (v_ga_7 0 0), .int (v_ga_7 0 1), .int (v_ga_7 0 2)])), (ga1, .inl (cI, 10, .inl (v_ga_7 1))), (ga2, .inl (cI, 10, .inl (v_ga_7 2))), (ga3, .inl (cI, 10, .inl (v_ga_7 3))), (ga4, .inl (cI, 10, .inl (v_ga_7 4))), (ga5, .inl (cI, 5, .inl (v_ga_7 5))), (gb, .inr (5, [.ref gb1, .ref gb2, .ref gb3, .ref gb4, .ref gb5, .int (v_gb 0 0), .int (v_gb 0 1), .int (v_gb 0 2)])), (gb1, .inl (cI, 10, .inl (v_gb 1))), (gb2, .inl (cI, 10, .inl (v_gb 2))), (gb3, .inl (cI, 10, .inl (v_gb 3))), (gb4, .inl (cI, 10, .inl (v_gb 4))), (gb5, .inl (cI, 5, .inl (v_gb 5)))] := by rw [ev_ga_7]; exact hD
  replace hf := xl_to ev_ga_7 hf
  refine lv_aload_n hx hb dX5_takeOver_90 rfl (lv_at hl 0 rfl) ?_
  refine lv_aload_n hx hb dX5_takeOver_91 rfl (lv_at hl 1 rfl) ?_
  refine va_get (D := (dC, dI)) (ci := 5) (v := .int (v_gb 0 2)) (C := RX5) (T := TX5) (N := 8) hx hb hts kk1_ hown hK hP 6 rfl rfl 7 (by decide) kk12_ (fun _ h9 => h9) rfl dX5_takeOver_92 ?_
  refine va_put (D := (dC, dI)) (ci := 5) (v := .int (v_gb 0 2)) (ty := .int) (C := RX5) (T := TX5) (N := 8) hx hb hts kk1_ tyX5 tyX5_ok nmX5 hown hK hP hD hS 0 rfl rfl 7 (by decide) kk12_ (fun _ h9 => h9) rfl (by decide +kernel) rfl rfl (Nat.le_of_ble_eq_true rfl) dX5_takeOver_95 (fun H locs hP hD hS => ?_)
  obtain ⟨v_ga_8, ev_ga_8⟩ : ∃ z, z = mu v_ga_7 0 2 (v_gb 0 2) := ⟨_, rfl⟩
  have hP : va_P (dC, dI) vwCl [(ga, .inr (5, [.ref ga1, .ref ga2, .ref ga3, .ref ga4, .ref ga5, .int (v_ga_8 0 0), .int (v_ga_8 0 1), .int (v_ga_8 0 2)])), (ga1, .inl (cI, 10, .inl (v_ga_8 1))), (ga2, .inl (cI, 10, .inl (v_ga_8 2))), (ga3, .inl (cI, 10, .inl (v_ga_8 3))), (ga4, .inl (cI, 10, .inl (v_ga_8 4))), (ga5, .inl (cI, 5, .inl (v_ga_8 5))), (gb, .inr (5, [.ref gb1, .ref gb2, .ref gb3, .ref gb4, .ref gb5, .int (v_gb 0 0), .int (v_gb 0 1), .int (v_gb 0 2)])), (gb1, .inl (cI, 10, .inl (v_gb 1))), (gb2, .inl (cI, 10, .inl (v_gb 2))), (gb3, .inl (cI, 10, .inl (v_gb 3))), (gb4, .inl (cI, 10, .inl (v_gb 4))), (gb5, .inl (cI, 5, .inl (v_gb 5)))] H := by rw [ev_ga_8]; exact hP
  have hD : va_D (va_A (ww_X5_takeOvery dC dI cI cJ cB ga ga1 ga2 ga3 ga4 ga5 gb gb1 gb2 gb3 gb4 gb5 s.heap.size v_ga0 v_gb n9 v_ga1) s.heap.size) [(ga, .inr (5, [.ref ga1, .ref ga2, .ref ga3, .ref ga4, .ref ga5, .int (v_ga_8 0 0), .int (v_ga_8 0 1), .int (v_ga_8 0 2)])), (ga1, .inl (cI, 10, .inl (v_ga_8 1))), (ga2, .inl (cI, 10, .inl (v_ga_8 2))), (ga3, .inl (cI, 10, .inl (v_ga_8 3))), (ga4, .inl (cI, 10, .inl (v_ga_8 4))), (ga5, .inl (cI, 5, .inl (v_ga_8 5))), (gb, .inr (5, [.ref gb1, .ref gb2, .ref gb3, .ref gb4, .ref gb5, .int (v_gb 0 0), .int (v_gb 0 1), .int (v_gb 0 2)])), (gb1, .inl (cI, 10, .inl (v_gb 1))), (gb2, .inl (cI, 10, .inl (v_gb 2))), (gb3, .inl (cI, 10, .inl (v_gb 3))), (gb4, .inl (cI, 10, .inl (v_gb 4))), (gb5, .inl (cI, 5, .inl (v_gb 5)))] := by rw [ev_ga_8]; exact hD
  replace hf := xl_to ev_ga_8 hf
  have hP9 := hP.sub (ws' := [(ga, .inr (5, [.ref ga1, .ref ga2, .ref ga3, .ref ga4, .ref ga5, .int (v_ga_8 0 0), .int (v_ga_8 0 1), .int (v_ga_8 0 2)])), (ga1, .inl (cI, 10, .inl (v_ga_8 1))), (ga2, .inl (cI, 10, .inl (v_ga_8 2))), (ga3, .inl (cI, 10, .inl (v_ga_8 3))), (ga4, .inl (cI, 10, .inl (v_ga_8 4))), (ga5, .inl (cI, 5, .inl (v_ga_8 5))), (gb, .inr (5, [.ref gb1, .ref gb2, .ref gb3, .ref gb4, .ref gb5, .int (v_gb 0 0), .int (v_gb 0 1), .int (v_gb 0 2)])), (gb1, .inl (cI, 10, .inl (v_gb 1))), (gb2, .inl (cI, 10, .inl (v_gb 2))), (gb3, .inl (cI, 10, .inl (v_gb 3))), (gb4, .inl (cI, 10, .inl (v_gb 4))), (gb5, .inl (cI, 5, .inl (v_gb 5)))]) [0, 1, 2, 3, 4, 5, 6, 7, 8, 9, 10, 11] rfl
  have hD9 := hD.sub (ws' := [(ga, .inr (5, [.ref ga1, .ref ga2, .ref ga3, .ref ga4, .ref ga5, .int (v_ga_8 0 0), .int (v_ga_8 0 1), .int (v_ga_8 0 2)])), (ga1, .inl (cI, 10, .inl (v_ga_8 1))), (ga2, .inl (cI, 10, .inl (v_ga_8 2))), (ga3, .inl (cI, 10, .inl (v_ga_8 3))), (ga4, .inl (cI, 10, .inl (v_ga_8 4))), (ga5, .inl (cI, 5, .inl (v_ga_8 5))), (gb, .inr (5, [.ref gb1, .ref gb2, .ref gb3, .ref gb4, .ref gb5, .int (v_gb 0 0), .int (v_gb 0 1), .int (v_gb 0 2)])), (gb1, .inl (cI, 10, .inl (v_gb 1))), (gb2, .inl (cI, 10, .inl (v_gb 2))), (gb3, .inl (cI, 10, .inl (v_gb 3))), (gb4, .inl (cI, 10, .inl (v_gb 4))), (gb5, .inl (cI, 5, .inl (v_gb 5)))]) [0, 1, 2, 3, 4, 5, 6, 7, 8, 9, 10, 11] (by decide) rfl
  have r9_0 : v_ga_8 = v_ga1 := (Option.some.inj hf)
  exact W.vret hx hb hr (fun t ht hW => ⟨⟨v_ga_8, rfl, r9_0, by rw [ht]; exact hP9, va_K.moved hW.alike hK, hD9⟩, hS.F ht⟩) hS.2.2 dX5_takeOver_98
def wo_X2_cleary : List Cond := .code yX2_clear cX2_clear 1 none :: (([.fieldLink RX2 30 "SumRewriter$Rows" "used" "I"] : List Cond) ++ ((wsX20)))
abbrev ww_X2_cleary (dC : Nat → ClassId) (dI : Nat → Nat → Nat) (cI cJ cB : ClassId) (ra ra1 ra2 ra3 : Nat) (sz : Nat) (ra_n : Nat) (v_ra0 : Nat → Nat → Int32) (n9 : Nat) (v_ra1 : Nat → Nat → Int32) : va_W := [(ra, .inr (2, [.ref ra1, .ref ra2, .ref ra3, .int (v_ra0 0 0)])), (ra1, .inl (cI, ra_n * 20, .inl (v_ra0 1))), (ra2, .inl (cI, ra_n, .inl (v_ra0 2))), (ra3, .inl (cI, 21, .inl (v_ra0 3)))]
abbrev at_X2_cleary (dC : Nat → ClassId) (dI : Nat → Nat → Nat) (cI cJ cB : ClassId) (ra ra1 ra2 ra3 : Nat) (sz : Nat) (ra_n : Nat) (v_ra0 : Nat → Nat → Int32) (n9 : Nat) (v_ra1 : Nat → Nat → Int32) (u : (Nat → Nat → Int32)) (t : State) : Prop := match u with
  | v_ra => va_P (dC, dI) vwCl [(ra, .inr (2, [.ref ra1, .ref ra2, .ref ra3, .int (v_ra 0 0)])), (ra1, .inl (cI, ra_n * 20, .inl (v_ra 1))), (ra2, .inl (cI, ra_n, .inl (v_ra 2))), (ra3, .inl (cI, 21, .inl (v_ra 3)))] t.heap ∧ va_K (dC, dI) vwCl (tyL cI cJ cB) t ∧ va_D (va_A (ww_X2_cleary dC dI cI cJ cB ra ra1 ra2 ra3 sz ra_n v_ra0 n9 v_ra1) sz) [(ra, .inr (2, [.ref ra1, .ref ra2, .ref ra3, .int (v_ra 0 0)])), (ra1, .inl (cI, ra_n * 20, .inl (v_ra 1))), (ra2, .inl (cI, ra_n, .inl (v_ra 2))), (ra3, .inl (cI, 21, .inl (v_ra 3)))]
abbrev qc_X2_cleary (dC : Nat → ClassId) (dI : Nat → Nat → Nat) (cI cJ cB : ClassId) (ra ra1 ra2 ra3 : Nat) (sz : Nat) (ra_n : Nat) (v_ra0 : Nat → Nat → Int32) (n9 : Nat) (v_ra1 : Nat → Nat → Int32) : Array Value → State → Outcome → State → Prop := va_Qv (fun (u : (Nat → Nat → Int32)) => match u with | v_ra => (v_ra = v_ra1)) (at_X2_cleary dC dI cI cJ cB ra ra1 ra2 ra3 sz ra_n v_ra0 n9 v_ra1) (va_A (ww_X2_cleary dC dI cI cJ cB ra ra1 ra2 ra3 sz ra_n v_ra0 n9 v_ra1) sz)
abbrev pc_X2_cleary (dC : Nat → ClassId) (dI : Nat → Nat → Nat) (cI cJ cB : ClassId) (ra ra1 ra2 ra3 : Nat) (sz : Nat) (ra_n : Nat) (v_ra0 : Nat → Nat → Int32) (n9 : Nat) (v_ra1 : Nat → Nat → Int32) : Array Value → State → Prop := va_Pc [.ref ra] (fun U => U.heap.size = sz ∧ NW U ∧ va_P (dC, dI) vwCl (ww_X2_cleary dC dI cI cJ cB ra ra1 ra2 ra3 sz ra_n v_ra0 n9 v_ra1) U.heap ∧ va_K (dC, dI) vwCl (tyL cI cJ cB) U ∧ va_D (fun _ => True) (ww_X2_cleary dC dI cI cJ cB ra ra1 ra2 ra3 sz ra_n v_ra0 n9 v_ra1))
abbrev rm_X2_cleary : Room := { frames := 0, cells := 0, slots := 0, locals := 0 }
abbrev WW_X2_cleary (p : Program) (l : Launch) (e : Env) (s : State) (m : MethodId) (below : List Frame) (meth : Method) (c : Code) (dC : Nat → ClassId) (dI : Nat → Nat → Nat) (cI cJ cB : ClassId) (ra ra1 ra2 ra3 : Nat) (sz : Nat) (ra_n : Nat) (v_ra0 : Nat → Nat → Int32) (n9 : Nat) (v_ra1 : Nat → Nat → Int32) (H : Heap) (locs : List Loc) (g : JFrame) : Prop := W p l e rm_X2_cleary s m ([.ref ra] : List Value).toArray below meth c H locs 0 0 (MQ below (qc_X2_cleary dC dI cI cJ cB ra ra1 ra2 ra3 sz ra_n v_ra0 n9 v_ra1) ([.ref ra] : List Value).toArray s 0 0 (va_A (ww_X2_cleary dC dI cI cJ cB ra ra1 ra2 ra3 sz ra_n v_ra0 n9 v_ra1) sz)) g
set_option maxHeartbeats 4000000 in
set_option maxRecDepth 100000 in
theorem c_X2_cleary (l : Launch) (dC : Nat → ClassId) (dI : Nat → Nat → Nat) (cI cJ cB : ClassId) (ra ra1 ra2 ra3 : Nat) (sz : Nat) (ra_n : Nat) (v_ra0 : Nat → Nat → Int32) (n9 : Nat) (v_ra1 : Nat → Nat → Int32) (hf : fx_X2_clear n9 v_ra0  = some (v_ra1)) : Met l yX2_clear wo_X2_cleary rm_X2_cleary (pc_X2_cleary dC dI cI cJ cB ra ra1 ra2 ra3 sz ra_n v_ra0 n9 v_ra1) (qc_X2_cleary dC dI cI cJ cB ra ra1 ra2 ra3 sz ra_n v_ra0 n9 v_ra1) 0 0 (va_A (ww_X2_cleary dC dI cI cJ cB ra ra1 ra2 ra3 sz ra_n v_ra0 n9 v_ra1) sz) := by
  unfold fx_X2_clear at hf
  refine Met.ofW (cc := cX2_clear) (maxL := 1) (ret := none) (by decide) rfl ?_
  intro p e s m args below meth c s₁ B hml hv
  obtain ⟨rfl, hsz, hnw, hP, hK, hD0⟩ := hv
  have hx := B.exec
  have hb := B.bytes
  have hr := B.returns
  have hts := atoms_spec (ws := wo_X2_cleary) B.pre
  have hown : s.vm.findClass RX2 = some m.cls := findClass_of_methodNamed B.named
  have hlocks := B.notSynchronized
  clear B
  subst hsz
  have hD := hD0.self (sz := s.heap.size)
  clear hD0
  have kk0_ := hts (.fieldLink RX2 30 "SumRewriter$Rows" "used" "I") (by decide +kernel)
  have kk1_ : ∀ w ∈ wsX20, w ∈ wo_X2_cleary := fun _ h => (List.mem_cons_of_mem _ (List.mem_append_right _ h))
  have hA : ∀ q : Nat, s.heap.size ≤ q → (va_A (ww_X2_cleary dC dI cI cJ cB ra ra1 ra2 ra3 s.heap.size ra_n v_ra0 n9 v_ra1) s.heap.size) q := fun q h => Or.inr h
  have hS : va_S (va_A (ww_X2_cleary dC dI cI cJ cB ra ra1 ra2 ra3 s.heap.size ra_n v_ra0 n9 v_ra1) s.heap.size) s.heap s.heap [] := va_S.rf
  have hl := lv_entry ([.ref ra]) (n := 1) (Nat.le_of_ble_eq_true rfl)
  rw [lg_entry_eq]
  generalize (lg_sl ([.ref ra]) ++ List.replicate (1 - (lg_sl ([.ref ra])).length) Slot.unset).toArray = ls at hl ⊢
  have hl : lv_has ls 1 [(0, .ref ra)] := hl
  have hP : va_P (dC, dI) vwCl [(ra, .inr (2, [.ref ra1, .ref ra2, .ref ra3, .int (v_ra0 0 0)])), (ra1, .inl (cI, ra_n * 20, .inl (v_ra0 1))), (ra2, .inl (cI, ra_n, .inl (v_ra0 2))), (ra3, .inl (cI, 21, .inl (v_ra0 3)))] s.heap := hP
  have hD : va_D (va_A (ww_X2_cleary dC dI cI cJ cB ra ra1 ra2 ra3 s.heap.size ra_n v_ra0 n9 v_ra1) s.heap.size) [(ra, .inr (2, [.ref ra1, .ref ra2, .ref ra3, .int (v_ra0 0 0)])), (ra1, .inl (cI, ra_n * 20, .inl (v_ra0 1))), (ra2, .inl (cI, ra_n, .inl (v_ra0 2))), (ra3, .inl (cI, 21, .inl (v_ra0 3)))] := hD
  obtain ⟨H, hH⟩ : ∃ H, H = s.heap := ⟨_, rfl⟩
  obtain ⟨locs, hlc⟩ : ∃ L : List Loc, L = [] := ⟨_, rfl⟩
  have hS : va_S (va_A (ww_X2_cleary dC dI cI cJ cB ra ra1 ra2 ra3 s.heap.size ra_n v_ra0 n9 v_ra1) s.heap.size) s.heap H locs := by rw [hH, hlc]; exact hS
  have hP : va_P (dC, dI) vwCl [(ra, .inr (2, [.ref ra1, .ref ra2, .ref ra3, .int (v_ra0 0 0)])), (ra1, .inl (cI, ra_n * 20, .inl (v_ra0 1))), (ra2, .inl (cI, ra_n, .inl (v_ra0 2))), (ra3, .inl (cI, 21, .inl (v_ra0 3)))] H := by rw [hH]; exact hP
  suffices hgo : WW_X2_cleary p l e s m below meth c dC dI cI cJ cB ra ra1 ra2 ra3 s.heap.size ra_n v_ra0 n9 v_ra1 H locs (F0 m 0 ls []) by rw [hH, hlc] at hgo; exact hgo
  clear hH hlc
  refine lv_aload_n hx hb dX2_clear_0 rfl (lv_at hl 0 rfl) ?_
  refine lv_iconst (v := 0) hx hb dX2_clear_1 (by decide) ?_
  refine va_put (D := (dC, dI)) (ci := 2) (v := .int ((0 : Int32))) (ty := .int) (C := RX2) (T := TX2) (N := 4) hx hb hts kk1_ tyX2 tyX2_ok nmX2 hown hK hP hD hS 0 rfl rfl 3 (by decide) kk0_ (fun _ h9 => h9) rfl (by decide +kernel) rfl rfl (Nat.le_of_ble_eq_true rfl) dX2_clear_2 (fun H locs hP hD hS => ?_)
  obtain ⟨v_ra_1, ev_ra_1⟩ : ∃ z, z = mu v_ra0 0 0 ((0 : Int32)) := ⟨_, rfl⟩
  have hP : va_P (dC, dI) vwCl [(ra, .inr (2, [.ref ra1, .ref ra2, .ref ra3, .int (v_ra_1 0 0)])), (ra1, .inl (cI, ra_n * 20, .inl (v_ra_1 1))), (ra2, .inl (cI, ra_n, .inl (v_ra_1 2))), (ra3, .inl (cI, 21, .inl (v_ra_1 3)))] H := by rw [ev_ra_1]; exact hP
  have hD : va_D (va_A (ww_X2_cleary dC dI cI cJ cB ra ra1 ra2 ra3 s.heap.size ra_n v_ra0 n9 v_ra1) s.heap.size) [(ra, .inr (2, [.ref ra1, .ref ra2, .ref ra3, .int (v_ra_1 0 0)])), (ra1, .inl (cI, ra_n * 20, .inl (v_ra_1 1))), (ra2, .inl (cI, ra_n, .inl (v_ra_1 2))), (ra3, .inl (cI, 21, .inl (v_ra_1 3)))] := by rw [ev_ra_1]; exact hD
  replace hf := xl_to ev_ra_1 hf
  have hP9 := hP.sub (ws' := [(ra, .inr (2, [.ref ra1, .ref ra2, .ref ra3, .int (v_ra_1 0 0)])), (ra1, .inl (cI, ra_n * 20, .inl (v_ra_1 1))), (ra2, .inl (cI, ra_n, .inl (v_ra_1 2))), (ra3, .inl (cI, 21, .inl (v_ra_1 3)))]) [0, 1, 2, 3] rfl
  have hD9 := hD.sub (ws' := [(ra, .inr (2, [.ref ra1, .ref ra2, .ref ra3, .int (v_ra_1 0 0)])), (ra1, .inl (cI, ra_n * 20, .inl (v_ra_1 1))), (ra2, .inl (cI, ra_n, .inl (v_ra_1 2))), (ra3, .inl (cI, 21, .inl (v_ra_1 3)))]) [0, 1, 2, 3] (by decide) rfl
  have r9_0 : v_ra_1 = v_ra1 := (Option.some.inj hf)
  exact W.vret hx hb hr (fun t ht hW => ⟨⟨v_ra_1, rfl, r9_0, by rw [ht]; exact hP9, va_K.moved hW.alike hK, hD9⟩, hS.F ht⟩) hS.2.2 dX2_clear_5
def wo_X2_dropLasty : List Cond := .code yX2_dropLast cX2_dropLast 1 none :: (([.fieldLink RX2 30 "SumRewriter$Rows" "used" "I", .methodLink RX2 15 Lib.Math.max.name, .static Lib.Math.max.name, .initialized "java/lang/Math", .code Lib.Math.max.name Lib.Math.max.code 2 (some .int)] : List Cond) ++ ((wsX20)))
abbrev ww_X2_dropLasty (dC : Nat → ClassId) (dI : Nat → Nat → Nat) (cI cJ cB : ClassId) (ra ra1 ra2 ra3 : Nat) (sz : Nat) (ra_n : Nat) (v_ra0 : Nat → Nat → Int32) (n9 : Nat) (v_ra1 : Nat → Nat → Int32) : va_W := [(ra, .inr (2, [.ref ra1, .ref ra2, .ref ra3, .int (v_ra0 0 0)])), (ra1, .inl (cI, ra_n * 20, .inl (v_ra0 1))), (ra2, .inl (cI, ra_n, .inl (v_ra0 2))), (ra3, .inl (cI, 21, .inl (v_ra0 3)))]
abbrev at_X2_dropLasty (dC : Nat → ClassId) (dI : Nat → Nat → Nat) (cI cJ cB : ClassId) (ra ra1 ra2 ra3 : Nat) (sz : Nat) (ra_n : Nat) (v_ra0 : Nat → Nat → Int32) (n9 : Nat) (v_ra1 : Nat → Nat → Int32) (u : (Nat → Nat → Int32)) (t : State) : Prop := match u with
  | v_ra => va_P (dC, dI) vwCl [(ra, .inr (2, [.ref ra1, .ref ra2, .ref ra3, .int (v_ra 0 0)])), (ra1, .inl (cI, ra_n * 20, .inl (v_ra 1))), (ra2, .inl (cI, ra_n, .inl (v_ra 2))), (ra3, .inl (cI, 21, .inl (v_ra 3)))] t.heap ∧ va_K (dC, dI) vwCl (tyL cI cJ cB) t ∧ va_D (va_A (ww_X2_dropLasty dC dI cI cJ cB ra ra1 ra2 ra3 sz ra_n v_ra0 n9 v_ra1) sz) [(ra, .inr (2, [.ref ra1, .ref ra2, .ref ra3, .int (v_ra 0 0)])), (ra1, .inl (cI, ra_n * 20, .inl (v_ra 1))), (ra2, .inl (cI, ra_n, .inl (v_ra 2))), (ra3, .inl (cI, 21, .inl (v_ra 3)))]
abbrev qc_X2_dropLasty (dC : Nat → ClassId) (dI : Nat → Nat → Nat) (cI cJ cB : ClassId) (ra ra1 ra2 ra3 : Nat) (sz : Nat) (ra_n : Nat) (v_ra0 : Nat → Nat → Int32) (n9 : Nat) (v_ra1 : Nat → Nat → Int32) : Array Value → State → Outcome → State → Prop := va_Qv (fun (u : (Nat → Nat → Int32)) => match u with | v_ra => (v_ra = v_ra1)) (at_X2_dropLasty dC dI cI cJ cB ra ra1 ra2 ra3 sz ra_n v_ra0 n9 v_ra1) (va_A (ww_X2_dropLasty dC dI cI cJ cB ra ra1 ra2 ra3 sz ra_n v_ra0 n9 v_ra1) sz)
abbrev pc_X2_dropLasty (dC : Nat → ClassId) (dI : Nat → Nat → Nat) (cI cJ cB : ClassId) (ra ra1 ra2 ra3 : Nat) (sz : Nat) (ra_n : Nat) (v_ra0 : Nat → Nat → Int32) (n9 : Nat) (v_ra1 : Nat → Nat → Int32) : Array Value → State → Prop := va_Pc [.ref ra] (fun U => U.heap.size = sz ∧ NW U ∧ va_P (dC, dI) vwCl (ww_X2_dropLasty dC dI cI cJ cB ra ra1 ra2 ra3 sz ra_n v_ra0 n9 v_ra1) U.heap ∧ va_K (dC, dI) vwCl (tyL cI cJ cB) U ∧ va_D (fun _ => True) (ww_X2_dropLasty dC dI cI cJ cB ra ra1 ra2 ra3 sz ra_n v_ra0 n9 v_ra1))
abbrev rm_X2_dropLasty : Room := { frames := 2, cells := 0, slots := 0, locals := 60 }
abbrev WW_X2_dropLasty (p : Program) (l : Launch) (e : Env) (s : State) (m : MethodId) (below : List Frame) (meth : Method) (c : Code) (dC : Nat → ClassId) (dI : Nat → Nat → Nat) (cI cJ cB : ClassId) (ra ra1 ra2 ra3 : Nat) (sz : Nat) (ra_n : Nat) (v_ra0 : Nat → Nat → Int32) (n9 : Nat) (v_ra1 : Nat → Nat → Int32) (H : Heap) (locs : List Loc) (g : JFrame) : Prop := W p l e rm_X2_dropLasty s m ([.ref ra] : List Value).toArray below meth c H locs 0 0 (MQ below (qc_X2_dropLasty dC dI cI cJ cB ra ra1 ra2 ra3 sz ra_n v_ra0 n9 v_ra1) ([.ref ra] : List Value).toArray s 0 0 (va_A (ww_X2_dropLasty dC dI cI cJ cB ra ra1 ra2 ra3 sz ra_n v_ra0 n9 v_ra1) sz)) g
set_option maxHeartbeats 4000000 in
set_option maxRecDepth 100000 in
theorem c_X2_dropLasty (l : Launch) (dC : Nat → ClassId) (dI : Nat → Nat → Nat) (cI cJ cB : ClassId) (ra ra1 ra2 ra3 : Nat) (sz : Nat) (ra_n : Nat) (v_ra0 : Nat → Nat → Int32) (n9 : Nat) (v_ra1 : Nat → Nat → Int32) (hf : fx_X2_dropLast n9 v_ra0  = some (v_ra1)) : Met l yX2_dropLast wo_X2_dropLasty rm_X2_dropLasty (pc_X2_dropLasty dC dI cI cJ cB ra ra1 ra2 ra3 sz ra_n v_ra0 n9 v_ra1) (qc_X2_dropLasty dC dI cI cJ cB ra ra1 ra2 ra3 sz ra_n v_ra0 n9 v_ra1) 0 0 (va_A (ww_X2_dropLasty dC dI cI cJ cB ra ra1 ra2 ra3 sz ra_n v_ra0 n9 v_ra1) sz) := by
  unfold fx_X2_dropLast at hf
  refine Met.ofW (cc := cX2_dropLast) (maxL := 1) (ret := none) (by decide) rfl ?_
  intro p e s m args below meth c s₁ B hml hv
  obtain ⟨rfl, hsz, hnw, hP, hK, hD0⟩ := hv
  have hx := B.exec
  have hb := B.bytes
  have hr := B.returns
  have hts := atoms_spec (ws := wo_X2_dropLasty) B.pre
  have hown : s.vm.findClass RX2 = some m.cls := findClass_of_methodNamed B.named
  have hlocks := B.notSynchronized
  clear B
  subst hsz
  have hD := hD0.self (sz := s.heap.size)
  clear hD0
  have kk0_ := hts (.fieldLink RX2 30 "SumRewriter$Rows" "used" "I") (by decide +kernel)
  have kk1_ : ∀ w ∈ wsX20, w ∈ wo_X2_dropLasty := fun _ h => (List.mem_cons_of_mem _ (List.mem_append_right _ h))
  have kk2_ := hts (.methodLink RX2 15 Lib.Math.max.name) (by decide +kernel)
  have kk3_ := hts (.static Lib.Math.max.name) (by decide +kernel)
  have kk4_ := hts (.initialized "java/lang/Math") (by decide +kernel)
  have kk5_ := hts (.code Lib.Math.max.name Lib.Math.max.code 2 (some .int)) (by decide +kernel)
  have hA : ∀ q : Nat, s.heap.size ≤ q → (va_A (ww_X2_dropLasty dC dI cI cJ cB ra ra1 ra2 ra3 s.heap.size ra_n v_ra0 n9 v_ra1) s.heap.size) q := fun q h => Or.inr h
  have hS : va_S (va_A (ww_X2_dropLasty dC dI cI cJ cB ra ra1 ra2 ra3 s.heap.size ra_n v_ra0 n9 v_ra1) s.heap.size) s.heap s.heap [] := va_S.rf
  have hl := lv_entry ([.ref ra]) (n := 1) (Nat.le_of_ble_eq_true rfl)
  rw [lg_entry_eq]
  generalize (lg_sl ([.ref ra]) ++ List.replicate (1 - (lg_sl ([.ref ra])).length) Slot.unset).toArray = ls at hl ⊢
  have hl : lv_has ls 1 [(0, .ref ra)] := hl
  have hP : va_P (dC, dI) vwCl [(ra, .inr (2, [.ref ra1, .ref ra2, .ref ra3, .int (v_ra0 0 0)])), (ra1, .inl (cI, ra_n * 20, .inl (v_ra0 1))), (ra2, .inl (cI, ra_n, .inl (v_ra0 2))), (ra3, .inl (cI, 21, .inl (v_ra0 3)))] s.heap := hP
  have hD : va_D (va_A (ww_X2_dropLasty dC dI cI cJ cB ra ra1 ra2 ra3 s.heap.size ra_n v_ra0 n9 v_ra1) s.heap.size) [(ra, .inr (2, [.ref ra1, .ref ra2, .ref ra3, .int (v_ra0 0 0)])), (ra1, .inl (cI, ra_n * 20, .inl (v_ra0 1))), (ra2, .inl (cI, ra_n, .inl (v_ra0 2))), (ra3, .inl (cI, 21, .inl (v_ra0 3)))] := hD
  obtain ⟨H, hH⟩ : ∃ H, H = s.heap := ⟨_, rfl⟩
  obtain ⟨locs, hlc⟩ : ∃ L : List Loc, L = [] := ⟨_, rfl⟩
  have hS : va_S (va_A (ww_X2_dropLasty dC dI cI cJ cB ra ra1 ra2 ra3 s.heap.size ra_n v_ra0 n9 v_ra1) s.heap.size) s.heap H locs := by rw [hH, hlc]; exact hS
  have hP : va_P (dC, dI) vwCl [(ra, .inr (2, [.ref ra1, .ref ra2, .ref ra3, .int (v_ra0 0 0)])), (ra1, .inl (cI, ra_n * 20, .inl (v_ra0 1))), (ra2, .inl (cI, ra_n, .inl (v_ra0 2))), (ra3, .inl (cI, 21, .inl (v_ra0 3)))] H := by rw [hH]; exact hP
  suffices hgo : WW_X2_dropLasty p l e s m below meth c dC dI cI cJ cB ra ra1 ra2 ra3 s.heap.size ra_n v_ra0 n9 v_ra1 H locs (F0 m 0 ls []) by rw [hH, hlc] at hgo; exact hgo
  clear hH hlc
  refine lv_aload_n hx hb dX2_dropLast_0 rfl (lv_at hl 0 rfl) ?_
  refine lv_iconst (v := 0) hx hb dX2_dropLast_1 (by decide) ?_
  refine lv_aload_n hx hb dX2_dropLast_2 rfl (lv_at hl 0 rfl) ?_
  refine va_get (D := (dC, dI)) (ci := 2) (v := .int (v_ra0 0 0)) (C := RX2) (T := TX2) (N := 4) hx hb hts kk1_ hown hK hP 0 rfl rfl 3 (by decide) kk0_ (fun _ h9 => h9) rfl dX2_dropLast_3 ?_
  refine lv_iconst (v := 1) hx hb dX2_dropLast_6 (by decide) ?_
  refine lv_isub hx hb dX2_dropLast_7 ?_
  refine lv_topi (fun y_1 ey_1 => ?_)
  replace hf := xl_to (v := (v_ra0 0 0) - ((1 : Int32))) ey_1 hf
  refine va_mmax hx hb (by rw [hml]; exact hl.1.symm) hown kk2_ kk3_ kk4_ kk5_ (Nat.le_of_ble_eq_true rfl) (Nat.le_of_ble_eq_true rfl) (Nat.zero_le _) (Nat.zero_le _) dX2_dropLast_8 ?_
  refine lv_topi (fun y_2 ey_2 => ?_)
  replace hf := xl_to (v := if (0 : Int32) < y_1 then y_1 else (0 : Int32)) ey_2 hf
  refine va_put (D := (dC, dI)) (ci := 2) (v := .int y_2) (ty := .int) (C := RX2) (T := TX2) (N := 4) hx hb hts kk1_ tyX2 tyX2_ok nmX2 hown hK hP hD hS 0 rfl rfl 3 (by decide) kk0_ (fun _ h9 => h9) rfl (by decide +kernel) rfl rfl (Nat.le_of_ble_eq_true rfl) dX2_dropLast_11 (fun H locs hP hD hS => ?_)
  obtain ⟨v_ra_3, ev_ra_3⟩ : ∃ z, z = mu v_ra0 0 0 y_2 := ⟨_, rfl⟩
  have hP : va_P (dC, dI) vwCl [(ra, .inr (2, [.ref ra1, .ref ra2, .ref ra3, .int (v_ra_3 0 0)])), (ra1, .inl (cI, ra_n * 20, .inl (v_ra_3 1))), (ra2, .inl (cI, ra_n, .inl (v_ra_3 2))), (ra3, .inl (cI, 21, .inl (v_ra_3 3)))] H := by rw [ev_ra_3]; exact hP
  have hD : va_D (va_A (ww_X2_dropLasty dC dI cI cJ cB ra ra1 ra2 ra3 s.heap.size ra_n v_ra0 n9 v_ra1) s.heap.size) [(ra, .inr (2, [.ref ra1, .ref ra2, .ref ra3, .int (v_ra_3 0 0)])), (ra1, .inl (cI, ra_n * 20, .inl (v_ra_3 1))), (ra2, .inl (cI, ra_n, .inl (v_ra_3 2))), (ra3, .inl (cI, 21, .inl (v_ra_3 3)))] := by rw [ev_ra_3]; exact hD
  replace hf := xl_to ev_ra_3 hf
  have hP9 := hP.sub (ws' := [(ra, .inr (2, [.ref ra1, .ref ra2, .ref ra3, .int (v_ra_3 0 0)])), (ra1, .inl (cI, ra_n * 20, .inl (v_ra_3 1))), (ra2, .inl (cI, ra_n, .inl (v_ra_3 2))), (ra3, .inl (cI, 21, .inl (v_ra_3 3)))]) [0, 1, 2, 3] rfl
  have hD9 := hD.sub (ws' := [(ra, .inr (2, [.ref ra1, .ref ra2, .ref ra3, .int (v_ra_3 0 0)])), (ra1, .inl (cI, ra_n * 20, .inl (v_ra_3 1))), (ra2, .inl (cI, ra_n, .inl (v_ra_3 2))), (ra3, .inl (cI, 21, .inl (v_ra_3 3)))]) [0, 1, 2, 3] (by decide) rfl
  have r9_0 : v_ra_3 = v_ra1 := (Option.some.inj hf)
  exact W.vret hx hb hr (fun t ht hW => ⟨⟨v_ra_3, rfl, r9_0, by rw [ht]; exact hP9, va_K.moved hW.alike hK, hD9⟩, hS.F ht⟩) hS.2.2 dX2_dropLast_14
def wo_X2_starty : List Cond := .code yX2_start cX2_start 1 (some .boolean) :: (([.fieldLink RX2 30 "SumRewriter$Rows" "used" "I", .fieldLink RX2 24 "SumRewriter$Rows" "lengths" "[I"] : List Cond) ++ ((wsX20)))
abbrev ww_X2_starty (dC : Nat → ClassId) (dI : Nat → Nat → Nat) (cI cJ cB : ClassId) (ra ra1 ra2 ra3 : Nat) (sz : Nat) (ra_n : Nat) (v_ra0 : Nat → Nat → Int32) (n9 : Nat) (r1 : Int32) (v_ra1 : Nat → Nat → Int32) : va_W := [(ra, .inr (2, [.ref ra1, .ref ra2, .ref ra3, .int (v_ra0 0 0)])), (ra1, .inl (cI, ra_n * 20, .inl (v_ra0 1))), (ra2, .inl (cI, ra_n, .inl (v_ra0 2))), (ra3, .inl (cI, 21, .inl (v_ra0 3)))]
abbrev at_X2_starty (dC : Nat → ClassId) (dI : Nat → Nat → Nat) (cI cJ cB : ClassId) (ra ra1 ra2 ra3 : Nat) (sz : Nat) (ra_n : Nat) (v_ra0 : Nat → Nat → Int32) (n9 : Nat) (r1 : Int32) (v_ra1 : Nat → Nat → Int32) (u : (Nat → Nat → Int32)) (t : State) : Prop := match u with
  | v_ra => va_P (dC, dI) vwCl [(ra, .inr (2, [.ref ra1, .ref ra2, .ref ra3, .int (v_ra 0 0)])), (ra1, .inl (cI, ra_n * 20, .inl (v_ra 1))), (ra2, .inl (cI, ra_n, .inl (v_ra 2))), (ra3, .inl (cI, 21, .inl (v_ra 3)))] t.heap ∧ va_K (dC, dI) vwCl (tyL cI cJ cB) t ∧ va_D (va_A (ww_X2_starty dC dI cI cJ cB ra ra1 ra2 ra3 sz ra_n v_ra0 n9 r1 v_ra1) sz) [(ra, .inr (2, [.ref ra1, .ref ra2, .ref ra3, .int (v_ra 0 0)])), (ra1, .inl (cI, ra_n * 20, .inl (v_ra 1))), (ra2, .inl (cI, ra_n, .inl (v_ra 2))), (ra3, .inl (cI, 21, .inl (v_ra 3)))]
abbrev qc_X2_starty (dC : Nat → ClassId) (dI : Nat → Nat → Nat) (cI cJ cB : ClassId) (ra ra1 ra2 ra3 : Nat) (sz : Nat) (ra_n : Nat) (v_ra0 : Nat → Nat → Int32) (n9 : Nat) (r1 : Int32) (v_ra1 : Nat → Nat → Int32) : Array Value → State → Outcome → State → Prop := va_Qi (fun (r : Int32) (u : (Nat → Nat → Int32)) => match u with | v_ra => (r = r1) ∧ (v_ra = v_ra1)) (at_X2_starty dC dI cI cJ cB ra ra1 ra2 ra3 sz ra_n v_ra0 n9 r1 v_ra1) (va_A (ww_X2_starty dC dI cI cJ cB ra ra1 ra2 ra3 sz ra_n v_ra0 n9 r1 v_ra1) sz)
abbrev pc_X2_starty (dC : Nat → ClassId) (dI : Nat → Nat → Nat) (cI cJ cB : ClassId) (ra ra1 ra2 ra3 : Nat) (sz : Nat) (ra_n : Nat) (v_ra0 : Nat → Nat → Int32) (n9 : Nat) (r1 : Int32) (v_ra1 : Nat → Nat → Int32) : Array Value → State → Prop := va_Pc [.ref ra] (fun U => U.heap.size = sz ∧ NW U ∧ va_P (dC, dI) vwCl (ww_X2_starty dC dI cI cJ cB ra ra1 ra2 ra3 sz ra_n v_ra0 n9 r1 v_ra1) U.heap ∧ va_K (dC, dI) vwCl (tyL cI cJ cB) U ∧ va_D (fun _ => True) (ww_X2_starty dC dI cI cJ cB ra ra1 ra2 ra3 sz ra_n v_ra0 n9 r1 v_ra1))
abbrev rm_X2_starty : Room := { frames := 0, cells := 0, slots := 0, locals := 0 }
abbrev WW_X2_starty (p : Program) (l : Launch) (e : Env) (s : State) (m : MethodId) (below : List Frame) (meth : Method) (c : Code) (dC : Nat → ClassId) (dI : Nat → Nat → Nat) (cI cJ cB : ClassId) (ra ra1 ra2 ra3 : Nat) (sz : Nat) (ra_n : Nat) (v_ra0 : Nat → Nat → Int32) (n9 : Nat) (r1 : Int32) (v_ra1 : Nat → Nat → Int32) (H : Heap) (locs : List Loc) (g : JFrame) : Prop := W p l e rm_X2_starty s m ([.ref ra] : List Value).toArray below meth c H locs 0 0 (MQ below (qc_X2_starty dC dI cI cJ cB ra ra1 ra2 ra3 sz ra_n v_ra0 n9 r1 v_ra1) ([.ref ra] : List Value).toArray s 0 0 (va_A (ww_X2_starty dC dI cI cJ cB ra ra1 ra2 ra3 sz ra_n v_ra0 n9 r1 v_ra1) sz)) g
set_option maxHeartbeats 4000000 in
set_option maxRecDepth 100000 in
theorem c_X2_starty (l : Launch) (dC : Nat → ClassId) (dI : Nat → Nat → Nat) (cI cJ cB : ClassId) (ra ra1 ra2 ra3 : Nat) (sz : Nat) (ra_n : Nat) (v_ra0 : Nat → Nat → Int32) (n9 : Nat) (r1 : Int32) (v_ra1 : Nat → Nat → Int32) (hf : fx_X2_start n9 ra_n v_ra0  = some (r1, v_ra1)) : Met l yX2_start wo_X2_starty rm_X2_starty (pc_X2_starty dC dI cI cJ cB ra ra1 ra2 ra3 sz ra_n v_ra0 n9 r1 v_ra1) (qc_X2_starty dC dI cI cJ cB ra ra1 ra2 ra3 sz ra_n v_ra0 n9 r1 v_ra1) 0 0 (va_A (ww_X2_starty dC dI cI cJ cB ra ra1 ra2 ra3 sz ra_n v_ra0 n9 r1 v_ra1) sz) := by
  unfold fx_X2_start at hf
  refine Met.ofW (cc := cX2_start) (maxL := 1) (ret := (some .boolean)) (by decide) rfl ?_
  intro p e s m args below meth c s₁ B hml hv
  obtain ⟨rfl, hsz, hnw, hP, hK, hD0⟩ := hv
  have hx := B.exec
  have hb := B.bytes
  have hr := B.returns
  have hts := atoms_spec (ws := wo_X2_starty) B.pre
  have hown : s.vm.findClass RX2 = some m.cls := findClass_of_methodNamed B.named
  have hlocks := B.notSynchronized
  clear B
  subst hsz
  have hD := hD0.self (sz := s.heap.size)
  clear hD0
  have kk0_ := hts (.fieldLink RX2 30 "SumRewriter$Rows" "used" "I") (by decide +kernel)
  have kk1_ : ∀ w ∈ wsX20, w ∈ wo_X2_starty := fun _ h => (List.mem_cons_of_mem _ (List.mem_append_right _ h))
  have kk2_ := hts (.fieldLink RX2 24 "SumRewriter$Rows" "lengths" "[I") (by decide +kernel)
  have hA : ∀ q : Nat, s.heap.size ≤ q → (va_A (ww_X2_starty dC dI cI cJ cB ra ra1 ra2 ra3 s.heap.size ra_n v_ra0 n9 r1 v_ra1) s.heap.size) q := fun q h => Or.inr h
  have hS : va_S (va_A (ww_X2_starty dC dI cI cJ cB ra ra1 ra2 ra3 s.heap.size ra_n v_ra0 n9 r1 v_ra1) s.heap.size) s.heap s.heap [] := va_S.rf
  have hl := lv_entry ([.ref ra]) (n := 1) (Nat.le_of_ble_eq_true rfl)
  rw [lg_entry_eq]
  generalize (lg_sl ([.ref ra]) ++ List.replicate (1 - (lg_sl ([.ref ra])).length) Slot.unset).toArray = ls at hl ⊢
  have hl : lv_has ls 1 [(0, .ref ra)] := hl
  have hP : va_P (dC, dI) vwCl [(ra, .inr (2, [.ref ra1, .ref ra2, .ref ra3, .int (v_ra0 0 0)])), (ra1, .inl (cI, ra_n * 20, .inl (v_ra0 1))), (ra2, .inl (cI, ra_n, .inl (v_ra0 2))), (ra3, .inl (cI, 21, .inl (v_ra0 3)))] s.heap := hP
  have hD : va_D (va_A (ww_X2_starty dC dI cI cJ cB ra ra1 ra2 ra3 s.heap.size ra_n v_ra0 n9 r1 v_ra1) s.heap.size) [(ra, .inr (2, [.ref ra1, .ref ra2, .ref ra3, .int (v_ra0 0 0)])), (ra1, .inl (cI, ra_n * 20, .inl (v_ra0 1))), (ra2, .inl (cI, ra_n, .inl (v_ra0 2))), (ra3, .inl (cI, 21, .inl (v_ra0 3)))] := hD
  obtain ⟨H, hH⟩ : ∃ H, H = s.heap := ⟨_, rfl⟩
  obtain ⟨locs, hlc⟩ : ∃ L : List Loc, L = [] := ⟨_, rfl⟩
  have hS : va_S (va_A (ww_X2_starty dC dI cI cJ cB ra ra1 ra2 ra3 s.heap.size ra_n v_ra0 n9 r1 v_ra1) s.heap.size) s.heap H locs := by rw [hH, hlc]; exact hS
  have hP : va_P (dC, dI) vwCl [(ra, .inr (2, [.ref ra1, .ref ra2, .ref ra3, .int (v_ra0 0 0)])), (ra1, .inl (cI, ra_n * 20, .inl (v_ra0 1))), (ra2, .inl (cI, ra_n, .inl (v_ra0 2))), (ra3, .inl (cI, 21, .inl (v_ra0 3)))] H := by rw [hH]; exact hP
  suffices hgo : WW_X2_starty p l e s m below meth c dC dI cI cJ cB ra ra1 ra2 ra3 s.heap.size ra_n v_ra0 n9 r1 v_ra1 H locs (F0 m 0 ls []) by rw [hH, hlc] at hgo; exact hgo
  clear hH hlc
  refine lv_aload_n hx hb dX2_start_0 rfl (lv_at hl 0 rfl) ?_
  refine va_get (D := (dC, dI)) (ci := 2) (v := .int (v_ra0 0 0)) (C := RX2) (T := TX2) (N := 4) hx hb hts kk1_ hown hK hP 0 rfl rfl 3 (by decide) kk0_ (fun _ h9 => h9) rfl dX2_start_1 ?_
  refine lv_if_lt (tgt := 19) hx hb dX2_start_4 (by decide) (fun c_1 => ?_) (fun c_1 => ?_)
  · replace hf := xi_t c_1 hf
    refine lv_iconst (v := 0) hx hb dX2_start_19 (by decide) ?_
    have hP9 := hP.sub (ws' := [(ra, .inr (2, [.ref ra1, .ref ra2, .ref ra3, .int (v_ra0 0 0)])), (ra1, .inl (cI, ra_n * 20, .inl (v_ra0 1))), (ra2, .inl (cI, ra_n, .inl (v_ra0 2))), (ra3, .inl (cI, 21, .inl (v_ra0 3)))]) [0, 1, 2, 3] rfl
    have hD9 := hD.sub (ws' := [(ra, .inr (2, [.ref ra1, .ref ra2, .ref ra3, .int (v_ra0 0 0)])), (ra1, .inl (cI, ra_n * 20, .inl (v_ra0 1))), (ra2, .inl (cI, ra_n, .inl (v_ra0 2))), (ra3, .inl (cI, 21, .inl (v_ra0 3)))]) [0, 1, 2, 3] (by decide) rfl
    have r9_0 : (0 : Int32) = r1 := (Prod.mk.inj (Option.some.inj hf)).1
    have r9_1 : v_ra0 = v_ra1 := (Prod.mk.inj (Option.some.inj hf)).2
    exact W.zret (v := (0 : Int32)) hx hb hr rfl (fun t ht hW => ⟨⟨(0 : Int32), v_ra0, rfl, ⟨r9_0, r9_1⟩, by rw [ht]; exact hP9, va_K.moved hW.alike hK, hD9⟩, hS.F ht⟩) hS.2.2 dX2_start_20
  · replace hf := xi_f c_1 hf
    refine lv_aload_n hx hb dX2_start_7 rfl (lv_at hl 0 rfl) ?_
    refine va_get (D := (dC, dI)) (ci := 2) (v := .int (v_ra0 0 0)) (C := RX2) (T := TX2) (N := 4) hx hb hts kk1_ hown hK hP 0 rfl rfl 3 (by decide) kk0_ (fun _ h9 => h9) rfl dX2_start_8 ?_
    refine lv_aload_n hx hb dX2_start_11 rfl (lv_at hl 0 rfl) ?_
    refine va_get (D := (dC, dI)) (ci := 2) (v := .ref ra2) (C := RX2) (T := TX2) (N := 4) hx hb hts kk1_ hown hK hP 0 rfl rfl 1 (by decide) kk2_ (fun _ h9 => h9) rfl dX2_start_12 ?_
    refine va_alen (v := nI ra_n) hx hb hK hP 2 0 rfl rfl rfl dX2_start_15 ?_
    refine lv_icmp_lt (tgt := 21) hx hb dX2_start_16 (by decide) (fun c_2 => ?_) (fun c_2 => ?_)
    · replace hf := xi_t c_2 hf
      refine lv_aload_n hx hb dX2_start_21 rfl (lv_at hl 0 rfl) ?_
      refine va_get (D := (dC, dI)) (ci := 2) (v := .ref ra2) (C := RX2) (T := TX2) (N := 4) hx hb hts kk1_ hown hK hP 0 rfl rfl 1 (by decide) kk2_ (fun _ h9 => h9) rfl dX2_start_22 ?_
      refine lv_aload_n hx hb dX2_start_25 rfl (lv_at hl 0 rfl) ?_
      refine va_get (D := (dC, dI)) (ci := 2) (v := .int (v_ra0 0 0)) (C := RX2) (T := TX2) (N := 4) hx hb hts kk1_ hown hK hP 0 rfl rfl 3 (by decide) kk0_ (fun _ h9 => h9) rfl dX2_start_26 ?_
      refine lv_iconst (v := 0) hx hb dX2_start_29 (by decide) ?_
      refine va_iast hx hb hK hP hD hS 2 0 rfl rfl (vp_in_iff.mpr (xwp_in hf)) dX2_start_30 (fun H locs hP hD hS => ?_)
      obtain ⟨v_ra_3, ev_ra_3⟩ : ∃ z, z = mu v_ra0 2 (v_ra0 0 0).toNatClampNeg ((0 : Int32)) := ⟨_, rfl⟩
      have hP : va_P (dC, dI) vwCl [(ra, .inr (2, [.ref ra1, .ref ra2, .ref ra3, .int (v_ra_3 0 0)])), (ra1, .inl (cI, ra_n * 20, .inl (v_ra_3 1))), (ra2, .inl (cI, ra_n, .inl (v_ra_3 2))), (ra3, .inl (cI, 21, .inl (v_ra_3 3)))] H := by rw [ev_ra_3]; exact hP
      have hD : va_D (va_A (ww_X2_starty dC dI cI cJ cB ra ra1 ra2 ra3 s.heap.size ra_n v_ra0 n9 r1 v_ra1) s.heap.size) [(ra, .inr (2, [.ref ra1, .ref ra2, .ref ra3, .int (v_ra_3 0 0)])), (ra1, .inl (cI, ra_n * 20, .inl (v_ra_3 1))), (ra2, .inl (cI, ra_n, .inl (v_ra_3 2))), (ra3, .inl (cI, 21, .inl (v_ra_3 3)))] := by rw [ev_ra_3]; exact hD
      replace hf := xwp_to ev_ra_3 hf
      refine lv_aload_n hx hb dX2_start_31 rfl (lv_at hl 0 rfl) ?_
      refine lv_dup hx hb dX2_start_32 rfl ?_
      refine va_get (D := (dC, dI)) (ci := 2) (v := .int (v_ra_3 0 0)) (C := RX2) (T := TX2) (N := 4) hx hb hts kk1_ hown hK hP 0 rfl rfl 3 (by decide) kk0_ (fun _ h9 => h9) rfl dX2_start_33 ?_
      refine lv_iconst (v := 1) hx hb dX2_start_36 (by decide) ?_
      refine lv_iadd hx hb dX2_start_37 ?_
      refine lv_topi (fun y_4 ey_4 => ?_)
      replace hf := xl_to (v := (v_ra_3 0 0) + ((1 : Int32))) ey_4 hf
      refine va_put (D := (dC, dI)) (ci := 2) (v := .int y_4) (ty := .int) (C := RX2) (T := TX2) (N := 4) hx hb hts kk1_ tyX2 tyX2_ok nmX2 hown hK hP hD hS 0 rfl rfl 3 (by decide) kk0_ (fun _ h9 => h9) rfl (by decide +kernel) rfl rfl (Nat.le_of_ble_eq_true rfl) dX2_start_38 (fun H locs hP hD hS => ?_)
      obtain ⟨v_ra_5, ev_ra_5⟩ : ∃ z, z = mu v_ra_3 0 0 y_4 := ⟨_, rfl⟩
      have hP : va_P (dC, dI) vwCl [(ra, .inr (2, [.ref ra1, .ref ra2, .ref ra3, .int (v_ra_5 0 0)])), (ra1, .inl (cI, ra_n * 20, .inl (v_ra_5 1))), (ra2, .inl (cI, ra_n, .inl (v_ra_5 2))), (ra3, .inl (cI, 21, .inl (v_ra_5 3)))] H := by rw [ev_ra_5]; exact hP
      have hD : va_D (va_A (ww_X2_starty dC dI cI cJ cB ra ra1 ra2 ra3 s.heap.size ra_n v_ra0 n9 r1 v_ra1) s.heap.size) [(ra, .inr (2, [.ref ra1, .ref ra2, .ref ra3, .int (v_ra_5 0 0)])), (ra1, .inl (cI, ra_n * 20, .inl (v_ra_5 1))), (ra2, .inl (cI, ra_n, .inl (v_ra_5 2))), (ra3, .inl (cI, 21, .inl (v_ra_5 3)))] := by rw [ev_ra_5]; exact hD
      replace hf := xl_to ev_ra_5 hf
      refine lv_iconst (v := 1) hx hb dX2_start_41 (by decide) ?_
      have hP9 := hP.sub (ws' := [(ra, .inr (2, [.ref ra1, .ref ra2, .ref ra3, .int (v_ra_5 0 0)])), (ra1, .inl (cI, ra_n * 20, .inl (v_ra_5 1))), (ra2, .inl (cI, ra_n, .inl (v_ra_5 2))), (ra3, .inl (cI, 21, .inl (v_ra_5 3)))]) [0, 1, 2, 3] rfl
      have hD9 := hD.sub (ws' := [(ra, .inr (2, [.ref ra1, .ref ra2, .ref ra3, .int (v_ra_5 0 0)])), (ra1, .inl (cI, ra_n * 20, .inl (v_ra_5 1))), (ra2, .inl (cI, ra_n, .inl (v_ra_5 2))), (ra3, .inl (cI, 21, .inl (v_ra_5 3)))]) [0, 1, 2, 3] (by decide) rfl
      have r9_0 : (1 : Int32) = r1 := (Prod.mk.inj (Option.some.inj hf)).1
      have r9_1 : v_ra_5 = v_ra1 := (Prod.mk.inj (Option.some.inj hf)).2
      exact W.zret (v := (1 : Int32)) hx hb hr rfl (fun t ht hW => ⟨⟨(1 : Int32), v_ra_5, rfl, ⟨r9_0, r9_1⟩, by rw [ht]; exact hP9, va_K.moved hW.alike hK, hD9⟩, hS.F ht⟩) hS.2.2 dX2_start_42
    · replace hf := xi_f c_2 hf
      refine lv_iconst (v := 0) hx hb dX2_start_19 (by decide) ?_
      have hP9 := hP.sub (ws' := [(ra, .inr (2, [.ref ra1, .ref ra2, .ref ra3, .int (v_ra0 0 0)])), (ra1, .inl (cI, ra_n * 20, .inl (v_ra0 1))), (ra2, .inl (cI, ra_n, .inl (v_ra0 2))), (ra3, .inl (cI, 21, .inl (v_ra0 3)))]) [0, 1, 2, 3] rfl
      have hD9 := hD.sub (ws' := [(ra, .inr (2, [.ref ra1, .ref ra2, .ref ra3, .int (v_ra0 0 0)])), (ra1, .inl (cI, ra_n * 20, .inl (v_ra0 1))), (ra2, .inl (cI, ra_n, .inl (v_ra0 2))), (ra3, .inl (cI, 21, .inl (v_ra0 3)))]) [0, 1, 2, 3] (by decide) rfl
      have r9_0 : (0 : Int32) = r1 := (Prod.mk.inj (Option.some.inj hf)).1
      have r9_1 : v_ra0 = v_ra1 := (Prod.mk.inj (Option.some.inj hf)).2
      exact W.zret (v := (0 : Int32)) hx hb hr rfl (fun t ht hW => ⟨⟨(0 : Int32), v_ra0, rfl, ⟨r9_0, r9_1⟩, by rw [ht]; exact hP9, va_K.moved hW.alike hK, hD9⟩, hS.F ht⟩) hS.2.2 dX2_start_20
def wo_X2_puty : List Cond := .code yX2_put cX2_put 4 none :: (([.fieldLink RX2 30 "SumRewriter$Rows" "used" "I", .fieldLink RX2 24 "SumRewriter$Rows" "lengths" "[I", .fieldLink RX2 18 "SumRewriter$Rows" "cells" "[I"] : List Cond) ++ ((wsX20)))
abbrev ww_X2_puty (dC : Nat → ClassId) (dI : Nat → Nat → Nat) (cI cJ cB : ClassId) (ra ra1 ra2 ra3 : Nat) (sz : Nat) (ra_n : Nat) (v_ra0 : Nat → Nat → Int32) (p0 : Int32) (n9 : Nat) (v_ra1 : Nat → Nat → Int32) : va_W := [(ra, .inr (2, [.ref ra1, .ref ra2, .ref ra3, .int (v_ra0 0 0)])), (ra1, .inl (cI, ra_n * 20, .inl (v_ra0 1))), (ra2, .inl (cI, ra_n, .inl (v_ra0 2))), (ra3, .inl (cI, 21, .inl (v_ra0 3)))]
abbrev at_X2_puty (dC : Nat → ClassId) (dI : Nat → Nat → Nat) (cI cJ cB : ClassId) (ra ra1 ra2 ra3 : Nat) (sz : Nat) (ra_n : Nat) (v_ra0 : Nat → Nat → Int32) (p0 : Int32) (n9 : Nat) (v_ra1 : Nat → Nat → Int32) (u : (Nat → Nat → Int32)) (t : State) : Prop := match u with
  | v_ra => va_P (dC, dI) vwCl [(ra, .inr (2, [.ref ra1, .ref ra2, .ref ra3, .int (v_ra 0 0)])), (ra1, .inl (cI, ra_n * 20, .inl (v_ra 1))), (ra2, .inl (cI, ra_n, .inl (v_ra 2))), (ra3, .inl (cI, 21, .inl (v_ra 3)))] t.heap ∧ va_K (dC, dI) vwCl (tyL cI cJ cB) t ∧ va_D (va_A (ww_X2_puty dC dI cI cJ cB ra ra1 ra2 ra3 sz ra_n v_ra0 p0 n9 v_ra1) sz) [(ra, .inr (2, [.ref ra1, .ref ra2, .ref ra3, .int (v_ra 0 0)])), (ra1, .inl (cI, ra_n * 20, .inl (v_ra 1))), (ra2, .inl (cI, ra_n, .inl (v_ra 2))), (ra3, .inl (cI, 21, .inl (v_ra 3)))]
abbrev qc_X2_puty (dC : Nat → ClassId) (dI : Nat → Nat → Nat) (cI cJ cB : ClassId) (ra ra1 ra2 ra3 : Nat) (sz : Nat) (ra_n : Nat) (v_ra0 : Nat → Nat → Int32) (p0 : Int32) (n9 : Nat) (v_ra1 : Nat → Nat → Int32) : Array Value → State → Outcome → State → Prop := va_Qv (fun (u : (Nat → Nat → Int32)) => match u with | v_ra => (v_ra = v_ra1)) (at_X2_puty dC dI cI cJ cB ra ra1 ra2 ra3 sz ra_n v_ra0 p0 n9 v_ra1) (va_A (ww_X2_puty dC dI cI cJ cB ra ra1 ra2 ra3 sz ra_n v_ra0 p0 n9 v_ra1) sz)
abbrev pc_X2_puty (dC : Nat → ClassId) (dI : Nat → Nat → Nat) (cI cJ cB : ClassId) (ra ra1 ra2 ra3 : Nat) (sz : Nat) (ra_n : Nat) (v_ra0 : Nat → Nat → Int32) (p0 : Int32) (n9 : Nat) (v_ra1 : Nat → Nat → Int32) : Array Value → State → Prop := va_Pc [.ref ra, .int p0] (fun U => U.heap.size = sz ∧ NW U ∧ va_P (dC, dI) vwCl (ww_X2_puty dC dI cI cJ cB ra ra1 ra2 ra3 sz ra_n v_ra0 p0 n9 v_ra1) U.heap ∧ va_K (dC, dI) vwCl (tyL cI cJ cB) U ∧ va_D (fun _ => True) (ww_X2_puty dC dI cI cJ cB ra ra1 ra2 ra3 sz ra_n v_ra0 p0 n9 v_ra1))
abbrev rm_X2_puty : Room := { frames := 0, cells := 0, slots := 0, locals := 0 }
abbrev WW_X2_puty (p : Program) (l : Launch) (e : Env) (s : State) (m : MethodId) (below : List Frame) (meth : Method) (c : Code) (dC : Nat → ClassId) (dI : Nat → Nat → Nat) (cI cJ cB : ClassId) (ra ra1 ra2 ra3 : Nat) (sz : Nat) (ra_n : Nat) (v_ra0 : Nat → Nat → Int32) (p0 : Int32) (n9 : Nat) (v_ra1 : Nat → Nat → Int32) (H : Heap) (locs : List Loc) (g : JFrame) : Prop := W p l e rm_X2_puty s m ([.ref ra, .int p0] : List Value).toArray below meth c H locs 0 0 (MQ below (qc_X2_puty dC dI cI cJ cB ra ra1 ra2 ra3 sz ra_n v_ra0 p0 n9 v_ra1) ([.ref ra, .int p0] : List Value).toArray s 0 0 (va_A (ww_X2_puty dC dI cI cJ cB ra ra1 ra2 ra3 sz ra_n v_ra0 p0 n9 v_ra1) sz)) g
set_option maxHeartbeats 4000000 in
set_option maxRecDepth 100000 in
theorem c_X2_puty (l : Launch) (dC : Nat → ClassId) (dI : Nat → Nat → Nat) (cI cJ cB : ClassId) (ra ra1 ra2 ra3 : Nat) (sz : Nat) (ra_n : Nat) (v_ra0 : Nat → Nat → Int32) (p0 : Int32) (n9 : Nat) (v_ra1 : Nat → Nat → Int32) (hf : fx_X2_put n9 ra_n v_ra0 p0 = some (v_ra1)) : Met l yX2_put wo_X2_puty rm_X2_puty (pc_X2_puty dC dI cI cJ cB ra ra1 ra2 ra3 sz ra_n v_ra0 p0 n9 v_ra1) (qc_X2_puty dC dI cI cJ cB ra ra1 ra2 ra3 sz ra_n v_ra0 p0 n9 v_ra1) 0 0 (va_A (ww_X2_puty dC dI cI cJ cB ra ra1 ra2 ra3 sz ra_n v_ra0 p0 n9 v_ra1) sz) := by
  unfold fx_X2_put at hf
  refine Met.ofW (cc := cX2_put) (maxL := 4) (ret := none) (by decide) rfl ?_
  intro p e s m args below meth c s₁ B hml hv
  obtain ⟨rfl, hsz, hnw, hP, hK, hD0⟩ := hv
  have hx := B.exec
  have hb := B.bytes
  have hr := B.returns
  have hts := atoms_spec (ws := wo_X2_puty) B.pre
  have hown : s.vm.findClass RX2 = some m.cls := findClass_of_methodNamed B.named
  have hlocks := B.notSynchronized
  clear B
  subst hsz
  have hD := hD0.self (sz := s.heap.size)
  clear hD0
  have kk0_ := hts (.fieldLink RX2 30 "SumRewriter$Rows" "used" "I") (by decide +kernel)
  have kk1_ : ∀ w ∈ wsX20, w ∈ wo_X2_puty := fun _ h => (List.mem_cons_of_mem _ (List.mem_append_right _ h))
  have kk2_ := hts (.fieldLink RX2 24 "SumRewriter$Rows" "lengths" "[I") (by decide +kernel)
  have kk3_ := hts (.fieldLink RX2 18 "SumRewriter$Rows" "cells" "[I") (by decide +kernel)
  have hA : ∀ q : Nat, s.heap.size ≤ q → (va_A (ww_X2_puty dC dI cI cJ cB ra ra1 ra2 ra3 s.heap.size ra_n v_ra0 p0 n9 v_ra1) s.heap.size) q := fun q h => Or.inr h
  have hS : va_S (va_A (ww_X2_puty dC dI cI cJ cB ra ra1 ra2 ra3 s.heap.size ra_n v_ra0 p0 n9 v_ra1) s.heap.size) s.heap s.heap [] := va_S.rf
  have hl := lv_entry ([.ref ra, .int p0]) (n := 4) (Nat.le_of_ble_eq_true rfl)
  rw [lg_entry_eq]
  generalize (lg_sl ([.ref ra, .int p0]) ++ List.replicate (4 - (lg_sl ([.ref ra, .int p0])).length) Slot.unset).toArray = ls at hl ⊢
  have hl : lv_has ls 4 [(0, .ref ra), (1, .int p0)] := hl
  have hP : va_P (dC, dI) vwCl [(ra, .inr (2, [.ref ra1, .ref ra2, .ref ra3, .int (v_ra0 0 0)])), (ra1, .inl (cI, ra_n * 20, .inl (v_ra0 1))), (ra2, .inl (cI, ra_n, .inl (v_ra0 2))), (ra3, .inl (cI, 21, .inl (v_ra0 3)))] s.heap := hP
  have hD : va_D (va_A (ww_X2_puty dC dI cI cJ cB ra ra1 ra2 ra3 s.heap.size ra_n v_ra0 p0 n9 v_ra1) s.heap.size) [(ra, .inr (2, [.ref ra1, .ref ra2, .ref ra3, .int (v_ra0 0 0)])), (ra1, .inl (cI, ra_n * 20, .inl (v_ra0 1))), (ra2, .inl (cI, ra_n, .inl (v_ra0 2))), (ra3, .inl (cI, 21, .inl (v_ra0 3)))] := hD
  obtain ⟨H, hH⟩ : ∃ H, H = s.heap := ⟨_, rfl⟩
  obtain ⟨locs, hlc⟩ : ∃ L : List Loc, L = [] := ⟨_, rfl⟩
  have hS : va_S (va_A (ww_X2_puty dC dI cI cJ cB ra ra1 ra2 ra3 s.heap.size ra_n v_ra0 p0 n9 v_ra1) s.heap.size) s.heap H locs := by rw [hH, hlc]; exact hS
  have hP : va_P (dC, dI) vwCl [(ra, .inr (2, [.ref ra1, .ref ra2, .ref ra3, .int (v_ra0 0 0)])), (ra1, .inl (cI, ra_n * 20, .inl (v_ra0 1))), (ra2, .inl (cI, ra_n, .inl (v_ra0 2))), (ra3, .inl (cI, 21, .inl (v_ra0 3)))] H := by rw [hH]; exact hP
  suffices hgo : WW_X2_puty p l e s m below meth c dC dI cI cJ cB ra ra1 ra2 ra3 s.heap.size ra_n v_ra0 p0 n9 v_ra1 H locs (F0 m 0 ls []) by rw [hH, hlc] at hgo; exact hgo
  clear hH hlc
  refine lv_aload_n hx hb dX2_put_0 rfl (lv_at hl 0 rfl) ?_
  refine va_get (D := (dC, dI)) (ci := 2) (v := .int (v_ra0 0 0)) (C := RX2) (T := TX2) (N := 4) hx hb hts kk1_ hown hK hP 0 rfl rfl 3 (by decide) kk0_ (fun _ h9 => h9) rfl dX2_put_1 ?_
  refine lv_iconst (v := 1) hx hb dX2_put_4 (by decide) ?_
  refine lv_isub hx hb dX2_put_5 ?_
  refine lv_topi (fun y_1 ey_1 => ?_)
  replace hf := xl_to (v := (v_ra0 0 0) - ((1 : Int32))) ey_1 hf
  refine lv_istore_n (lv' := [(2, .int y_1), (0, .ref ra), (1, .int p0)]) hx hb dX2_put_6 rfl hl (by decide) rfl (fun ls hl => ?_)
  refine lv_iload_n hx hb dX2_put_7 rfl (lv_at hl 0 rfl) ?_
  refine lv_if_lt (tgt := 78) hx hb dX2_put_8 (by decide) (fun c_2 => ?_) (fun c_2 => ?_)
  · replace hf := xi_t c_2 hf
    have hP9 := hP.sub (ws' := [(ra, .inr (2, [.ref ra1, .ref ra2, .ref ra3, .int (v_ra0 0 0)])), (ra1, .inl (cI, ra_n * 20, .inl (v_ra0 1))), (ra2, .inl (cI, ra_n, .inl (v_ra0 2))), (ra3, .inl (cI, 21, .inl (v_ra0 3)))]) [0, 1, 2, 3] rfl
    have hD9 := hD.sub (ws' := [(ra, .inr (2, [.ref ra1, .ref ra2, .ref ra3, .int (v_ra0 0 0)])), (ra1, .inl (cI, ra_n * 20, .inl (v_ra0 1))), (ra2, .inl (cI, ra_n, .inl (v_ra0 2))), (ra3, .inl (cI, 21, .inl (v_ra0 3)))]) [0, 1, 2, 3] (by decide) rfl
    have r9_0 : v_ra0 = v_ra1 := (Option.some.inj hf)
    exact W.vret hx hb hr (fun t ht hW => ⟨⟨v_ra0, rfl, r9_0, by rw [ht]; exact hP9, va_K.moved hW.alike hK, hD9⟩, hS.F ht⟩) hS.2.2 dX2_put_78
  · replace hf := xi_f c_2 hf
    refine lv_iload_n hx hb dX2_put_11 rfl (lv_at hl 0 rfl) ?_
    refine lv_aload_n hx hb dX2_put_12 rfl (lv_at hl 1 rfl) ?_
    refine va_get (D := (dC, dI)) (ci := 2) (v := .ref ra2) (C := RX2) (T := TX2) (N := 4) hx hb hts kk1_ hown hK hP 0 rfl rfl 1 (by decide) kk2_ (fun _ h9 => h9) rfl dX2_put_13 ?_
    refine va_alen (v := nI ra_n) hx hb hK hP 2 0 rfl rfl rfl dX2_put_16 ?_
    refine lv_icmp_ge (tgt := 78) hx hb dX2_put_17 (by decide) (fun c_3 => ?_) (fun c_3 => ?_)
    · replace hf := xi_t c_3 hf
      have hP9 := hP.sub (ws' := [(ra, .inr (2, [.ref ra1, .ref ra2, .ref ra3, .int (v_ra0 0 0)])), (ra1, .inl (cI, ra_n * 20, .inl (v_ra0 1))), (ra2, .inl (cI, ra_n, .inl (v_ra0 2))), (ra3, .inl (cI, 21, .inl (v_ra0 3)))]) [0, 1, 2, 3] rfl
      have hD9 := hD.sub (ws' := [(ra, .inr (2, [.ref ra1, .ref ra2, .ref ra3, .int (v_ra0 0 0)])), (ra1, .inl (cI, ra_n * 20, .inl (v_ra0 1))), (ra2, .inl (cI, ra_n, .inl (v_ra0 2))), (ra3, .inl (cI, 21, .inl (v_ra0 3)))]) [0, 1, 2, 3] (by decide) rfl
      have r9_0 : v_ra0 = v_ra1 := (Option.some.inj hf)
      exact W.vret hx hb hr (fun t ht hW => ⟨⟨v_ra0, rfl, r9_0, by rw [ht]; exact hP9, va_K.moved hW.alike hK, hD9⟩, hS.F ht⟩) hS.2.2 dX2_put_78
    · replace hf := xi_f c_3 hf
      refine lv_aload_n hx hb dX2_put_20 rfl (lv_at hl 1 rfl) ?_
      refine va_get (D := (dC, dI)) (ci := 2) (v := .ref ra2) (C := RX2) (T := TX2) (N := 4) hx hb hts kk1_ hown hK hP 0 rfl rfl 1 (by decide) kk2_ (fun _ h9 => h9) rfl dX2_put_21 ?_
      refine lv_iload_n hx hb dX2_put_24 rfl (lv_at hl 0 rfl) ?_
      refine va_iald hx hb hK hP 2 0 rfl rfl (vp_in_iff.mpr (xr_in hf)) dX2_put_25 ?_
      refine lv_topi (fun y_4 ey_4 => ?_)
      replace hf := xr_to ey_4 hf
      refine lv_if_lt (tgt := 78) hx hb dX2_put_26 (by decide) (fun c_5 => ?_) (fun c_5 => ?_)
      · replace hf := xi_t c_5 hf
        have hP9 := hP.sub (ws' := [(ra, .inr (2, [.ref ra1, .ref ra2, .ref ra3, .int (v_ra0 0 0)])), (ra1, .inl (cI, ra_n * 20, .inl (v_ra0 1))), (ra2, .inl (cI, ra_n, .inl (v_ra0 2))), (ra3, .inl (cI, 21, .inl (v_ra0 3)))]) [0, 1, 2, 3] rfl
        have hD9 := hD.sub (ws' := [(ra, .inr (2, [.ref ra1, .ref ra2, .ref ra3, .int (v_ra0 0 0)])), (ra1, .inl (cI, ra_n * 20, .inl (v_ra0 1))), (ra2, .inl (cI, ra_n, .inl (v_ra0 2))), (ra3, .inl (cI, 21, .inl (v_ra0 3)))]) [0, 1, 2, 3] (by decide) rfl
        have r9_0 : v_ra0 = v_ra1 := (Option.some.inj hf)
        exact W.vret hx hb hr (fun t ht hW => ⟨⟨v_ra0, rfl, r9_0, by rw [ht]; exact hP9, va_K.moved hW.alike hK, hD9⟩, hS.F ht⟩) hS.2.2 dX2_put_78
      · replace hf := xi_f c_5 hf
        refine lv_aload_n hx hb dX2_put_29 rfl (lv_at hl 1 rfl) ?_
        refine va_get (D := (dC, dI)) (ci := 2) (v := .ref ra2) (C := RX2) (T := TX2) (N := 4) hx hb hts kk1_ hown hK hP 0 rfl rfl 1 (by decide) kk2_ (fun _ h9 => h9) rfl dX2_put_30 ?_
        refine lv_iload_n hx hb dX2_put_33 rfl (lv_at hl 0 rfl) ?_
        refine va_iald hx hb hK hP 2 0 rfl rfl (vp_in_iff.mpr (xr_in hf)) dX2_put_34 ?_
        refine lv_topi (fun y_6 ey_6 => ?_)
        replace hf := xr_to ey_6 hf
        refine lv_bipush (v := 20) hx hb dX2_put_35 (by decide) ?_
        refine lv_icmp_ge (tgt := 78) hx hb dX2_put_37 (by decide) (fun c_7 => ?_) (fun c_7 => ?_)
        · replace hf := xi_t c_7 hf
          have hP9 := hP.sub (ws' := [(ra, .inr (2, [.ref ra1, .ref ra2, .ref ra3, .int (v_ra0 0 0)])), (ra1, .inl (cI, ra_n * 20, .inl (v_ra0 1))), (ra2, .inl (cI, ra_n, .inl (v_ra0 2))), (ra3, .inl (cI, 21, .inl (v_ra0 3)))]) [0, 1, 2, 3] rfl
          have hD9 := hD.sub (ws' := [(ra, .inr (2, [.ref ra1, .ref ra2, .ref ra3, .int (v_ra0 0 0)])), (ra1, .inl (cI, ra_n * 20, .inl (v_ra0 1))), (ra2, .inl (cI, ra_n, .inl (v_ra0 2))), (ra3, .inl (cI, 21, .inl (v_ra0 3)))]) [0, 1, 2, 3] (by decide) rfl
          have r9_0 : v_ra0 = v_ra1 := (Option.some.inj hf)
          exact W.vret hx hb hr (fun t ht hW => ⟨⟨v_ra0, rfl, r9_0, by rw [ht]; exact hP9, va_K.moved hW.alike hK, hD9⟩, hS.F ht⟩) hS.2.2 dX2_put_78
        · replace hf := xi_f c_7 hf
          refine lv_iload_n hx hb dX2_put_40 rfl (lv_at hl 0 rfl) ?_
          refine lv_bipush (v := 20) hx hb dX2_put_41 (by decide) ?_
          refine lv_imul hx hb dX2_put_43 ?_
          refine lv_topi (fun y_8 ey_8 => ?_)
          replace hf := xl_to (v := y_1 * ((20 : Int32))) ey_8 hf
          refine lv_aload_n hx hb dX2_put_44 rfl (lv_at hl 1 rfl) ?_
          refine va_get (D := (dC, dI)) (ci := 2) (v := .ref ra2) (C := RX2) (T := TX2) (N := 4) hx hb hts kk1_ hown hK hP 0 rfl rfl 1 (by decide) kk2_ (fun _ h9 => h9) rfl dX2_put_45 ?_
          refine lv_iload_n hx hb dX2_put_48 rfl (lv_at hl 0 rfl) ?_
          refine va_iald hx hb hK hP 2 0 rfl rfl (vp_in_iff.mpr (xr_in hf)) dX2_put_49 ?_
          refine lv_topi (fun y_9 ey_9 => ?_)
          replace hf := xr_to ey_9 hf
          refine lv_iadd hx hb dX2_put_50 ?_
          refine lv_topi (fun y_10 ey_10 => ?_)
          replace hf := xl_to (v := y_8 + y_9) ey_10 hf
          refine lv_istore_n (lv' := [(3, .int y_10), (2, .int y_1), (0, .ref ra), (1, .int p0)]) hx hb dX2_put_51 rfl hl (by decide) rfl (fun ls hl => ?_)
          refine lv_iload_n hx hb dX2_put_52 rfl (lv_at hl 0 rfl) ?_
          refine lv_aload_n hx hb dX2_put_53 rfl (lv_at hl 2 rfl) ?_
          refine va_get (D := (dC, dI)) (ci := 2) (v := .ref ra1) (C := RX2) (T := TX2) (N := 4) hx hb hts kk1_ hown hK hP 0 rfl rfl 0 (by decide) kk3_ (fun _ h9 => h9) rfl dX2_put_54 ?_
          refine va_alen (v := nI (ra_n * 20)) hx hb hK hP 1 0 rfl rfl rfl dX2_put_57 ?_
          refine lv_icmp_ge (tgt := 78) hx hb dX2_put_58 (by decide) (fun c_11 => ?_) (fun c_11 => ?_)
          · replace hf := xi_t c_11 hf
            have hP9 := hP.sub (ws' := [(ra, .inr (2, [.ref ra1, .ref ra2, .ref ra3, .int (v_ra0 0 0)])), (ra1, .inl (cI, ra_n * 20, .inl (v_ra0 1))), (ra2, .inl (cI, ra_n, .inl (v_ra0 2))), (ra3, .inl (cI, 21, .inl (v_ra0 3)))]) [0, 1, 2, 3] rfl
            have hD9 := hD.sub (ws' := [(ra, .inr (2, [.ref ra1, .ref ra2, .ref ra3, .int (v_ra0 0 0)])), (ra1, .inl (cI, ra_n * 20, .inl (v_ra0 1))), (ra2, .inl (cI, ra_n, .inl (v_ra0 2))), (ra3, .inl (cI, 21, .inl (v_ra0 3)))]) [0, 1, 2, 3] (by decide) rfl
            have r9_0 : v_ra0 = v_ra1 := (Option.some.inj hf)
            exact W.vret hx hb hr (fun t ht hW => ⟨⟨v_ra0, rfl, r9_0, by rw [ht]; exact hP9, va_K.moved hW.alike hK, hD9⟩, hS.F ht⟩) hS.2.2 dX2_put_78
          · replace hf := xi_f c_11 hf
            refine lv_aload_n hx hb dX2_put_61 rfl (lv_at hl 2 rfl) ?_
            refine va_get (D := (dC, dI)) (ci := 2) (v := .ref ra1) (C := RX2) (T := TX2) (N := 4) hx hb hts kk1_ hown hK hP 0 rfl rfl 0 (by decide) kk3_ (fun _ h9 => h9) rfl dX2_put_62 ?_
            refine lv_iload_n hx hb dX2_put_65 rfl (lv_at hl 0 rfl) ?_
            refine lv_iload_n hx hb dX2_put_66 rfl (lv_at hl 3 rfl) ?_
            refine va_iast hx hb hK hP hD hS 1 0 rfl rfl (vp_in_iff.mpr (xwp_in hf)) dX2_put_67 (fun H locs hP hD hS => ?_)
            obtain ⟨v_ra_12, ev_ra_12⟩ : ∃ z, z = mu v_ra0 1 (y_10).toNatClampNeg p0 := ⟨_, rfl⟩
            have hP : va_P (dC, dI) vwCl [(ra, .inr (2, [.ref ra1, .ref ra2, .ref ra3, .int (v_ra_12 0 0)])), (ra1, .inl (cI, ra_n * 20, .inl (v_ra_12 1))), (ra2, .inl (cI, ra_n, .inl (v_ra_12 2))), (ra3, .inl (cI, 21, .inl (v_ra_12 3)))] H := by rw [ev_ra_12]; exact hP
            have hD : va_D (va_A (ww_X2_puty dC dI cI cJ cB ra ra1 ra2 ra3 s.heap.size ra_n v_ra0 p0 n9 v_ra1) s.heap.size) [(ra, .inr (2, [.ref ra1, .ref ra2, .ref ra3, .int (v_ra_12 0 0)])), (ra1, .inl (cI, ra_n * 20, .inl (v_ra_12 1))), (ra2, .inl (cI, ra_n, .inl (v_ra_12 2))), (ra3, .inl (cI, 21, .inl (v_ra_12 3)))] := by rw [ev_ra_12]; exact hD
            replace hf := xwp_to ev_ra_12 hf
            refine lv_aload_n hx hb dX2_put_68 rfl (lv_at hl 2 rfl) ?_
            refine va_get (D := (dC, dI)) (ci := 2) (v := .ref ra2) (C := RX2) (T := TX2) (N := 4) hx hb hts kk1_ hown hK hP 0 rfl rfl 1 (by decide) kk2_ (fun _ h9 => h9) rfl dX2_put_69 ?_
            refine lv_iload_n hx hb dX2_put_72 rfl (lv_at hl 1 rfl) ?_
            refine lv_dup2_11 hx hb dX2_put_73 rfl rfl ?_
            refine va_iald hx hb hK hP 2 0 rfl rfl (vp_in_iff.mpr (xr_in hf)) dX2_put_74 ?_
            refine lv_topi (fun y_13 ey_13 => ?_)
            replace hf := xr_to ey_13 hf
            refine lv_iconst (v := 1) hx hb dX2_put_75 (by decide) ?_
            refine lv_iadd hx hb dX2_put_76 ?_
            refine lv_topi (fun y_14 ey_14 => ?_)
            replace hf := xl_to (v := y_13 + ((1 : Int32))) ey_14 hf
            refine va_iast hx hb hK hP hD hS 2 0 rfl rfl (vp_in_iff.mpr (xwp_in hf)) dX2_put_77 (fun H locs hP hD hS => ?_)
            obtain ⟨v_ra_15, ev_ra_15⟩ : ∃ z, z = mu v_ra_12 2 (y_1).toNatClampNeg y_14 := ⟨_, rfl⟩
            have hP : va_P (dC, dI) vwCl [(ra, .inr (2, [.ref ra1, .ref ra2, .ref ra3, .int (v_ra_15 0 0)])), (ra1, .inl (cI, ra_n * 20, .inl (v_ra_15 1))), (ra2, .inl (cI, ra_n, .inl (v_ra_15 2))), (ra3, .inl (cI, 21, .inl (v_ra_15 3)))] H := by rw [ev_ra_15]; exact hP
            have hD : va_D (va_A (ww_X2_puty dC dI cI cJ cB ra ra1 ra2 ra3 s.heap.size ra_n v_ra0 p0 n9 v_ra1) s.heap.size) [(ra, .inr (2, [.ref ra1, .ref ra2, .ref ra3, .int (v_ra_15 0 0)])), (ra1, .inl (cI, ra_n * 20, .inl (v_ra_15 1))), (ra2, .inl (cI, ra_n, .inl (v_ra_15 2))), (ra3, .inl (cI, 21, .inl (v_ra_15 3)))] := by rw [ev_ra_15]; exact hD
            replace hf := xwp_to ev_ra_15 hf
            have hP9 := hP.sub (ws' := [(ra, .inr (2, [.ref ra1, .ref ra2, .ref ra3, .int (v_ra_15 0 0)])), (ra1, .inl (cI, ra_n * 20, .inl (v_ra_15 1))), (ra2, .inl (cI, ra_n, .inl (v_ra_15 2))), (ra3, .inl (cI, 21, .inl (v_ra_15 3)))]) [0, 1, 2, 3] rfl
            have hD9 := hD.sub (ws' := [(ra, .inr (2, [.ref ra1, .ref ra2, .ref ra3, .int (v_ra_15 0 0)])), (ra1, .inl (cI, ra_n * 20, .inl (v_ra_15 1))), (ra2, .inl (cI, ra_n, .inl (v_ra_15 2))), (ra3, .inl (cI, 21, .inl (v_ra_15 3)))]) [0, 1, 2, 3] (by decide) rfl
            have r9_0 : v_ra_15 = v_ra1 := (Option.some.inj hf)
            exact W.vret hx hb hr (fun t ht hW => ⟨⟨v_ra_15, rfl, r9_0, by rw [ht]; exact hP9, va_K.moved hW.alike hK, hD9⟩, hS.F ht⟩) hS.2.2 dX2_put_78
def wo_X2_lengthOfy : List Cond := .code yX2_lengthOf cX2_lengthOf 2 (some .int) :: (([.fieldLink RX2 30 "SumRewriter$Rows" "used" "I", .fieldLink RX2 24 "SumRewriter$Rows" "lengths" "[I"] : List Cond) ++ ((wsX20)))
abbrev ww_X2_lengthOfy (dC : Nat → ClassId) (dI : Nat → Nat → Nat) (cI cJ cB : ClassId) (ra ra1 ra2 ra3 : Nat) (sz : Nat) (ra_n : Nat) (v_ra : Nat → Nat → Int32) (p0 : Int32) (n9 : Nat) (r1 : Int32) : va_W := [(ra, .inr (2, [.ref ra1, .ref ra2, .ref ra3, .int (v_ra 0 0)])), (ra1, .inl (cI, ra_n * 20, .inl (v_ra 1))), (ra2, .inl (cI, ra_n, .inl (v_ra 2))), (ra3, .inl (cI, 21, .inl (v_ra 3)))]
abbrev at_X2_lengthOfy (dC : Nat → ClassId) (dI : Nat → Nat → Nat) (cI cJ cB : ClassId) (ra ra1 ra2 ra3 : Nat) (sz : Nat) (ra_n : Nat) (v_ra : Nat → Nat → Int32) (p0 : Int32) (n9 : Nat) (r1 : Int32) (u : Unit) (t : State) : Prop := match u with
  | () => va_P (dC, dI) vwCl [(ra, .inr (2, [.ref ra1, .ref ra2, .ref ra3, .int (v_ra 0 0)])), (ra1, .inl (cI, ra_n * 20, .inl (v_ra 1))), (ra2, .inl (cI, ra_n, .inl (v_ra 2))), (ra3, .inl (cI, 21, .inl (v_ra 3)))] t.heap ∧ va_K (dC, dI) vwCl (tyL cI cJ cB) t ∧ va_D (va_A (ww_X2_lengthOfy dC dI cI cJ cB ra ra1 ra2 ra3 sz ra_n v_ra p0 n9 r1) sz) [(ra, .inr (2, [.ref ra1, .ref ra2, .ref ra3, .int (v_ra 0 0)])), (ra1, .inl (cI, ra_n * 20, .inl (v_ra 1))), (ra2, .inl (cI, ra_n, .inl (v_ra 2))), (ra3, .inl (cI, 21, .inl (v_ra 3)))]
abbrev qc_X2_lengthOfy (dC : Nat → ClassId) (dI : Nat → Nat → Nat) (cI cJ cB : ClassId) (ra ra1 ra2 ra3 : Nat) (sz : Nat) (ra_n : Nat) (v_ra : Nat → Nat → Int32) (p0 : Int32) (n9 : Nat) (r1 : Int32) : Array Value → State → Outcome → State → Prop := va_Qi (fun (r : Int32) (u : Unit) => match u with | () => (r = r1)) (at_X2_lengthOfy dC dI cI cJ cB ra ra1 ra2 ra3 sz ra_n v_ra p0 n9 r1) (va_A (ww_X2_lengthOfy dC dI cI cJ cB ra ra1 ra2 ra3 sz ra_n v_ra p0 n9 r1) sz)
abbrev pc_X2_lengthOfy (dC : Nat → ClassId) (dI : Nat → Nat → Nat) (cI cJ cB : ClassId) (ra ra1 ra2 ra3 : Nat) (sz : Nat) (ra_n : Nat) (v_ra : Nat → Nat → Int32) (p0 : Int32) (n9 : Nat) (r1 : Int32) : Array Value → State → Prop := va_Pc [.ref ra, .int p0] (fun U => U.heap.size = sz ∧ NW U ∧ va_P (dC, dI) vwCl (ww_X2_lengthOfy dC dI cI cJ cB ra ra1 ra2 ra3 sz ra_n v_ra p0 n9 r1) U.heap ∧ va_K (dC, dI) vwCl (tyL cI cJ cB) U ∧ va_D (fun _ => True) (ww_X2_lengthOfy dC dI cI cJ cB ra ra1 ra2 ra3 sz ra_n v_ra p0 n9 r1))
abbrev rm_X2_lengthOfy : Room := { frames := 0, cells := 0, slots := 0, locals := 0 }
abbrev WW_X2_lengthOfy (p : Program) (l : Launch) (e : Env) (s : State) (m : MethodId) (below : List Frame) (meth : Method) (c : Code) (dC : Nat → ClassId) (dI : Nat → Nat → Nat) (cI cJ cB : ClassId) (ra ra1 ra2 ra3 : Nat) (sz : Nat) (ra_n : Nat) (v_ra : Nat → Nat → Int32) (p0 : Int32) (n9 : Nat) (r1 : Int32) (H : Heap) (locs : List Loc) (g : JFrame) : Prop := W p l e rm_X2_lengthOfy s m ([.ref ra, .int p0] : List Value).toArray below meth c H locs 0 0 (MQ below (qc_X2_lengthOfy dC dI cI cJ cB ra ra1 ra2 ra3 sz ra_n v_ra p0 n9 r1) ([.ref ra, .int p0] : List Value).toArray s 0 0 (va_A (ww_X2_lengthOfy dC dI cI cJ cB ra ra1 ra2 ra3 sz ra_n v_ra p0 n9 r1) sz)) g
set_option maxHeartbeats 4000000 in
set_option maxRecDepth 100000 in
theorem c_X2_lengthOfy (l : Launch) (dC : Nat → ClassId) (dI : Nat → Nat → Nat) (cI cJ cB : ClassId) (ra ra1 ra2 ra3 : Nat) (sz : Nat) (ra_n : Nat) (v_ra : Nat → Nat → Int32) (p0 : Int32) (n9 : Nat) (r1 : Int32) (hf : fx_X2_lengthOf n9 ra_n v_ra p0 = some (r1)) : Met l yX2_lengthOf wo_X2_lengthOfy rm_X2_lengthOfy (pc_X2_lengthOfy dC dI cI cJ cB ra ra1 ra2 ra3 sz ra_n v_ra p0 n9 r1) (qc_X2_lengthOfy dC dI cI cJ cB ra ra1 ra2 ra3 sz ra_n v_ra p0 n9 r1) 0 0 (va_A (ww_X2_lengthOfy dC dI cI cJ cB ra ra1 ra2 ra3 sz ra_n v_ra p0 n9 r1) sz) := by
  unfold fx_X2_lengthOf at hf
  refine Met.ofW (cc := cX2_lengthOf) (maxL := 2) (ret := (some .int)) (by decide) rfl ?_
  intro p e s m args below meth c s₁ B hml hv
  obtain ⟨rfl, hsz, hnw, hP, hK, hD0⟩ := hv
  have hx := B.exec
  have hb := B.bytes
  have hr := B.returns
  have hts := atoms_spec (ws := wo_X2_lengthOfy) B.pre
  have hown : s.vm.findClass RX2 = some m.cls := findClass_of_methodNamed B.named
  have hlocks := B.notSynchronized
  clear B
  subst hsz
  have hD := hD0.self (sz := s.heap.size)
  clear hD0
  have kk0_ := hts (.fieldLink RX2 30 "SumRewriter$Rows" "used" "I") (by decide +kernel)
  have kk1_ : ∀ w ∈ wsX20, w ∈ wo_X2_lengthOfy := fun _ h => (List.mem_cons_of_mem _ (List.mem_append_right _ h))
  have kk2_ := hts (.fieldLink RX2 24 "SumRewriter$Rows" "lengths" "[I") (by decide +kernel)
  have hA : ∀ q : Nat, s.heap.size ≤ q → (va_A (ww_X2_lengthOfy dC dI cI cJ cB ra ra1 ra2 ra3 s.heap.size ra_n v_ra p0 n9 r1) s.heap.size) q := fun q h => Or.inr h
  have hS : va_S (va_A (ww_X2_lengthOfy dC dI cI cJ cB ra ra1 ra2 ra3 s.heap.size ra_n v_ra p0 n9 r1) s.heap.size) s.heap s.heap [] := va_S.rf
  have hl := lv_entry ([.ref ra, .int p0]) (n := 2) (Nat.le_of_ble_eq_true rfl)
  rw [lg_entry_eq]
  generalize (lg_sl ([.ref ra, .int p0]) ++ List.replicate (2 - (lg_sl ([.ref ra, .int p0])).length) Slot.unset).toArray = ls at hl ⊢
  have hl : lv_has ls 2 [(0, .ref ra), (1, .int p0)] := hl
  have hP : va_P (dC, dI) vwCl [(ra, .inr (2, [.ref ra1, .ref ra2, .ref ra3, .int (v_ra 0 0)])), (ra1, .inl (cI, ra_n * 20, .inl (v_ra 1))), (ra2, .inl (cI, ra_n, .inl (v_ra 2))), (ra3, .inl (cI, 21, .inl (v_ra 3)))] s.heap := hP
  have hD : va_D (va_A (ww_X2_lengthOfy dC dI cI cJ cB ra ra1 ra2 ra3 s.heap.size ra_n v_ra p0 n9 r1) s.heap.size) [(ra, .inr (2, [.ref ra1, .ref ra2, .ref ra3, .int (v_ra 0 0)])), (ra1, .inl (cI, ra_n * 20, .inl (v_ra 1))), (ra2, .inl (cI, ra_n, .inl (v_ra 2))), (ra3, .inl (cI, 21, .inl (v_ra 3)))] := hD
  obtain ⟨H, hH⟩ : ∃ H, H = s.heap := ⟨_, rfl⟩
  obtain ⟨locs, hlc⟩ : ∃ L : List Loc, L = [] := ⟨_, rfl⟩
  have hS : va_S (va_A (ww_X2_lengthOfy dC dI cI cJ cB ra ra1 ra2 ra3 s.heap.size ra_n v_ra p0 n9 r1) s.heap.size) s.heap H locs := by rw [hH, hlc]; exact hS
  have hP : va_P (dC, dI) vwCl [(ra, .inr (2, [.ref ra1, .ref ra2, .ref ra3, .int (v_ra 0 0)])), (ra1, .inl (cI, ra_n * 20, .inl (v_ra 1))), (ra2, .inl (cI, ra_n, .inl (v_ra 2))), (ra3, .inl (cI, 21, .inl (v_ra 3)))] H := by rw [hH]; exact hP
  suffices hgo : WW_X2_lengthOfy p l e s m below meth c dC dI cI cJ cB ra ra1 ra2 ra3 s.heap.size ra_n v_ra p0 n9 r1 H locs (F0 m 0 ls []) by rw [hH, hlc] at hgo; exact hgo
  clear hH hlc
  refine lv_iload_n hx hb dX2_lengthOf_0 rfl (lv_at hl 1 rfl) ?_
  refine lv_if_lt (tgt := 30) hx hb dX2_lengthOf_1 (by decide) (fun c_1 => ?_) (fun c_1 => ?_)
  · replace hf := xi_t c_1 hf
    refine lv_iconst (v := 0) hx hb dX2_lengthOf_30 (by decide) ?_
    have hP9 := hP.sub (ws' := [(ra, .inr (2, [.ref ra1, .ref ra2, .ref ra3, .int (v_ra 0 0)])), (ra1, .inl (cI, ra_n * 20, .inl (v_ra 1))), (ra2, .inl (cI, ra_n, .inl (v_ra 2))), (ra3, .inl (cI, 21, .inl (v_ra 3)))]) [0, 1, 2, 3] rfl
    have hD9 := hD.sub (ws' := [(ra, .inr (2, [.ref ra1, .ref ra2, .ref ra3, .int (v_ra 0 0)])), (ra1, .inl (cI, ra_n * 20, .inl (v_ra 1))), (ra2, .inl (cI, ra_n, .inl (v_ra 2))), (ra3, .inl (cI, 21, .inl (v_ra 3)))]) [0, 1, 2, 3] (by decide) rfl
    have r9_0 : (0 : Int32) = r1 := (Option.some.inj hf)
    exact W.iret (v := (0 : Int32)) hx hb hr (fun t ht hW => ⟨⟨(0 : Int32), (), rfl, r9_0, by rw [ht]; exact hP9, va_K.moved hW.alike hK, hD9⟩, hS.F ht⟩) hS.2.2 dX2_lengthOf_31
  · replace hf := xi_f c_1 hf
    refine lv_iload_n hx hb dX2_lengthOf_4 rfl (lv_at hl 1 rfl) ?_
    refine lv_aload_n hx hb dX2_lengthOf_5 rfl (lv_at hl 0 rfl) ?_
    refine va_get (D := (dC, dI)) (ci := 2) (v := .int (v_ra 0 0)) (C := RX2) (T := TX2) (N := 4) hx hb hts kk1_ hown hK hP 0 rfl rfl 3 (by decide) kk0_ (fun _ h9 => h9) rfl dX2_lengthOf_6 ?_
    refine lv_icmp_ge (tgt := 30) hx hb dX2_lengthOf_9 (by decide) (fun c_2 => ?_) (fun c_2 => ?_)
    · replace hf := xi_t c_2 hf
      refine lv_iconst (v := 0) hx hb dX2_lengthOf_30 (by decide) ?_
      have hP9 := hP.sub (ws' := [(ra, .inr (2, [.ref ra1, .ref ra2, .ref ra3, .int (v_ra 0 0)])), (ra1, .inl (cI, ra_n * 20, .inl (v_ra 1))), (ra2, .inl (cI, ra_n, .inl (v_ra 2))), (ra3, .inl (cI, 21, .inl (v_ra 3)))]) [0, 1, 2, 3] rfl
      have hD9 := hD.sub (ws' := [(ra, .inr (2, [.ref ra1, .ref ra2, .ref ra3, .int (v_ra 0 0)])), (ra1, .inl (cI, ra_n * 20, .inl (v_ra 1))), (ra2, .inl (cI, ra_n, .inl (v_ra 2))), (ra3, .inl (cI, 21, .inl (v_ra 3)))]) [0, 1, 2, 3] (by decide) rfl
      have r9_0 : (0 : Int32) = r1 := (Option.some.inj hf)
      exact W.iret (v := (0 : Int32)) hx hb hr (fun t ht hW => ⟨⟨(0 : Int32), (), rfl, r9_0, by rw [ht]; exact hP9, va_K.moved hW.alike hK, hD9⟩, hS.F ht⟩) hS.2.2 dX2_lengthOf_31
    · replace hf := xi_f c_2 hf
      refine lv_iload_n hx hb dX2_lengthOf_12 rfl (lv_at hl 1 rfl) ?_
      refine lv_aload_n hx hb dX2_lengthOf_13 rfl (lv_at hl 0 rfl) ?_
      refine va_get (D := (dC, dI)) (ci := 2) (v := .ref ra2) (C := RX2) (T := TX2) (N := 4) hx hb hts kk1_ hown hK hP 0 rfl rfl 1 (by decide) kk2_ (fun _ h9 => h9) rfl dX2_lengthOf_14 ?_
      refine va_alen (v := nI ra_n) hx hb hK hP 2 0 rfl rfl rfl dX2_lengthOf_17 ?_
      refine lv_icmp_ge (tgt := 30) hx hb dX2_lengthOf_18 (by decide) (fun c_3 => ?_) (fun c_3 => ?_)
      · replace hf := xi_t c_3 hf
        refine lv_iconst (v := 0) hx hb dX2_lengthOf_30 (by decide) ?_
        have hP9 := hP.sub (ws' := [(ra, .inr (2, [.ref ra1, .ref ra2, .ref ra3, .int (v_ra 0 0)])), (ra1, .inl (cI, ra_n * 20, .inl (v_ra 1))), (ra2, .inl (cI, ra_n, .inl (v_ra 2))), (ra3, .inl (cI, 21, .inl (v_ra 3)))]) [0, 1, 2, 3] rfl
        have hD9 := hD.sub (ws' := [(ra, .inr (2, [.ref ra1, .ref ra2, .ref ra3, .int (v_ra 0 0)])), (ra1, .inl (cI, ra_n * 20, .inl (v_ra 1))), (ra2, .inl (cI, ra_n, .inl (v_ra 2))), (ra3, .inl (cI, 21, .inl (v_ra 3)))]) [0, 1, 2, 3] (by decide) rfl
        have r9_0 : (0 : Int32) = r1 := (Option.some.inj hf)
        exact W.iret (v := (0 : Int32)) hx hb hr (fun t ht hW => ⟨⟨(0 : Int32), (), rfl, r9_0, by rw [ht]; exact hP9, va_K.moved hW.alike hK, hD9⟩, hS.F ht⟩) hS.2.2 dX2_lengthOf_31
      · replace hf := xi_f c_3 hf
        refine lv_aload_n hx hb dX2_lengthOf_21 rfl (lv_at hl 0 rfl) ?_
        refine va_get (D := (dC, dI)) (ci := 2) (v := .ref ra2) (C := RX2) (T := TX2) (N := 4) hx hb hts kk1_ hown hK hP 0 rfl rfl 1 (by decide) kk2_ (fun _ h9 => h9) rfl dX2_lengthOf_22 ?_
        refine lv_iload_n hx hb dX2_lengthOf_25 rfl (lv_at hl 1 rfl) ?_
        refine va_iald hx hb hK hP 2 0 rfl rfl (vp_in_iff.mpr (xr_in hf)) dX2_lengthOf_26 ?_
        refine lv_topi (fun y_4 ey_4 => ?_)
        replace hf := xr_to ey_4 hf
        refine lv_goto (tgt := 31) hx hb dX2_lengthOf_27 (by decide) ?_
        have hP9 := hP.sub (ws' := [(ra, .inr (2, [.ref ra1, .ref ra2, .ref ra3, .int (v_ra 0 0)])), (ra1, .inl (cI, ra_n * 20, .inl (v_ra 1))), (ra2, .inl (cI, ra_n, .inl (v_ra 2))), (ra3, .inl (cI, 21, .inl (v_ra 3)))]) [0, 1, 2, 3] rfl
        have hD9 := hD.sub (ws' := [(ra, .inr (2, [.ref ra1, .ref ra2, .ref ra3, .int (v_ra 0 0)])), (ra1, .inl (cI, ra_n * 20, .inl (v_ra 1))), (ra2, .inl (cI, ra_n, .inl (v_ra 2))), (ra3, .inl (cI, 21, .inl (v_ra 3)))]) [0, 1, 2, 3] (by decide) rfl
        have r9_0 : y_4 = r1 := (Option.some.inj hf)
        exact W.iret (v := y_4) hx hb hr (fun t ht hW => ⟨⟨y_4, (), rfl, r9_0, by rw [ht]; exact hP9, va_K.moved hW.alike hK, hD9⟩, hS.F ht⟩) hS.2.2 dX2_lengthOf_31
def wo_X2_cellAty : List Cond := .code yX2_cellAt cX2_cellAt 4 (some .int) :: (([.fieldLink RX2 24 "SumRewriter$Rows" "lengths" "[I", .fieldLink RX2 18 "SumRewriter$Rows" "cells" "[I"] : List Cond) ++ ((wsX20)))
abbrev ww_X2_cellAty (dC : Nat → ClassId) (dI : Nat → Nat → Nat) (cI cJ cB : ClassId) (ra ra1 ra2 ra3 : Nat) (sz : Nat) (ra_n : Nat) (v_ra : Nat → Nat → Int32) (p0 : Int32) (p1 : Int32) (n9 : Nat) (r1 : Int32) : va_W := [(ra, .inr (2, [.ref ra1, .ref ra2, .ref ra3, .int (v_ra 0 0)])), (ra1, .inl (cI, ra_n * 20, .inl (v_ra 1))), (ra2, .inl (cI, ra_n, .inl (v_ra 2))), (ra3, .inl (cI, 21, .inl (v_ra 3)))]
abbrev at_X2_cellAty (dC : Nat → ClassId) (dI : Nat → Nat → Nat) (cI cJ cB : ClassId) (ra ra1 ra2 ra3 : Nat) (sz : Nat) (ra_n : Nat) (v_ra : Nat → Nat → Int32) (p0 : Int32) (p1 : Int32) (n9 : Nat) (r1 : Int32) (u : Unit) (t : State) : Prop := match u with
  | () => va_P (dC, dI) vwCl [(ra, .inr (2, [.ref ra1, .ref ra2, .ref ra3, .int (v_ra 0 0)])), (ra1, .inl (cI, ra_n * 20, .inl (v_ra 1))), (ra2, .inl (cI, ra_n, .inl (v_ra 2))), (ra3, .inl (cI, 21, .inl (v_ra 3)))] t.heap ∧ va_K (dC, dI) vwCl (tyL cI cJ cB) t ∧ va_D (va_A (ww_X2_cellAty dC dI cI cJ cB ra ra1 ra2 ra3 sz ra_n v_ra p0 p1 n9 r1) sz) [(ra, .inr (2, [.ref ra1, .ref ra2, .ref ra3, .int (v_ra 0 0)])), (ra1, .inl (cI, ra_n * 20, .inl (v_ra 1))), (ra2, .inl (cI, ra_n, .inl (v_ra 2))), (ra3, .inl (cI, 21, .inl (v_ra 3)))]
abbrev qc_X2_cellAty (dC : Nat → ClassId) (dI : Nat → Nat → Nat) (cI cJ cB : ClassId) (ra ra1 ra2 ra3 : Nat) (sz : Nat) (ra_n : Nat) (v_ra : Nat → Nat → Int32) (p0 : Int32) (p1 : Int32) (n9 : Nat) (r1 : Int32) : Array Value → State → Outcome → State → Prop := va_Qi (fun (r : Int32) (u : Unit) => match u with | () => (r = r1)) (at_X2_cellAty dC dI cI cJ cB ra ra1 ra2 ra3 sz ra_n v_ra p0 p1 n9 r1) (va_A (ww_X2_cellAty dC dI cI cJ cB ra ra1 ra2 ra3 sz ra_n v_ra p0 p1 n9 r1) sz)
abbrev pc_X2_cellAty (dC : Nat → ClassId) (dI : Nat → Nat → Nat) (cI cJ cB : ClassId) (ra ra1 ra2 ra3 : Nat) (sz : Nat) (ra_n : Nat) (v_ra : Nat → Nat → Int32) (p0 : Int32) (p1 : Int32) (n9 : Nat) (r1 : Int32) : Array Value → State → Prop := va_Pc [.ref ra, .int p0, .int p1] (fun U => U.heap.size = sz ∧ NW U ∧ va_P (dC, dI) vwCl (ww_X2_cellAty dC dI cI cJ cB ra ra1 ra2 ra3 sz ra_n v_ra p0 p1 n9 r1) U.heap ∧ va_K (dC, dI) vwCl (tyL cI cJ cB) U ∧ va_D (fun _ => True) (ww_X2_cellAty dC dI cI cJ cB ra ra1 ra2 ra3 sz ra_n v_ra p0 p1 n9 r1))
abbrev rm_X2_cellAty : Room := { frames := 0, cells := 0, slots := 0, locals := 0 }
abbrev WW_X2_cellAty (p : Program) (l : Launch) (e : Env) (s : State) (m : MethodId) (below : List Frame) (meth : Method) (c : Code) (dC : Nat → ClassId) (dI : Nat → Nat → Nat) (cI cJ cB : ClassId) (ra ra1 ra2 ra3 : Nat) (sz : Nat) (ra_n : Nat) (v_ra : Nat → Nat → Int32) (p0 : Int32) (p1 : Int32) (n9 : Nat) (r1 : Int32) (H : Heap) (locs : List Loc) (g : JFrame) : Prop := W p l e rm_X2_cellAty s m ([.ref ra, .int p0, .int p1] : List Value).toArray below meth c H locs 0 0 (MQ below (qc_X2_cellAty dC dI cI cJ cB ra ra1 ra2 ra3 sz ra_n v_ra p0 p1 n9 r1) ([.ref ra, .int p0, .int p1] : List Value).toArray s 0 0 (va_A (ww_X2_cellAty dC dI cI cJ cB ra ra1 ra2 ra3 sz ra_n v_ra p0 p1 n9 r1) sz)) g
set_option maxHeartbeats 4000000 in
set_option maxRecDepth 100000 in
theorem c_X2_cellAty (l : Launch) (dC : Nat → ClassId) (dI : Nat → Nat → Nat) (cI cJ cB : ClassId) (ra ra1 ra2 ra3 : Nat) (sz : Nat) (ra_n : Nat) (v_ra : Nat → Nat → Int32) (p0 : Int32) (p1 : Int32) (n9 : Nat) (r1 : Int32) (hf : fx_X2_cellAt n9 ra_n v_ra p0 p1 = some (r1)) : Met l yX2_cellAt wo_X2_cellAty rm_X2_cellAty (pc_X2_cellAty dC dI cI cJ cB ra ra1 ra2 ra3 sz ra_n v_ra p0 p1 n9 r1) (qc_X2_cellAty dC dI cI cJ cB ra ra1 ra2 ra3 sz ra_n v_ra p0 p1 n9 r1) 0 0 (va_A (ww_X2_cellAty dC dI cI cJ cB ra ra1 ra2 ra3 sz ra_n v_ra p0 p1 n9 r1) sz) := by
  unfold fx_X2_cellAt at hf
  refine Met.ofW (cc := cX2_cellAt) (maxL := 4) (ret := (some .int)) (by decide) rfl ?_
  intro p e s m args below meth c s₁ B hml hv
  obtain ⟨rfl, hsz, hnw, hP, hK, hD0⟩ := hv
  have hx := B.exec
  have hb := B.bytes
  have hr := B.returns
  have hts := atoms_spec (ws := wo_X2_cellAty) B.pre
  have hown : s.vm.findClass RX2 = some m.cls := findClass_of_methodNamed B.named
  have hlocks := B.notSynchronized
  clear B
  subst hsz
  have hD := hD0.self (sz := s.heap.size)
  clear hD0
  have kk0_ := hts (.fieldLink RX2 24 "SumRewriter$Rows" "lengths" "[I") (by decide +kernel)
  have kk1_ : ∀ w ∈ wsX20, w ∈ wo_X2_cellAty := fun _ h => (List.mem_cons_of_mem _ (List.mem_append_right _ h))
  have kk2_ := hts (.fieldLink RX2 18 "SumRewriter$Rows" "cells" "[I") (by decide +kernel)
  have hA : ∀ q : Nat, s.heap.size ≤ q → (va_A (ww_X2_cellAty dC dI cI cJ cB ra ra1 ra2 ra3 s.heap.size ra_n v_ra p0 p1 n9 r1) s.heap.size) q := fun q h => Or.inr h
  have hS : va_S (va_A (ww_X2_cellAty dC dI cI cJ cB ra ra1 ra2 ra3 s.heap.size ra_n v_ra p0 p1 n9 r1) s.heap.size) s.heap s.heap [] := va_S.rf
  have hl := lv_entry ([.ref ra, .int p0, .int p1]) (n := 4) (Nat.le_of_ble_eq_true rfl)
  rw [lg_entry_eq]
  generalize (lg_sl ([.ref ra, .int p0, .int p1]) ++ List.replicate (4 - (lg_sl ([.ref ra, .int p0, .int p1])).length) Slot.unset).toArray = ls at hl ⊢
  have hl : lv_has ls 4 [(0, .ref ra), (1, .int p0), (2, .int p1)] := hl
  have hP : va_P (dC, dI) vwCl [(ra, .inr (2, [.ref ra1, .ref ra2, .ref ra3, .int (v_ra 0 0)])), (ra1, .inl (cI, ra_n * 20, .inl (v_ra 1))), (ra2, .inl (cI, ra_n, .inl (v_ra 2))), (ra3, .inl (cI, 21, .inl (v_ra 3)))] s.heap := hP
  have hD : va_D (va_A (ww_X2_cellAty dC dI cI cJ cB ra ra1 ra2 ra3 s.heap.size ra_n v_ra p0 p1 n9 r1) s.heap.size) [(ra, .inr (2, [.ref ra1, .ref ra2, .ref ra3, .int (v_ra 0 0)])), (ra1, .inl (cI, ra_n * 20, .inl (v_ra 1))), (ra2, .inl (cI, ra_n, .inl (v_ra 2))), (ra3, .inl (cI, 21, .inl (v_ra 3)))] := hD
  obtain ⟨H, hH⟩ : ∃ H, H = s.heap := ⟨_, rfl⟩
  obtain ⟨locs, hlc⟩ : ∃ L : List Loc, L = [] := ⟨_, rfl⟩
  have hS : va_S (va_A (ww_X2_cellAty dC dI cI cJ cB ra ra1 ra2 ra3 s.heap.size ra_n v_ra p0 p1 n9 r1) s.heap.size) s.heap H locs := by rw [hH, hlc]; exact hS
  have hP : va_P (dC, dI) vwCl [(ra, .inr (2, [.ref ra1, .ref ra2, .ref ra3, .int (v_ra 0 0)])), (ra1, .inl (cI, ra_n * 20, .inl (v_ra 1))), (ra2, .inl (cI, ra_n, .inl (v_ra 2))), (ra3, .inl (cI, 21, .inl (v_ra 3)))] H := by rw [hH]; exact hP
  suffices hgo : WW_X2_cellAty p l e s m below meth c dC dI cI cJ cB ra ra1 ra2 ra3 s.heap.size ra_n v_ra p0 p1 n9 r1 H locs (F0 m 0 ls []) by rw [hH, hlc] at hgo; exact hgo
  clear hH hlc
  refine lv_iload_n hx hb dX2_cellAt_0 rfl (lv_at hl 1 rfl) ?_
  refine lv_if_lt (tgt := 23) hx hb dX2_cellAt_1 (by decide) (fun c_1 => ?_) (fun c_1 => ?_)
  · replace hf := xi_t c_1 hf
    refine lv_iconst (v := 0) hx hb dX2_cellAt_23 (by decide) ?_
    have hP9 := hP.sub (ws' := [(ra, .inr (2, [.ref ra1, .ref ra2, .ref ra3, .int (v_ra 0 0)])), (ra1, .inl (cI, ra_n * 20, .inl (v_ra 1))), (ra2, .inl (cI, ra_n, .inl (v_ra 2))), (ra3, .inl (cI, 21, .inl (v_ra 3)))]) [0, 1, 2, 3] rfl
    have hD9 := hD.sub (ws' := [(ra, .inr (2, [.ref ra1, .ref ra2, .ref ra3, .int (v_ra 0 0)])), (ra1, .inl (cI, ra_n * 20, .inl (v_ra 1))), (ra2, .inl (cI, ra_n, .inl (v_ra 2))), (ra3, .inl (cI, 21, .inl (v_ra 3)))]) [0, 1, 2, 3] (by decide) rfl
    have r9_0 : (0 : Int32) = r1 := (Option.some.inj hf)
    exact W.iret (v := (0 : Int32)) hx hb hr (fun t ht hW => ⟨⟨(0 : Int32), (), rfl, r9_0, by rw [ht]; exact hP9, va_K.moved hW.alike hK, hD9⟩, hS.F ht⟩) hS.2.2 dX2_cellAt_24
  · replace hf := xi_f c_1 hf
    refine lv_iload_n hx hb dX2_cellAt_4 rfl (lv_at hl 1 rfl) ?_
    refine lv_aload_n hx hb dX2_cellAt_5 rfl (lv_at hl 0 rfl) ?_
    refine va_get (D := (dC, dI)) (ci := 2) (v := .ref ra2) (C := RX2) (T := TX2) (N := 4) hx hb hts kk1_ hown hK hP 0 rfl rfl 1 (by decide) kk0_ (fun _ h9 => h9) rfl dX2_cellAt_6 ?_
    refine va_alen (v := nI ra_n) hx hb hK hP 2 0 rfl rfl rfl dX2_cellAt_9 ?_
    refine lv_icmp_ge (tgt := 23) hx hb dX2_cellAt_10 (by decide) (fun c_2 => ?_) (fun c_2 => ?_)
    · replace hf := xi_t c_2 hf
      refine lv_iconst (v := 0) hx hb dX2_cellAt_23 (by decide) ?_
      have hP9 := hP.sub (ws' := [(ra, .inr (2, [.ref ra1, .ref ra2, .ref ra3, .int (v_ra 0 0)])), (ra1, .inl (cI, ra_n * 20, .inl (v_ra 1))), (ra2, .inl (cI, ra_n, .inl (v_ra 2))), (ra3, .inl (cI, 21, .inl (v_ra 3)))]) [0, 1, 2, 3] rfl
      have hD9 := hD.sub (ws' := [(ra, .inr (2, [.ref ra1, .ref ra2, .ref ra3, .int (v_ra 0 0)])), (ra1, .inl (cI, ra_n * 20, .inl (v_ra 1))), (ra2, .inl (cI, ra_n, .inl (v_ra 2))), (ra3, .inl (cI, 21, .inl (v_ra 3)))]) [0, 1, 2, 3] (by decide) rfl
      have r9_0 : (0 : Int32) = r1 := (Option.some.inj hf)
      exact W.iret (v := (0 : Int32)) hx hb hr (fun t ht hW => ⟨⟨(0 : Int32), (), rfl, r9_0, by rw [ht]; exact hP9, va_K.moved hW.alike hK, hD9⟩, hS.F ht⟩) hS.2.2 dX2_cellAt_24
    · replace hf := xi_f c_2 hf
      refine lv_iload_n hx hb dX2_cellAt_13 rfl (lv_at hl 2 rfl) ?_
      refine lv_if_lt (tgt := 23) hx hb dX2_cellAt_14 (by decide) (fun c_3 => ?_) (fun c_3 => ?_)
      · replace hf := xi_t c_3 hf
        refine lv_iconst (v := 0) hx hb dX2_cellAt_23 (by decide) ?_
        have hP9 := hP.sub (ws' := [(ra, .inr (2, [.ref ra1, .ref ra2, .ref ra3, .int (v_ra 0 0)])), (ra1, .inl (cI, ra_n * 20, .inl (v_ra 1))), (ra2, .inl (cI, ra_n, .inl (v_ra 2))), (ra3, .inl (cI, 21, .inl (v_ra 3)))]) [0, 1, 2, 3] rfl
        have hD9 := hD.sub (ws' := [(ra, .inr (2, [.ref ra1, .ref ra2, .ref ra3, .int (v_ra 0 0)])), (ra1, .inl (cI, ra_n * 20, .inl (v_ra 1))), (ra2, .inl (cI, ra_n, .inl (v_ra 2))), (ra3, .inl (cI, 21, .inl (v_ra 3)))]) [0, 1, 2, 3] (by decide) rfl
        have r9_0 : (0 : Int32) = r1 := (Option.some.inj hf)
        exact W.iret (v := (0 : Int32)) hx hb hr (fun t ht hW => ⟨⟨(0 : Int32), (), rfl, r9_0, by rw [ht]; exact hP9, va_K.moved hW.alike hK, hD9⟩, hS.F ht⟩) hS.2.2 dX2_cellAt_24
      · replace hf := xi_f c_3 hf
        refine lv_iload_n hx hb dX2_cellAt_17 rfl (lv_at hl 2 rfl) ?_
        refine lv_bipush (v := 20) hx hb dX2_cellAt_18 (by decide) ?_
        refine lv_icmp_lt (tgt := 25) hx hb dX2_cellAt_20 (by decide) (fun c_4 => ?_) (fun c_4 => ?_)
        · replace hf := xi_t c_4 hf
          refine lv_iload_n hx hb dX2_cellAt_25 rfl (lv_at hl 1 rfl) ?_
          refine lv_bipush (v := 20) hx hb dX2_cellAt_26 (by decide) ?_
          refine lv_imul hx hb dX2_cellAt_28 ?_
          refine lv_topi (fun y_5 ey_5 => ?_)
          replace hf := xl_to (v := p0 * ((20 : Int32))) ey_5 hf
          refine lv_iload_n hx hb dX2_cellAt_29 rfl (lv_at hl 2 rfl) ?_
          refine lv_iadd hx hb dX2_cellAt_30 ?_
          refine lv_topi (fun y_6 ey_6 => ?_)
          replace hf := xl_to (v := y_5 + p1) ey_6 hf
          refine lv_istore_n (lv' := [(3, .int y_6), (0, .ref ra), (1, .int p0), (2, .int p1)]) hx hb dX2_cellAt_31 rfl hl (by decide) rfl (fun ls hl => ?_)
          refine lv_iload_n hx hb dX2_cellAt_32 rfl (lv_at hl 0 rfl) ?_
          refine lv_aload_n hx hb dX2_cellAt_33 rfl (lv_at hl 1 rfl) ?_
          refine va_get (D := (dC, dI)) (ci := 2) (v := .ref ra1) (C := RX2) (T := TX2) (N := 4) hx hb hts kk1_ hown hK hP 0 rfl rfl 0 (by decide) kk2_ (fun _ h9 => h9) rfl dX2_cellAt_34 ?_
          refine va_alen (v := nI (ra_n * 20)) hx hb hK hP 1 0 rfl rfl rfl dX2_cellAt_37 ?_
          refine lv_icmp_ge (tgt := 50) hx hb dX2_cellAt_38 (by decide) (fun c_7 => ?_) (fun c_7 => ?_)
          · replace hf := xi_t c_7 hf
            refine lv_iconst (v := 0) hx hb dX2_cellAt_50 (by decide) ?_
            have hP9 := hP.sub (ws' := [(ra, .inr (2, [.ref ra1, .ref ra2, .ref ra3, .int (v_ra 0 0)])), (ra1, .inl (cI, ra_n * 20, .inl (v_ra 1))), (ra2, .inl (cI, ra_n, .inl (v_ra 2))), (ra3, .inl (cI, 21, .inl (v_ra 3)))]) [0, 1, 2, 3] rfl
            have hD9 := hD.sub (ws' := [(ra, .inr (2, [.ref ra1, .ref ra2, .ref ra3, .int (v_ra 0 0)])), (ra1, .inl (cI, ra_n * 20, .inl (v_ra 1))), (ra2, .inl (cI, ra_n, .inl (v_ra 2))), (ra3, .inl (cI, 21, .inl (v_ra 3)))]) [0, 1, 2, 3] (by decide) rfl
            have r9_0 : (0 : Int32) = r1 := (Option.some.inj hf)
            exact W.iret (v := (0 : Int32)) hx hb hr (fun t ht hW => ⟨⟨(0 : Int32), (), rfl, r9_0, by rw [ht]; exact hP9, va_K.moved hW.alike hK, hD9⟩, hS.F ht⟩) hS.2.2 dX2_cellAt_51
          · replace hf := xi_f c_7 hf
            refine lv_aload_n hx hb dX2_cellAt_41 rfl (lv_at hl 1 rfl) ?_
            refine va_get (D := (dC, dI)) (ci := 2) (v := .ref ra1) (C := RX2) (T := TX2) (N := 4) hx hb hts kk1_ hown hK hP 0 rfl rfl 0 (by decide) kk2_ (fun _ h9 => h9) rfl dX2_cellAt_42 ?_
            refine lv_iload_n hx hb dX2_cellAt_45 rfl (lv_at hl 0 rfl) ?_
            refine va_iald hx hb hK hP 1 0 rfl rfl (vp_in_iff.mpr (xr_in hf)) dX2_cellAt_46 ?_
            refine lv_topi (fun y_8 ey_8 => ?_)
            replace hf := xr_to ey_8 hf
            refine lv_goto (tgt := 51) hx hb dX2_cellAt_47 (by decide) ?_
            have hP9 := hP.sub (ws' := [(ra, .inr (2, [.ref ra1, .ref ra2, .ref ra3, .int (v_ra 0 0)])), (ra1, .inl (cI, ra_n * 20, .inl (v_ra 1))), (ra2, .inl (cI, ra_n, .inl (v_ra 2))), (ra3, .inl (cI, 21, .inl (v_ra 3)))]) [0, 1, 2, 3] rfl
            have hD9 := hD.sub (ws' := [(ra, .inr (2, [.ref ra1, .ref ra2, .ref ra3, .int (v_ra 0 0)])), (ra1, .inl (cI, ra_n * 20, .inl (v_ra 1))), (ra2, .inl (cI, ra_n, .inl (v_ra 2))), (ra3, .inl (cI, 21, .inl (v_ra 3)))]) [0, 1, 2, 3] (by decide) rfl
            have r9_0 : y_8 = r1 := (Option.some.inj hf)
            exact W.iret (v := y_8) hx hb hr (fun t ht hW => ⟨⟨y_8, (), rfl, r9_0, by rw [ht]; exact hP9, va_K.moved hW.alike hK, hD9⟩, hS.F ht⟩) hS.2.2 dX2_cellAt_51
        · replace hf := xi_f c_4 hf
          refine lv_iconst (v := 0) hx hb dX2_cellAt_23 (by decide) ?_
          have hP9 := hP.sub (ws' := [(ra, .inr (2, [.ref ra1, .ref ra2, .ref ra3, .int (v_ra 0 0)])), (ra1, .inl (cI, ra_n * 20, .inl (v_ra 1))), (ra2, .inl (cI, ra_n, .inl (v_ra 2))), (ra3, .inl (cI, 21, .inl (v_ra 3)))]) [0, 1, 2, 3] rfl
          have hD9 := hD.sub (ws' := [(ra, .inr (2, [.ref ra1, .ref ra2, .ref ra3, .int (v_ra 0 0)])), (ra1, .inl (cI, ra_n * 20, .inl (v_ra 1))), (ra2, .inl (cI, ra_n, .inl (v_ra 2))), (ra3, .inl (cI, 21, .inl (v_ra 3)))]) [0, 1, 2, 3] (by decide) rfl
          have r9_0 : (0 : Int32) = r1 := (Option.some.inj hf)
          exact W.iret (v := (0 : Int32)) hx hb hr (fun t ht hW => ⟨⟨(0 : Int32), (), rfl, r9_0, by rw [ht]; exact hP9, va_K.moved hW.alike hK, hD9⟩, hS.F ht⟩) hS.2.2 dX2_cellAt_24
def wo_X2_copyCellsy : List Cond := .code yX2_copyCells cX2_copyCells 6 none :: (([] : List Cond) ++ ((wsV RX2 46 RX2 yX2_cellAt wo_X2_cellAty) ++ ((wsV RX2 49 RX2 yX2_put wo_X2_puty) ++ ((wsV RX2 42 RX2 yX2_start wo_X2_starty)))))
set_option maxRecDepth 20000 in
theorem go_wo_X2_copyCellsy_0 : GoodIn wo_X2_copyCellsy (wsV RX2 46 RX2 yX2_cellAt wo_X2_cellAty) := goodIn_sub (fun _ h => (List.mem_cons_of_mem _ (List.mem_append_right _ (List.mem_append_left _ h)))) (by decide +kernel)
set_option maxRecDepth 20000 in
theorem go_wo_X2_copyCellsy_1 : GoodIn wo_X2_copyCellsy (wsV RX2 49 RX2 yX2_put wo_X2_puty) := goodIn_sub (fun _ h => (List.mem_cons_of_mem _ (List.mem_append_right _ (List.mem_append_right _ (List.mem_append_left _ h))))) (by decide +kernel)
set_option maxRecDepth 20000 in
theorem go_wo_X2_copyCellsy_2 : GoodIn wo_X2_copyCellsy (wsV RX2 42 RX2 yX2_start wo_X2_starty) := goodIn_sub (fun _ h => (List.mem_cons_of_mem _ (List.mem_append_right _ (List.mem_append_right _ (List.mem_append_right _ h))))) (by decide +kernel)
abbrev ww_X2_copyCellsy (dC : Nat → ClassId) (dI : Nat → Nat → Nat) (cI cJ cB : ClassId) (ra ra1 ra2 ra3 rb rb1 rb2 rb3 : Nat) (sz : Nat) (ra_n : Nat) (v_ra0 : Nat → Nat → Int32) (rb_n : Nat) (v_rb : Nat → Nat → Int32) (p0 : Int32) (p1 : Int32) (p2 : Int32) (n9 : Nat) (v_ra1 : Nat → Nat → Int32) : va_W := [(ra, .inr (2, [.ref ra1, .ref ra2, .ref ra3, .int (v_ra0 0 0)])), (ra1, .inl (cI, ra_n * 20, .inl (v_ra0 1))), (ra2, .inl (cI, ra_n, .inl (v_ra0 2))), (ra3, .inl (cI, 21, .inl (v_ra0 3))), (rb, .inr (2, [.ref rb1, .ref rb2, .ref rb3, .int (v_rb 0 0)])), (rb1, .inl (cI, rb_n * 20, .inl (v_rb 1))), (rb2, .inl (cI, rb_n, .inl (v_rb 2))), (rb3, .inl (cI, 21, .inl (v_rb 3)))]
abbrev at_X2_copyCellsy (dC : Nat → ClassId) (dI : Nat → Nat → Nat) (cI cJ cB : ClassId) (ra ra1 ra2 ra3 rb rb1 rb2 rb3 : Nat) (sz : Nat) (ra_n : Nat) (v_ra0 : Nat → Nat → Int32) (rb_n : Nat) (v_rb : Nat → Nat → Int32) (p0 : Int32) (p1 : Int32) (p2 : Int32) (n9 : Nat) (v_ra1 : Nat → Nat → Int32) (u : (Nat → Nat → Int32)) (t : State) : Prop := match u with
  | v_ra => va_P (dC, dI) vwCl [(ra, .inr (2, [.ref ra1, .ref ra2, .ref ra3, .int (v_ra 0 0)])), (ra1, .inl (cI, ra_n * 20, .inl (v_ra 1))), (ra2, .inl (cI, ra_n, .inl (v_ra 2))), (ra3, .inl (cI, 21, .inl (v_ra 3))), (rb, .inr (2, [.ref rb1, .ref rb2, .ref rb3, .int (v_rb 0 0)])), (rb1, .inl (cI, rb_n * 20, .inl (v_rb 1))), (rb2, .inl (cI, rb_n, .inl (v_rb 2))), (rb3, .inl (cI, 21, .inl (v_rb 3)))] t.heap ∧ va_K (dC, dI) vwCl (tyL cI cJ cB) t ∧ va_D (va_A (ww_X2_copyCellsy dC dI cI cJ cB ra ra1 ra2 ra3 rb rb1 rb2 rb3 sz ra_n v_ra0 rb_n v_rb p0 p1 p2 n9 v_ra1) sz) [(ra, .inr (2, [.ref ra1, .ref ra2, .ref ra3, .int (v_ra 0 0)])), (ra1, .inl (cI, ra_n * 20, .inl (v_ra 1))), (ra2, .inl (cI, ra_n, .inl (v_ra 2))), (ra3, .inl (cI, 21, .inl (v_ra 3))), (rb, .inr (2, [.ref rb1, .ref rb2, .ref rb3, .int (v_rb 0 0)])), (rb1, .inl (cI, rb_n * 20, .inl (v_rb 1))), (rb2, .inl (cI, rb_n, .inl (v_rb 2))), (rb3, .inl (cI, 21, .inl (v_rb 3)))]
abbrev qc_X2_copyCellsy (dC : Nat → ClassId) (dI : Nat → Nat → Nat) (cI cJ cB : ClassId) (ra ra1 ra2 ra3 rb rb1 rb2 rb3 : Nat) (sz : Nat) (ra_n : Nat) (v_ra0 : Nat → Nat → Int32) (rb_n : Nat) (v_rb : Nat → Nat → Int32) (p0 : Int32) (p1 : Int32) (p2 : Int32) (n9 : Nat) (v_ra1 : Nat → Nat → Int32) : Array Value → State → Outcome → State → Prop := va_Qv (fun (u : (Nat → Nat → Int32)) => match u with | v_ra => (v_ra = v_ra1)) (at_X2_copyCellsy dC dI cI cJ cB ra ra1 ra2 ra3 rb rb1 rb2 rb3 sz ra_n v_ra0 rb_n v_rb p0 p1 p2 n9 v_ra1) (va_A (ww_X2_copyCellsy dC dI cI cJ cB ra ra1 ra2 ra3 rb rb1 rb2 rb3 sz ra_n v_ra0 rb_n v_rb p0 p1 p2 n9 v_ra1) sz)
abbrev pc_X2_copyCellsy (dC : Nat → ClassId) (dI : Nat → Nat → Nat) (cI cJ cB : ClassId) (ra ra1 ra2 ra3 rb rb1 rb2 rb3 : Nat) (sz : Nat) (ra_n : Nat) (v_ra0 : Nat → Nat → Int32) (rb_n : Nat) (v_rb : Nat → Nat → Int32) (p0 : Int32) (p1 : Int32) (p2 : Int32) (n9 : Nat) (v_ra1 : Nat → Nat → Int32) : Array Value → State → Prop := va_Pc [.ref ra, .ref rb, .int p0, .int p1, .int p2] (fun U => U.heap.size = sz ∧ NW U ∧ va_P (dC, dI) vwCl (ww_X2_copyCellsy dC dI cI cJ cB ra ra1 ra2 ra3 rb rb1 rb2 rb3 sz ra_n v_ra0 rb_n v_rb p0 p1 p2 n9 v_ra1) U.heap ∧ va_K (dC, dI) vwCl (tyL cI cJ cB) U ∧ va_D (fun _ => True) (ww_X2_copyCellsy dC dI cI cJ cB ra ra1 ra2 ra3 rb rb1 rb2 rb3 sz ra_n v_ra0 rb_n v_rb p0 p1 p2 n9 v_ra1))
abbrev rm_X2_copyCellsy : Room := { frames := 1, cells := 0, slots := 0, locals := 23 }
abbrev WW_X2_copyCellsy (p : Program) (l : Launch) (e : Env) (s : State) (m : MethodId) (below : List Frame) (meth : Method) (c : Code) (dC : Nat → ClassId) (dI : Nat → Nat → Nat) (cI cJ cB : ClassId) (ra ra1 ra2 ra3 rb rb1 rb2 rb3 : Nat) (sz : Nat) (ra_n : Nat) (v_ra0 : Nat → Nat → Int32) (rb_n : Nat) (v_rb : Nat → Nat → Int32) (p0 : Int32) (p1 : Int32) (p2 : Int32) (n9 : Nat) (v_ra1 : Nat → Nat → Int32) (H : Heap) (locs : List Loc) (g : JFrame) : Prop := W p l e rm_X2_copyCellsy s m ([.ref ra, .ref rb, .int p0, .int p1, .int p2] : List Value).toArray below meth c H locs 0 0 (MQ below (qc_X2_copyCellsy dC dI cI cJ cB ra ra1 ra2 ra3 rb rb1 rb2 rb3 sz ra_n v_ra0 rb_n v_rb p0 p1 p2 n9 v_ra1) ([.ref ra, .ref rb, .int p0, .int p1, .int p2] : List Value).toArray s 0 0 (va_A (ww_X2_copyCellsy dC dI cI cJ cB ra ra1 ra2 ra3 rb rb1 rb2 rb3 sz ra_n v_ra0 rb_n v_rb p0 p1 p2 n9 v_ra1) sz)) g
set_option maxHeartbeats 4000000 in
set_option maxRecDepth 100000 in
theorem c_X2_copyCellsy (l : Launch) (dC : Nat → ClassId) (dI : Nat → Nat → Nat) (cI cJ cB : ClassId) (ra ra1 ra2 ra3 rb rb1 rb2 rb3 : Nat) (sz : Nat) (ra_n : Nat) (v_ra0 : Nat → Nat → Int32) (rb_n : Nat) (v_rb : Nat → Nat → Int32) (p0 : Int32) (p1 : Int32) (p2 : Int32) (n9 : Nat) (v_ra1 : Nat → Nat → Int32) (hf : fx_X2_copyCells n9 ra_n v_ra0 rb_n v_rb p0 p1 p2 = some (v_ra1)) : Met l yX2_copyCells wo_X2_copyCellsy rm_X2_copyCellsy (pc_X2_copyCellsy dC dI cI cJ cB ra ra1 ra2 ra3 rb rb1 rb2 rb3 sz ra_n v_ra0 rb_n v_rb p0 p1 p2 n9 v_ra1) (qc_X2_copyCellsy dC dI cI cJ cB ra ra1 ra2 ra3 rb rb1 rb2 rb3 sz ra_n v_ra0 rb_n v_rb p0 p1 p2 n9 v_ra1) 0 0 (va_A (ww_X2_copyCellsy dC dI cI cJ cB ra ra1 ra2 ra3 rb rb1 rb2 rb3 sz ra_n v_ra0 rb_n v_rb p0 p1 p2 n9 v_ra1) sz) := by
  unfold fx_X2_copyCells at hf
  refine Met.ofW (cc := cX2_copyCells) (maxL := 6) (ret := none) (by decide) rfl ?_
  intro p e s m args below meth c s₁ B hml hv
  obtain ⟨rfl, hsz, hnw, hP, hK, hD0⟩ := hv
  have hx := B.exec
  have hb := B.bytes
  have hr := B.returns
  have hts := atoms_spec (ws := wo_X2_copyCellsy) B.pre
  have hown : s.vm.findClass RX2 = some m.cls := findClass_of_methodNamed B.named
  have hlocks := B.notSynchronized
  clear B
  subst hsz
  have hD := hD0.self (sz := s.heap.size)
  clear hD0
  have hA : ∀ q : Nat, s.heap.size ≤ q → (va_A (ww_X2_copyCellsy dC dI cI cJ cB ra ra1 ra2 ra3 rb rb1 rb2 rb3 s.heap.size ra_n v_ra0 rb_n v_rb p0 p1 p2 n9 v_ra1) s.heap.size) q := fun q h => Or.inr h
  have hS : va_S (va_A (ww_X2_copyCellsy dC dI cI cJ cB ra ra1 ra2 ra3 rb rb1 rb2 rb3 s.heap.size ra_n v_ra0 rb_n v_rb p0 p1 p2 n9 v_ra1) s.heap.size) s.heap s.heap [] := va_S.rf
  have hl := lv_entry ([.ref ra, .ref rb, .int p0, .int p1, .int p2]) (n := 6) (Nat.le_of_ble_eq_true rfl)
  rw [lg_entry_eq]
  generalize (lg_sl ([.ref ra, .ref rb, .int p0, .int p1, .int p2]) ++ List.replicate (6 - (lg_sl ([.ref ra, .ref rb, .int p0, .int p1, .int p2])).length) Slot.unset).toArray = ls at hl ⊢
  have hl : lv_has ls 6 [(0, .ref ra), (1, .ref rb), (2, .int p0), (3, .int p1), (4, .int p2)] := hl
  have hP : va_P (dC, dI) vwCl [(ra, .inr (2, [.ref ra1, .ref ra2, .ref ra3, .int (v_ra0 0 0)])), (ra1, .inl (cI, ra_n * 20, .inl (v_ra0 1))), (ra2, .inl (cI, ra_n, .inl (v_ra0 2))), (ra3, .inl (cI, 21, .inl (v_ra0 3))), (rb, .inr (2, [.ref rb1, .ref rb2, .ref rb3, .int (v_rb 0 0)])), (rb1, .inl (cI, rb_n * 20, .inl (v_rb 1))), (rb2, .inl (cI, rb_n, .inl (v_rb 2))), (rb3, .inl (cI, 21, .inl (v_rb 3)))] s.heap := hP
  have hD : va_D (va_A (ww_X2_copyCellsy dC dI cI cJ cB ra ra1 ra2 ra3 rb rb1 rb2 rb3 s.heap.size ra_n v_ra0 rb_n v_rb p0 p1 p2 n9 v_ra1) s.heap.size) [(ra, .inr (2, [.ref ra1, .ref ra2, .ref ra3, .int (v_ra0 0 0)])), (ra1, .inl (cI, ra_n * 20, .inl (v_ra0 1))), (ra2, .inl (cI, ra_n, .inl (v_ra0 2))), (ra3, .inl (cI, 21, .inl (v_ra0 3))), (rb, .inr (2, [.ref rb1, .ref rb2, .ref rb3, .int (v_rb 0 0)])), (rb1, .inl (cI, rb_n * 20, .inl (v_rb 1))), (rb2, .inl (cI, rb_n, .inl (v_rb 2))), (rb3, .inl (cI, 21, .inl (v_rb 3)))] := hD
  obtain ⟨H, hH⟩ : ∃ H, H = s.heap := ⟨_, rfl⟩
  obtain ⟨locs, hlc⟩ : ∃ L : List Loc, L = [] := ⟨_, rfl⟩
  have hS : va_S (va_A (ww_X2_copyCellsy dC dI cI cJ cB ra ra1 ra2 ra3 rb rb1 rb2 rb3 s.heap.size ra_n v_ra0 rb_n v_rb p0 p1 p2 n9 v_ra1) s.heap.size) s.heap H locs := by rw [hH, hlc]; exact hS
  have hP : va_P (dC, dI) vwCl [(ra, .inr (2, [.ref ra1, .ref ra2, .ref ra3, .int (v_ra0 0 0)])), (ra1, .inl (cI, ra_n * 20, .inl (v_ra0 1))), (ra2, .inl (cI, ra_n, .inl (v_ra0 2))), (ra3, .inl (cI, 21, .inl (v_ra0 3))), (rb, .inr (2, [.ref rb1, .ref rb2, .ref rb3, .int (v_rb 0 0)])), (rb1, .inl (cI, rb_n * 20, .inl (v_rb 1))), (rb2, .inl (cI, rb_n, .inl (v_rb 2))), (rb3, .inl (cI, 21, .inl (v_rb 3)))] H := by rw [hH]; exact hP
  suffices hgo : WW_X2_copyCellsy p l e s m below meth c dC dI cI cJ cB ra ra1 ra2 ra3 rb rb1 rb2 rb3 s.heap.size ra_n v_ra0 rb_n v_rb p0 p1 p2 n9 v_ra1 H locs (F0 m 0 ls []) by rw [hH, hlc] at hgo; exact hgo
  clear hH hlc
  have L_10 : ∀ (N_10 : Nat), ∀ (x5 : Int32) (v_ra : Nat → Nat → Int32), lx_X2_copyCells_10 n9 ra_n rb_n v_rb p0 p1 p2 N_10 x5 v_ra = some (v_ra1) → ∀ (H : Heap) (locs : List Loc), va_P (dC, dI) vwCl [(ra, .inr (2, [.ref ra1, .ref ra2, .ref ra3, .int (v_ra 0 0)])), (ra1, .inl (cI, ra_n * 20, .inl (v_ra 1))), (ra2, .inl (cI, ra_n, .inl (v_ra 2))), (ra3, .inl (cI, 21, .inl (v_ra 3))), (rb, .inr (2, [.ref rb1, .ref rb2, .ref rb3, .int (v_rb 0 0)])), (rb1, .inl (cI, rb_n * 20, .inl (v_rb 1))), (rb2, .inl (cI, rb_n, .inl (v_rb 2))), (rb3, .inl (cI, 21, .inl (v_rb 3)))] H → va_D (va_A (ww_X2_copyCellsy dC dI cI cJ cB ra ra1 ra2 ra3 rb rb1 rb2 rb3 s.heap.size ra_n v_ra0 rb_n v_rb p0 p1 p2 n9 v_ra1) s.heap.size) [(ra, .inr (2, [.ref ra1, .ref ra2, .ref ra3, .int (v_ra 0 0)])), (ra1, .inl (cI, ra_n * 20, .inl (v_ra 1))), (ra2, .inl (cI, ra_n, .inl (v_ra 2))), (ra3, .inl (cI, 21, .inl (v_ra 3))), (rb, .inr (2, [.ref rb1, .ref rb2, .ref rb3, .int (v_rb 0 0)])), (rb1, .inl (cI, rb_n * 20, .inl (v_rb 1))), (rb2, .inl (cI, rb_n, .inl (v_rb 2))), (rb3, .inl (cI, 21, .inl (v_rb 3)))] → va_S (va_A (ww_X2_copyCellsy dC dI cI cJ cB ra ra1 ra2 ra3 rb rb1 rb2 rb3 s.heap.size ra_n v_ra0 rb_n v_rb p0 p1 p2 n9 v_ra1) s.heap.size) s.heap H locs → ∀ ls : Array Slot, lv_has ls 6 [(0, .ref ra), (1, .ref rb), (2, .int p0), (3, .int p1), (4, .int p2), (5, .int x5)] → WW_X2_copyCellsy p l e s m below meth c dC dI cI cJ cB ra ra1 ra2 ra3 rb rb1 rb2 rb3 s.heap.size ra_n v_ra0 rb_n v_rb p0 p1 p2 n9 v_ra1 H locs (F0 m 10 ls []) := by
    intro N_10
    induction N_10 with
    | zero => intro x5 v_ra hf; exact xn_to hf
    | succ N_10 ih_10 =>
      intro x5 v_ra hf H locs hP hD hS ls hl
      replace hf : bx_X2_copyCells_10 n9 ra_n rb_n v_rb p0 p1 p2 (lx_X2_copyCells_10 n9 ra_n rb_n v_rb p0 p1 p2 N_10) x5 v_ra = some (v_ra1) := hf
      generalize lx_X2_copyCells_10 n9 ra_n rb_n v_rb p0 p1 p2 N_10 = k_10 at hf ih_10
      unfold bx_X2_copyCells_10 at hf
      refine lv_iload hx hb dX2_copyCells_10 (lv_at hl 5 rfl) ?_
      refine lv_iload hx hb dX2_copyCells_12 (lv_at hl 4 rfl) ?_
      refine lv_icmp_ge (tgt := 43) hx hb dX2_copyCells_14 (by decide) (fun c_1 => ?_) (fun c_1 => ?_)
      · replace hf := xi_t c_1 hf
        have hP9 := hP.sub (ws' := [(ra, .inr (2, [.ref ra1, .ref ra2, .ref ra3, .int (v_ra 0 0)])), (ra1, .inl (cI, ra_n * 20, .inl (v_ra 1))), (ra2, .inl (cI, ra_n, .inl (v_ra 2))), (ra3, .inl (cI, 21, .inl (v_ra 3))), (rb, .inr (2, [.ref rb1, .ref rb2, .ref rb3, .int (v_rb 0 0)])), (rb1, .inl (cI, rb_n * 20, .inl (v_rb 1))), (rb2, .inl (cI, rb_n, .inl (v_rb 2))), (rb3, .inl (cI, 21, .inl (v_rb 3)))]) [0, 1, 2, 3, 4, 5, 6, 7] rfl
        have hD9 := hD.sub (ws' := [(ra, .inr (2, [.ref ra1, .ref ra2, .ref ra3, .int (v_ra 0 0)])), (ra1, .inl (cI, ra_n * 20, .inl (v_ra 1))), (ra2, .inl (cI, ra_n, .inl (v_ra 2))), (ra3, .inl (cI, 21, .inl (v_ra 3))), (rb, .inr (2, [.ref rb1, .ref rb2, .ref rb3, .int (v_rb 0 0)])), (rb1, .inl (cI, rb_n * 20, .inl (v_rb 1))), (rb2, .inl (cI, rb_n, .inl (v_rb 2))), (rb3, .inl (cI, 21, .inl (v_rb 3)))]) [0, 1, 2, 3, 4, 5, 6, 7] (by decide) rfl
        have r9_0 : v_ra = v_ra1 := (Option.some.inj hf)
        exact W.vret hx hb hr (fun t ht hW => ⟨⟨v_ra, rfl, r9_0, by rw [ht]; exact hP9, va_K.moved hW.alike hK, hD9⟩, hS.F ht⟩) hS.2.2 dX2_copyCells_43
      · replace hf := xi_f c_1 hf
        refine lv_iload hx hb dX2_copyCells_17 (lv_at hl 5 rfl) ?_
        refine lv_bipush (v := 20) hx hb dX2_copyCells_19 (by decide) ?_
        refine lv_icmp_ge (tgt := 43) hx hb dX2_copyCells_21 (by decide) (fun c_2 => ?_) (fun c_2 => ?_)
        · replace hf := xi_t c_2 hf
          have hP9 := hP.sub (ws' := [(ra, .inr (2, [.ref ra1, .ref ra2, .ref ra3, .int (v_ra 0 0)])), (ra1, .inl (cI, ra_n * 20, .inl (v_ra 1))), (ra2, .inl (cI, ra_n, .inl (v_ra 2))), (ra3, .inl (cI, 21, .inl (v_ra 3))), (rb, .inr (2, [.ref rb1, .ref rb2, .ref rb3, .int (v_rb 0 0)])), (rb1, .inl (cI, rb_n * 20, .inl (v_rb 1))), (rb2, .inl (cI, rb_n, .inl (v_rb 2))), (rb3, .inl (cI, 21, .inl (v_rb 3)))]) [0, 1, 2, 3, 4, 5, 6, 7] rfl
          have hD9 := hD.sub (ws' := [(ra, .inr (2, [.ref ra1, .ref ra2, .ref ra3, .int (v_ra 0 0)])), (ra1, .inl (cI, ra_n * 20, .inl (v_ra 1))), (ra2, .inl (cI, ra_n, .inl (v_ra 2))), (ra3, .inl (cI, 21, .inl (v_ra 3))), (rb, .inr (2, [.ref rb1, .ref rb2, .ref rb3, .int (v_rb 0 0)])), (rb1, .inl (cI, rb_n * 20, .inl (v_rb 1))), (rb2, .inl (cI, rb_n, .inl (v_rb 2))), (rb3, .inl (cI, 21, .inl (v_rb 3)))]) [0, 1, 2, 3, 4, 5, 6, 7] (by decide) rfl
          have r9_0 : v_ra = v_ra1 := (Option.some.inj hf)
          exact W.vret hx hb hr (fun t ht hW => ⟨⟨v_ra, rfl, r9_0, by rw [ht]; exact hP9, va_K.moved hW.alike hK, hD9⟩, hS.F ht⟩) hS.2.2 dX2_copyCells_43
        · replace hf := xi_f c_2 hf
          refine lv_aload_n hx hb dX2_copyCells_24 rfl (lv_at hl 0 rfl) ?_
          refine lv_aload_n hx hb dX2_copyCells_25 rfl (lv_at hl 1 rfl) ?_
          refine lv_iload_n hx hb dX2_copyCells_26 rfl (lv_at hl 2 rfl) ?_
          refine lv_iload_n hx hb dX2_copyCells_27 rfl (lv_at hl 3 rfl) ?_
          refine lv_iload hx hb dX2_copyCells_28 (lv_at hl 5 rfl) ?_
          refine lv_iadd hx hb dX2_copyCells_30 ?_
          refine lv_topi (fun y_3 ey_3 => ?_)
          replace hf := xl_to (v := p1 + x5) ey_3 hf
          replace hf := xb1_to hf
          obtain ⟨o_4, g_5, hf⟩ := hf
          have hPc := hP.sub (ws' := [(rb, .inr (2, [.ref rb1, .ref rb2, .ref rb3, .int (v_rb 0 0)])), (rb1, .inl (cI, rb_n * 20, .inl (v_rb 1))), (rb2, .inl (cI, rb_n, .inl (v_rb 2))), (rb3, .inl (cI, 21, .inl (v_rb 3)))]) [4, 5, 6, 7] rfl
          have hDc := hD.sub (ws' := [(rb, .inr (2, [.ref rb1, .ref rb2, .ref rb3, .int (v_rb 0 0)])), (rb1, .inl (cI, rb_n * 20, .inl (v_rb 1))), (rb2, .inl (cI, rb_n, .inl (v_rb 2))), (rb3, .inl (cI, 21, .inl (v_rb 3)))]) [4, 5, 6, 7] (by decide) rfl
          have hFc := va_free (wc := [(rb, .inr (2, [.ref rb1, .ref rb2, .ref rb3, .int (v_rb 0 0)])), (rb1, .inl (cI, rb_n * 20, .inl (v_rb 1))), (rb2, .inl (cI, rb_n, .inl (v_rb 2))), (rb3, .inl (cI, 21, .inl (v_rb 3)))]) hD hS hA [4, 5, 6, 7] rfl
          refine va_calli (va_runV (As := [.int p0, .int y_3]) (rest := [.ref ra]) ⟨hx, hb, hml, hown, hts⟩ (c_X2_cellAty l dC dI cI cJ cB rb rb1 rb2 rb3 H.size rb_n v_rb p0 y_3 n9 o_4 g_5) (cwV 2 hts go_wo_X2_copyCellsy_0 rfl rfl rfl (by decide +kernel) ⟨Nat.le_of_ble_eq_true rfl, Nat.le_of_ble_eq_true rfl⟩) ⟨fun a U g mk q => by obtain ⟨q0, q1, qN, qP, qK, qD⟩ := q; exact ⟨q0, q1, NW.calling qN, qP, va_K.moved (u := U) (U := U.calling g mk a) (Vm.Alike.refl U.vm) qK, qD⟩, va_recv hK hPc (ci := 2) (q0 := 0) rfl rfl, fun U hU hW => ⟨rfl, by rw [hU], NW.warm hW hnw, by rw [hU]; exact hPc, va_K.moved hW.alike hK, hDc.weaken (fun _ _ _ _ => trivial)⟩⟩ rfl rfl hl.1 rfl (lv_room (Nat.le_of_ble_eq_true rfl)) dX2_copyCells_31 ⟨Nat.zero_le _, Nat.zero_le _⟩) hS (fun q _ h => hFc q h) hFc (fun r_6 u t H1 locs ht hvm hw hB hz1 hk1 hS => ?_)
          cases u
          obtain ⟨hP1, hK1, hD1⟩ := hB
          rw [ht] at hP1
          have hw : (r_6 = o_4) := hw
          subst hw
          obtain ⟨hP, hD⟩ := va_join (wr := [(ra, .inr (2, [.ref ra1, .ref ra2, .ref ra3, .int (v_ra 0 0)])), (ra1, .inl (cI, ra_n * 20, .inl (v_ra 1))), (ra2, .inl (cI, ra_n, .inl (v_ra 2))), (ra3, .inl (cI, 21, .inl (v_ra 3)))]) (w1 := [(rb, .inr (2, [.ref rb1, .ref rb2, .ref rb3, .int (v_rb 0 0)])), (rb1, .inl (cI, rb_n * 20, .inl (v_rb 1))), (rb2, .inl (cI, rb_n, .inl (v_rb 2))), (rb3, .inl (cI, 21, .inl (v_rb 3)))]) hP hD [4, 5, 6, 7] [0, 1, 2, 3] rfl rfl (by decide) (by decide) hk1 hFc hP1 hD1
          generalize H1 = H at hP hS ⊢
          have hP : va_P (dC, dI) vwCl [(ra, .inr (2, [.ref ra1, .ref ra2, .ref ra3, .int (v_ra 0 0)])), (ra1, .inl (cI, ra_n * 20, .inl (v_ra 1))), (ra2, .inl (cI, ra_n, .inl (v_ra 2))), (ra3, .inl (cI, 21, .inl (v_ra 3))), (rb, .inr (2, [.ref rb1, .ref rb2, .ref rb3, .int (v_rb 0 0)])), (rb1, .inl (cI, rb_n * 20, .inl (v_rb 1))), (rb2, .inl (cI, rb_n, .inl (v_rb 2))), (rb3, .inl (cI, 21, .inl (v_rb 3)))] H := hP
          have hD : va_D (va_A (ww_X2_copyCellsy dC dI cI cJ cB ra ra1 ra2 ra3 rb rb1 rb2 rb3 s.heap.size ra_n v_ra0 rb_n v_rb p0 p1 p2 n9 v_ra1) s.heap.size) [(ra, .inr (2, [.ref ra1, .ref ra2, .ref ra3, .int (v_ra 0 0)])), (ra1, .inl (cI, ra_n * 20, .inl (v_ra 1))), (ra2, .inl (cI, ra_n, .inl (v_ra 2))), (ra3, .inl (cI, 21, .inl (v_ra 3))), (rb, .inr (2, [.ref rb1, .ref rb2, .ref rb3, .int (v_rb 0 0)])), (rb1, .inl (cI, rb_n * 20, .inl (v_rb 1))), (rb2, .inl (cI, rb_n, .inl (v_rb 2))), (rb3, .inl (cI, 21, .inl (v_rb 3)))] := hD
          clear hPc hDc hFc hP1 hK1 hD1 hk1 hz1 ht hvm g_5
          replace hf := xb1_to hf
          obtain ⟨o_8, g_9, hf⟩ := hf
          have hPc := hP.sub (ws' := [(ra, .inr (2, [.ref ra1, .ref ra2, .ref ra3, .int (v_ra 0 0)])), (ra1, .inl (cI, ra_n * 20, .inl (v_ra 1))), (ra2, .inl (cI, ra_n, .inl (v_ra 2))), (ra3, .inl (cI, 21, .inl (v_ra 3)))]) [0, 1, 2, 3] rfl
          have hDc := hD.sub (ws' := [(ra, .inr (2, [.ref ra1, .ref ra2, .ref ra3, .int (v_ra 0 0)])), (ra1, .inl (cI, ra_n * 20, .inl (v_ra 1))), (ra2, .inl (cI, ra_n, .inl (v_ra 2))), (ra3, .inl (cI, 21, .inl (v_ra 3)))]) [0, 1, 2, 3] (by decide) rfl
          have hFc := va_free (wc := [(ra, .inr (2, [.ref ra1, .ref ra2, .ref ra3, .int (v_ra 0 0)])), (ra1, .inl (cI, ra_n * 20, .inl (v_ra 1))), (ra2, .inl (cI, ra_n, .inl (v_ra 2))), (ra3, .inl (cI, 21, .inl (v_ra 3)))]) hD hS hA [0, 1, 2, 3] rfl
          refine va_callv (va_runV (As := [.int r_6]) (rest := []) ⟨hx, hb, hml, hown, hts⟩ (c_X2_puty l dC dI cI cJ cB ra ra1 ra2 ra3 H.size ra_n v_ra r_6 n9 o_8 g_9) (cwV 1 hts go_wo_X2_copyCellsy_1 rfl rfl rfl (by decide +kernel) ⟨Nat.le_of_ble_eq_true rfl, Nat.le_of_ble_eq_true rfl⟩) ⟨fun a U g mk q => by obtain ⟨q0, q1, qN, qP, qK, qD⟩ := q; exact ⟨q0, q1, NW.calling qN, qP, va_K.moved (u := U) (U := U.calling g mk a) (Vm.Alike.refl U.vm) qK, qD⟩, va_recv hK hPc (ci := 2) (q0 := 0) rfl rfl, fun U hU hW => ⟨rfl, by rw [hU], NW.warm hW hnw, by rw [hU]; exact hPc, va_K.moved hW.alike hK, hDc.weaken (fun _ _ _ _ => trivial)⟩⟩ rfl rfl hl.1 rfl (lv_room (Nat.le_of_ble_eq_true rfl)) dX2_copyCells_34 ⟨Nat.zero_le _, Nat.zero_le _⟩) hS (fun q _ h => hFc q h) hFc (fun u t H1 locs ht hvm hw hB hz1 hk1 hS => ?_)
          obtain ⟨v_ra_11, rfl⟩ : ∃ z, z = u := ⟨_, rfl⟩
          obtain ⟨hP1, hK1, hD1⟩ := hB
          rw [ht] at hP1
          have hw : (v_ra_11 = o_8) := hw
          subst hw
          obtain ⟨hP, hD⟩ := va_join (wr := [(rb, .inr (2, [.ref rb1, .ref rb2, .ref rb3, .int (v_rb 0 0)])), (rb1, .inl (cI, rb_n * 20, .inl (v_rb 1))), (rb2, .inl (cI, rb_n, .inl (v_rb 2))), (rb3, .inl (cI, 21, .inl (v_rb 3)))]) (w1 := [(ra, .inr (2, [.ref ra1, .ref ra2, .ref ra3, .int (v_ra_11 0 0)])), (ra1, .inl (cI, ra_n * 20, .inl (v_ra_11 1))), (ra2, .inl (cI, ra_n, .inl (v_ra_11 2))), (ra3, .inl (cI, 21, .inl (v_ra_11 3)))]) hP hD [0, 1, 2, 3] [4, 5, 6, 7] rfl rfl (by decide) (by decide) hk1 hFc hP1 hD1
          generalize H1 = H at hP hS ⊢
          have hP : va_P (dC, dI) vwCl [(rb, .inr (2, [.ref rb1, .ref rb2, .ref rb3, .int (v_rb 0 0)])), (rb1, .inl (cI, rb_n * 20, .inl (v_rb 1))), (rb2, .inl (cI, rb_n, .inl (v_rb 2))), (rb3, .inl (cI, 21, .inl (v_rb 3))), (ra, .inr (2, [.ref ra1, .ref ra2, .ref ra3, .int (v_ra_11 0 0)])), (ra1, .inl (cI, ra_n * 20, .inl (v_ra_11 1))), (ra2, .inl (cI, ra_n, .inl (v_ra_11 2))), (ra3, .inl (cI, 21, .inl (v_ra_11 3)))] H := hP
          have hD : va_D (va_A (ww_X2_copyCellsy dC dI cI cJ cB ra ra1 ra2 ra3 rb rb1 rb2 rb3 s.heap.size ra_n v_ra0 rb_n v_rb p0 p1 p2 n9 v_ra1) s.heap.size) [(rb, .inr (2, [.ref rb1, .ref rb2, .ref rb3, .int (v_rb 0 0)])), (rb1, .inl (cI, rb_n * 20, .inl (v_rb 1))), (rb2, .inl (cI, rb_n, .inl (v_rb 2))), (rb3, .inl (cI, 21, .inl (v_rb 3))), (ra, .inr (2, [.ref ra1, .ref ra2, .ref ra3, .int (v_ra_11 0 0)])), (ra1, .inl (cI, ra_n * 20, .inl (v_ra_11 1))), (ra2, .inl (cI, ra_n, .inl (v_ra_11 2))), (ra3, .inl (cI, 21, .inl (v_ra_11 3)))] := hD
          clear hPc hDc hFc hP1 hK1 hD1 hk1 hz1 ht hvm g_9
          obtain ⟨x5_13, ex5_13⟩ : ∃ y : Int32, y = x5 + (1) := ⟨_, rfl⟩
          refine lv_iinc (v := x5_13) (lv' := [(5, .int x5_13), (0, .ref ra), (1, .ref rb), (2, .int p0), (3, .int p1), (4, .int p2)]) hx hb dX2_copyCells_37 hl (k := 5) rfl (by rw [ex5_13]; rfl) (by decide) rfl (fun ls hl => ?_)
          replace hf := xl_to ex5_13 hf
          refine lv_goto (tgt := 10) hx hb dX2_copyCells_40 (by decide) ?_
          exact ih_10 x5_13 v_ra_11 hf _ _ (hP.sub [4, 5, 6, 7, 0, 1, 2, 3] rfl) (hD.sub [4, 5, 6, 7, 0, 1, 2, 3] (by decide) rfl) hS ls (lv_sub hl [1, 2, 3, 4, 5, 0] rfl)
  refine lv_aload_n hx hb dX2_copyCells_0 rfl (lv_at hl 0 rfl) ?_
  replace hf := xb2_to hf
  obtain ⟨o_14, o_15, g_16, hf⟩ := hf
  have hPc := hP.sub (ws' := [(ra, .inr (2, [.ref ra1, .ref ra2, .ref ra3, .int (v_ra0 0 0)])), (ra1, .inl (cI, ra_n * 20, .inl (v_ra0 1))), (ra2, .inl (cI, ra_n, .inl (v_ra0 2))), (ra3, .inl (cI, 21, .inl (v_ra0 3)))]) [0, 1, 2, 3] rfl
  have hDc := hD.sub (ws' := [(ra, .inr (2, [.ref ra1, .ref ra2, .ref ra3, .int (v_ra0 0 0)])), (ra1, .inl (cI, ra_n * 20, .inl (v_ra0 1))), (ra2, .inl (cI, ra_n, .inl (v_ra0 2))), (ra3, .inl (cI, 21, .inl (v_ra0 3)))]) [0, 1, 2, 3] (by decide) rfl
  have hFc := va_free (wc := [(ra, .inr (2, [.ref ra1, .ref ra2, .ref ra3, .int (v_ra0 0 0)])), (ra1, .inl (cI, ra_n * 20, .inl (v_ra0 1))), (ra2, .inl (cI, ra_n, .inl (v_ra0 2))), (ra3, .inl (cI, 21, .inl (v_ra0 3)))]) hD hS hA [0, 1, 2, 3] rfl
  refine va_calli (va_runV (As := []) (rest := []) ⟨hx, hb, hml, hown, hts⟩ (c_X2_starty l dC dI cI cJ cB ra ra1 ra2 ra3 H.size ra_n v_ra0 n9 o_14 o_15 g_16) (cwV 0 hts go_wo_X2_copyCellsy_2 rfl rfl rfl (by decide +kernel) ⟨Nat.le_of_ble_eq_true rfl, Nat.le_of_ble_eq_true rfl⟩) ⟨fun a U g mk q => by obtain ⟨q0, q1, qN, qP, qK, qD⟩ := q; exact ⟨q0, q1, NW.calling qN, qP, va_K.moved (u := U) (U := U.calling g mk a) (Vm.Alike.refl U.vm) qK, qD⟩, va_recv hK hPc (ci := 2) (q0 := 0) rfl rfl, fun U hU hW => ⟨rfl, by rw [hU], NW.warm hW hnw, by rw [hU]; exact hPc, va_K.moved hW.alike hK, hDc.weaken (fun _ _ _ _ => trivial)⟩⟩ rfl rfl hl.1 rfl (lv_room (Nat.le_of_ble_eq_true rfl)) dX2_copyCells_1 ⟨Nat.zero_le _, Nat.zero_le _⟩) hS (fun q _ h => hFc q h) hFc (fun r_17 u t H1 locs ht hvm hw hB hz1 hk1 hS => ?_)
  obtain ⟨v_ra_18, rfl⟩ : ∃ z, z = u := ⟨_, rfl⟩
  obtain ⟨hP1, hK1, hD1⟩ := hB
  rw [ht] at hP1
  have hw : (r_17 = o_14) ∧ (v_ra_18 = o_15) := hw
  obtain ⟨rfl, rfl⟩ := hw
  obtain ⟨hP, hD⟩ := va_join (wr := [(rb, .inr (2, [.ref rb1, .ref rb2, .ref rb3, .int (v_rb 0 0)])), (rb1, .inl (cI, rb_n * 20, .inl (v_rb 1))), (rb2, .inl (cI, rb_n, .inl (v_rb 2))), (rb3, .inl (cI, 21, .inl (v_rb 3)))]) (w1 := [(ra, .inr (2, [.ref ra1, .ref ra2, .ref ra3, .int (v_ra_18 0 0)])), (ra1, .inl (cI, ra_n * 20, .inl (v_ra_18 1))), (ra2, .inl (cI, ra_n, .inl (v_ra_18 2))), (ra3, .inl (cI, 21, .inl (v_ra_18 3)))]) hP hD [0, 1, 2, 3] [4, 5, 6, 7] rfl rfl (by decide) (by decide) hk1 hFc hP1 hD1
  generalize H1 = H at hP hS ⊢
  have hP : va_P (dC, dI) vwCl [(rb, .inr (2, [.ref rb1, .ref rb2, .ref rb3, .int (v_rb 0 0)])), (rb1, .inl (cI, rb_n * 20, .inl (v_rb 1))), (rb2, .inl (cI, rb_n, .inl (v_rb 2))), (rb3, .inl (cI, 21, .inl (v_rb 3))), (ra, .inr (2, [.ref ra1, .ref ra2, .ref ra3, .int (v_ra_18 0 0)])), (ra1, .inl (cI, ra_n * 20, .inl (v_ra_18 1))), (ra2, .inl (cI, ra_n, .inl (v_ra_18 2))), (ra3, .inl (cI, 21, .inl (v_ra_18 3)))] H := hP
  have hD : va_D (va_A (ww_X2_copyCellsy dC dI cI cJ cB ra ra1 ra2 ra3 rb rb1 rb2 rb3 s.heap.size ra_n v_ra0 rb_n v_rb p0 p1 p2 n9 v_ra1) s.heap.size) [(rb, .inr (2, [.ref rb1, .ref rb2, .ref rb3, .int (v_rb 0 0)])), (rb1, .inl (cI, rb_n * 20, .inl (v_rb 1))), (rb2, .inl (cI, rb_n, .inl (v_rb 2))), (rb3, .inl (cI, 21, .inl (v_rb 3))), (ra, .inr (2, [.ref ra1, .ref ra2, .ref ra3, .int (v_ra_18 0 0)])), (ra1, .inl (cI, ra_n * 20, .inl (v_ra_18 1))), (ra2, .inl (cI, ra_n, .inl (v_ra_18 2))), (ra3, .inl (cI, 21, .inl (v_ra_18 3)))] := hD
  clear hPc hDc hFc hP1 hK1 hD1 hk1 hz1 ht hvm g_16
  refine lv_if_eq (tgt := 43) hx hb dX2_copyCells_4 (by decide) (fun c_20 => ?_) (fun c_20 => ?_)
  · replace hf := xi_t c_20 hf
    have hP9 := hP.sub (ws' := [(ra, .inr (2, [.ref ra1, .ref ra2, .ref ra3, .int (v_ra_18 0 0)])), (ra1, .inl (cI, ra_n * 20, .inl (v_ra_18 1))), (ra2, .inl (cI, ra_n, .inl (v_ra_18 2))), (ra3, .inl (cI, 21, .inl (v_ra_18 3))), (rb, .inr (2, [.ref rb1, .ref rb2, .ref rb3, .int (v_rb 0 0)])), (rb1, .inl (cI, rb_n * 20, .inl (v_rb 1))), (rb2, .inl (cI, rb_n, .inl (v_rb 2))), (rb3, .inl (cI, 21, .inl (v_rb 3)))]) [4, 5, 6, 7, 0, 1, 2, 3] rfl
    have hD9 := hD.sub (ws' := [(ra, .inr (2, [.ref ra1, .ref ra2, .ref ra3, .int (v_ra_18 0 0)])), (ra1, .inl (cI, ra_n * 20, .inl (v_ra_18 1))), (ra2, .inl (cI, ra_n, .inl (v_ra_18 2))), (ra3, .inl (cI, 21, .inl (v_ra_18 3))), (rb, .inr (2, [.ref rb1, .ref rb2, .ref rb3, .int (v_rb 0 0)])), (rb1, .inl (cI, rb_n * 20, .inl (v_rb 1))), (rb2, .inl (cI, rb_n, .inl (v_rb 2))), (rb3, .inl (cI, 21, .inl (v_rb 3)))]) [4, 5, 6, 7, 0, 1, 2, 3] (by decide) rfl
    have r9_0 : v_ra_18 = v_ra1 := (Option.some.inj hf)
    exact W.vret hx hb hr (fun t ht hW => ⟨⟨v_ra_18, rfl, r9_0, by rw [ht]; exact hP9, va_K.moved hW.alike hK, hD9⟩, hS.F ht⟩) hS.2.2 dX2_copyCells_43
  · replace hf := xi_f c_20 hf
    refine lv_iconst (v := 0) hx hb dX2_copyCells_7 (by decide) ?_
    refine lv_istore (lv' := [(5, .int ((0 : Int32))), (0, .ref ra), (1, .ref rb), (2, .int p0), (3, .int p1), (4, .int p2)]) hx hb dX2_copyCells_8 hl (by decide) rfl (fun ls hl => ?_)
    exact L_10 n9 ((0 : Int32)) v_ra_18 hf _ _ (hP.sub [4, 5, 6, 7, 0, 1, 2, 3] rfl) (hD.sub [4, 5, 6, 7, 0, 1, 2, 3] (by decide) rfl) hS ls (lv_sub hl [1, 2, 3, 4, 5, 0] rfl)
def wo_X2_copyy : List Cond := .code yX2_copy cX2_copy 3 none :: (([] : List Cond) ++ ((wsV RX2 34 RX2 yX2_lengthOf wo_X2_lengthOfy) ++ ((wsV RX2 38 RX2 yX2_copyCells wo_X2_copyCellsy))))
set_option maxRecDepth 20000 in
theorem go_wo_X2_copyy_0 : GoodIn wo_X2_copyy (wsV RX2 34 RX2 yX2_lengthOf wo_X2_lengthOfy) := goodIn_sub (fun _ h => (List.mem_cons_of_mem _ (List.mem_append_right _ (List.mem_append_left _ h)))) (by decide +kernel)
set_option maxRecDepth 20000 in
theorem go_wo_X2_copyy_1 : GoodIn wo_X2_copyy (wsV RX2 38 RX2 yX2_copyCells wo_X2_copyCellsy) := goodIn_sub (fun _ h => (List.mem_cons_of_mem _ (List.mem_append_right _ (List.mem_append_right _ h)))) (by decide +kernel)
abbrev ww_X2_copyy (dC : Nat → ClassId) (dI : Nat → Nat → Nat) (cI cJ cB : ClassId) (ra ra1 ra2 ra3 rb rb1 rb2 rb3 : Nat) (sz : Nat) (ra_n : Nat) (v_ra0 : Nat → Nat → Int32) (rb_n : Nat) (v_rb : Nat → Nat → Int32) (p0 : Int32) (n9 : Nat) (v_ra1 : Nat → Nat → Int32) : va_W := [(ra, .inr (2, [.ref ra1, .ref ra2, .ref ra3, .int (v_ra0 0 0)])), (ra1, .inl (cI, ra_n * 20, .inl (v_ra0 1))), (ra2, .inl (cI, ra_n, .inl (v_ra0 2))), (ra3, .inl (cI, 21, .inl (v_ra0 3))), (rb, .inr (2, [.ref rb1, .ref rb2, .ref rb3, .int (v_rb 0 0)])), (rb1, .inl (cI, rb_n * 20, .inl (v_rb 1))), (rb2, .inl (cI, rb_n, .inl (v_rb 2))), (rb3, .inl (cI, 21, .inl (v_rb 3)))]
abbrev at_X2_copyy (dC : Nat → ClassId) (dI : Nat → Nat → Nat) (cI cJ cB : ClassId) (ra ra1 ra2 ra3 rb rb1 rb2 rb3 : Nat) (sz : Nat) (ra_n : Nat) (v_ra0 : Nat → Nat → Int32) (rb_n : Nat) (v_rb : Nat → Nat → Int32) (p0 : Int32) (n9 : Nat) (v_ra1 : Nat → Nat → Int32) (u : (Nat → Nat → Int32)) (t : State) : Prop := match u with
  | v_ra => va_P (dC, dI) vwCl [(ra, .inr (2, [.ref ra1, .ref ra2, .ref ra3, .int (v_ra 0 0)])), (ra1, .inl (cI, ra_n * 20, .inl (v_ra 1))), (ra2, .inl (cI, ra_n, .inl (v_ra 2))), (ra3, .inl (cI, 21, .inl (v_ra 3))), (rb, .inr (2, [.ref rb1, .ref rb2, .ref rb3, .int (v_rb 0 0)])), (rb1, .inl (cI, rb_n * 20, .inl (v_rb 1))), (rb2, .inl (cI, rb_n, .inl (v_rb 2))), (rb3, .inl (cI, 21, .inl (v_rb 3)))] t.heap ∧ va_K (dC, dI) vwCl (tyL cI cJ cB) t ∧ va_D (va_A (ww_X2_copyy dC dI cI cJ cB ra ra1 ra2 ra3 rb rb1 rb2 rb3 sz ra_n v_ra0 rb_n v_rb p0 n9 v_ra1) sz) [(ra, .inr (2, [.ref ra1, .ref ra2, .ref ra3, .int (v_ra 0 0)])), (ra1, .inl (cI, ra_n * 20, .inl (v_ra 1))), (ra2, .inl (cI, ra_n, .inl (v_ra 2))), (ra3, .inl (cI, 21, .inl (v_ra 3))), (rb, .inr (2, [.ref rb1, .ref rb2, .ref rb3, .int (v_rb 0 0)])), (rb1, .inl (cI, rb_n * 20, .inl (v_rb 1))), (rb2, .inl (cI, rb_n, .inl (v_rb 2))), (rb3, .inl (cI, 21, .inl (v_rb 3)))]
abbrev qc_X2_copyy (dC : Nat → ClassId) (dI : Nat → Nat → Nat) (cI cJ cB : ClassId) (ra ra1 ra2 ra3 rb rb1 rb2 rb3 : Nat) (sz : Nat) (ra_n : Nat) (v_ra0 : Nat → Nat → Int32) (rb_n : Nat) (v_rb : Nat → Nat → Int32) (p0 : Int32) (n9 : Nat) (v_ra1 : Nat → Nat → Int32) : Array Value → State → Outcome → State → Prop := va_Qv (fun (u : (Nat → Nat → Int32)) => match u with | v_ra => (v_ra = v_ra1)) (at_X2_copyy dC dI cI cJ cB ra ra1 ra2 ra3 rb rb1 rb2 rb3 sz ra_n v_ra0 rb_n v_rb p0 n9 v_ra1) (va_A (ww_X2_copyy dC dI cI cJ cB ra ra1 ra2 ra3 rb rb1 rb2 rb3 sz ra_n v_ra0 rb_n v_rb p0 n9 v_ra1) sz)
abbrev pc_X2_copyy (dC : Nat → ClassId) (dI : Nat → Nat → Nat) (cI cJ cB : ClassId) (ra ra1 ra2 ra3 rb rb1 rb2 rb3 : Nat) (sz : Nat) (ra_n : Nat) (v_ra0 : Nat → Nat → Int32) (rb_n : Nat) (v_rb : Nat → Nat → Int32) (p0 : Int32) (n9 : Nat) (v_ra1 : Nat → Nat → Int32) : Array Value → State → Prop := va_Pc [.ref ra, .ref rb, .int p0] (fun U => U.heap.size = sz ∧ NW U ∧ va_P (dC, dI) vwCl (ww_X2_copyy dC dI cI cJ cB ra ra1 ra2 ra3 rb rb1 rb2 rb3 sz ra_n v_ra0 rb_n v_rb p0 n9 v_ra1) U.heap ∧ va_K (dC, dI) vwCl (tyL cI cJ cB) U ∧ va_D (fun _ => True) (ww_X2_copyy dC dI cI cJ cB ra ra1 ra2 ra3 rb rb1 rb2 rb3 sz ra_n v_ra0 rb_n v_rb p0 n9 v_ra1))
abbrev rm_X2_copyy : Room := { frames := 2, cells := 0, slots := 0, locals := 48 }
abbrev WW_X2_copyy (p : Program) (l : Launch) (e : Env) (s : State) (m : MethodId) (below : List Frame) (meth : Method) (c : Code) (dC : Nat → ClassId) (dI : Nat → Nat → Nat) (cI cJ cB : ClassId) (ra ra1 ra2 ra3 rb rb1 rb2 rb3 : Nat) (sz : Nat) (ra_n : Nat) (v_ra0 : Nat → Nat → Int32) (rb_n : Nat) (v_rb : Nat → Nat → Int32) (p0 : Int32) (n9 : Nat) (v_ra1 : Nat → Nat → Int32) (H : Heap) (locs : List Loc) (g : JFrame) : Prop := W p l e rm_X2_copyy s m ([.ref ra, .ref rb, .int p0] : List Value).toArray below meth c H locs 0 0 (MQ below (qc_X2_copyy dC dI cI cJ cB ra ra1 ra2 ra3 rb rb1 rb2 rb3 sz ra_n v_ra0 rb_n v_rb p0 n9 v_ra1) ([.ref ra, .ref rb, .int p0] : List Value).toArray s 0 0 (va_A (ww_X2_copyy dC dI cI cJ cB ra ra1 ra2 ra3 rb rb1 rb2 rb3 sz ra_n v_ra0 rb_n v_rb p0 n9 v_ra1) sz)) g
set_option maxHeartbeats 4000000 in
set_option maxRecDepth 100000 in
theorem c_X2_copyy (l : Launch) (dC : Nat → ClassId) (dI : Nat → Nat → Nat) (cI cJ cB : ClassId) (ra ra1 ra2 ra3 rb rb1 rb2 rb3 : Nat) (sz : Nat) (ra_n : Nat) (v_ra0 : Nat → Nat → Int32) (rb_n : Nat) (v_rb : Nat → Nat → Int32) (p0 : Int32) (n9 : Nat) (v_ra1 : Nat → Nat → Int32) (hf : fx_X2_copy n9 ra_n v_ra0 rb_n v_rb p0 = some (v_ra1)) : Met l yX2_copy wo_X2_copyy rm_X2_copyy (pc_X2_copyy dC dI cI cJ cB ra ra1 ra2 ra3 rb rb1 rb2 rb3 sz ra_n v_ra0 rb_n v_rb p0 n9 v_ra1) (qc_X2_copyy dC dI cI cJ cB ra ra1 ra2 ra3 rb rb1 rb2 rb3 sz ra_n v_ra0 rb_n v_rb p0 n9 v_ra1) 0 0 (va_A (ww_X2_copyy dC dI cI cJ cB ra ra1 ra2 ra3 rb rb1 rb2 rb3 sz ra_n v_ra0 rb_n v_rb p0 n9 v_ra1) sz) := by
  unfold fx_X2_copy at hf
  refine Met.ofW (cc := cX2_copy) (maxL := 3) (ret := none) (by decide) rfl ?_
  intro p e s m args below meth c s₁ B hml hv
  obtain ⟨rfl, hsz, hnw, hP, hK, hD0⟩ := hv
  have hx := B.exec
  have hb := B.bytes
  have hr := B.returns
  have hts := atoms_spec (ws := wo_X2_copyy) B.pre
  have hown : s.vm.findClass RX2 = some m.cls := findClass_of_methodNamed B.named
  have hlocks := B.notSynchronized
  clear B
  subst hsz
  have hD := hD0.self (sz := s.heap.size)
  clear hD0
  have hA : ∀ q : Nat, s.heap.size ≤ q → (va_A (ww_X2_copyy dC dI cI cJ cB ra ra1 ra2 ra3 rb rb1 rb2 rb3 s.heap.size ra_n v_ra0 rb_n v_rb p0 n9 v_ra1) s.heap.size) q := fun q h => Or.inr h
  have hS : va_S (va_A (ww_X2_copyy dC dI cI cJ cB ra ra1 ra2 ra3 rb rb1 rb2 rb3 s.heap.size ra_n v_ra0 rb_n v_rb p0 n9 v_ra1) s.heap.size) s.heap s.heap [] := va_S.rf
  have hl := lv_entry ([.ref ra, .ref rb, .int p0]) (n := 3) (Nat.le_of_ble_eq_true rfl)
  rw [lg_entry_eq]
  generalize (lg_sl ([.ref ra, .ref rb, .int p0]) ++ List.replicate (3 - (lg_sl ([.ref ra, .ref rb, .int p0])).length) Slot.unset).toArray = ls at hl ⊢
  have hl : lv_has ls 3 [(0, .ref ra), (1, .ref rb), (2, .int p0)] := hl
  have hP : va_P (dC, dI) vwCl [(ra, .inr (2, [.ref ra1, .ref ra2, .ref ra3, .int (v_ra0 0 0)])), (ra1, .inl (cI, ra_n * 20, .inl (v_ra0 1))), (ra2, .inl (cI, ra_n, .inl (v_ra0 2))), (ra3, .inl (cI, 21, .inl (v_ra0 3))), (rb, .inr (2, [.ref rb1, .ref rb2, .ref rb3, .int (v_rb 0 0)])), (rb1, .inl (cI, rb_n * 20, .inl (v_rb 1))), (rb2, .inl (cI, rb_n, .inl (v_rb 2))), (rb3, .inl (cI, 21, .inl (v_rb 3)))] s.heap := hP
  have hD : va_D (va_A (ww_X2_copyy dC dI cI cJ cB ra ra1 ra2 ra3 rb rb1 rb2 rb3 s.heap.size ra_n v_ra0 rb_n v_rb p0 n9 v_ra1) s.heap.size) [(ra, .inr (2, [.ref ra1, .ref ra2, .ref ra3, .int (v_ra0 0 0)])), (ra1, .inl (cI, ra_n * 20, .inl (v_ra0 1))), (ra2, .inl (cI, ra_n, .inl (v_ra0 2))), (ra3, .inl (cI, 21, .inl (v_ra0 3))), (rb, .inr (2, [.ref rb1, .ref rb2, .ref rb3, .int (v_rb 0 0)])), (rb1, .inl (cI, rb_n * 20, .inl (v_rb 1))), (rb2, .inl (cI, rb_n, .inl (v_rb 2))), (rb3, .inl (cI, 21, .inl (v_rb 3)))] := hD
  obtain ⟨H, hH⟩ : ∃ H, H = s.heap := ⟨_, rfl⟩
  obtain ⟨locs, hlc⟩ : ∃ L : List Loc, L = [] := ⟨_, rfl⟩
  have hS : va_S (va_A (ww_X2_copyy dC dI cI cJ cB ra ra1 ra2 ra3 rb rb1 rb2 rb3 s.heap.size ra_n v_ra0 rb_n v_rb p0 n9 v_ra1) s.heap.size) s.heap H locs := by rw [hH, hlc]; exact hS
  have hP : va_P (dC, dI) vwCl [(ra, .inr (2, [.ref ra1, .ref ra2, .ref ra3, .int (v_ra0 0 0)])), (ra1, .inl (cI, ra_n * 20, .inl (v_ra0 1))), (ra2, .inl (cI, ra_n, .inl (v_ra0 2))), (ra3, .inl (cI, 21, .inl (v_ra0 3))), (rb, .inr (2, [.ref rb1, .ref rb2, .ref rb3, .int (v_rb 0 0)])), (rb1, .inl (cI, rb_n * 20, .inl (v_rb 1))), (rb2, .inl (cI, rb_n, .inl (v_rb 2))), (rb3, .inl (cI, 21, .inl (v_rb 3)))] H := by rw [hH]; exact hP
  suffices hgo : WW_X2_copyy p l e s m below meth c dC dI cI cJ cB ra ra1 ra2 ra3 rb rb1 rb2 rb3 s.heap.size ra_n v_ra0 rb_n v_rb p0 n9 v_ra1 H locs (F0 m 0 ls []) by rw [hH, hlc] at hgo; exact hgo
  clear hH hlc
  refine lv_aload_n hx hb dX2_copy_0 rfl (lv_at hl 0 rfl) ?_
  refine lv_aload_n hx hb dX2_copy_1 rfl (lv_at hl 1 rfl) ?_
  refine lv_iload_n hx hb dX2_copy_2 rfl (lv_at hl 2 rfl) ?_
  refine lv_iconst (v := 0) hx hb dX2_copy_3 (by decide) ?_
  refine lv_aload_n hx hb dX2_copy_4 rfl (lv_at hl 1 rfl) ?_
  refine lv_iload_n hx hb dX2_copy_5 rfl (lv_at hl 2 rfl) ?_
  replace hf := xb1_to hf
  obtain ⟨o_1, g_2, hf⟩ := hf
  have hPc := hP.sub (ws' := [(rb, .inr (2, [.ref rb1, .ref rb2, .ref rb3, .int (v_rb 0 0)])), (rb1, .inl (cI, rb_n * 20, .inl (v_rb 1))), (rb2, .inl (cI, rb_n, .inl (v_rb 2))), (rb3, .inl (cI, 21, .inl (v_rb 3)))]) [4, 5, 6, 7] rfl
  have hDc := hD.sub (ws' := [(rb, .inr (2, [.ref rb1, .ref rb2, .ref rb3, .int (v_rb 0 0)])), (rb1, .inl (cI, rb_n * 20, .inl (v_rb 1))), (rb2, .inl (cI, rb_n, .inl (v_rb 2))), (rb3, .inl (cI, 21, .inl (v_rb 3)))]) [4, 5, 6, 7] (by decide) rfl
  have hFc := va_free (wc := [(rb, .inr (2, [.ref rb1, .ref rb2, .ref rb3, .int (v_rb 0 0)])), (rb1, .inl (cI, rb_n * 20, .inl (v_rb 1))), (rb2, .inl (cI, rb_n, .inl (v_rb 2))), (rb3, .inl (cI, 21, .inl (v_rb 3)))]) hD hS hA [4, 5, 6, 7] rfl
  refine va_calli (va_runV (As := [.int p0]) (rest := [.int ((0 : Int32)), .int p0, .ref rb, .ref ra]) ⟨hx, hb, hml, hown, hts⟩ (c_X2_lengthOfy l dC dI cI cJ cB rb rb1 rb2 rb3 H.size rb_n v_rb p0 n9 o_1 g_2) (cwV 1 hts go_wo_X2_copyy_0 rfl rfl rfl (by decide +kernel) ⟨Nat.le_of_ble_eq_true rfl, Nat.le_of_ble_eq_true rfl⟩) ⟨fun a U g mk q => by obtain ⟨q0, q1, qN, qP, qK, qD⟩ := q; exact ⟨q0, q1, NW.calling qN, qP, va_K.moved (u := U) (U := U.calling g mk a) (Vm.Alike.refl U.vm) qK, qD⟩, va_recv hK hPc (ci := 2) (q0 := 0) rfl rfl, fun U hU hW => ⟨rfl, by rw [hU], NW.warm hW hnw, by rw [hU]; exact hPc, va_K.moved hW.alike hK, hDc.weaken (fun _ _ _ _ => trivial)⟩⟩ rfl rfl hl.1 rfl (lv_room (Nat.le_of_ble_eq_true rfl)) dX2_copy_6 ⟨Nat.zero_le _, Nat.zero_le _⟩) hS (fun q _ h => hFc q h) hFc (fun r_3 u t H1 locs ht hvm hw hB hz1 hk1 hS => ?_)
  cases u
  obtain ⟨hP1, hK1, hD1⟩ := hB
  rw [ht] at hP1
  have hw : (r_3 = o_1) := hw
  subst hw
  obtain ⟨hP, hD⟩ := va_join (wr := [(ra, .inr (2, [.ref ra1, .ref ra2, .ref ra3, .int (v_ra0 0 0)])), (ra1, .inl (cI, ra_n * 20, .inl (v_ra0 1))), (ra2, .inl (cI, ra_n, .inl (v_ra0 2))), (ra3, .inl (cI, 21, .inl (v_ra0 3)))]) (w1 := [(rb, .inr (2, [.ref rb1, .ref rb2, .ref rb3, .int (v_rb 0 0)])), (rb1, .inl (cI, rb_n * 20, .inl (v_rb 1))), (rb2, .inl (cI, rb_n, .inl (v_rb 2))), (rb3, .inl (cI, 21, .inl (v_rb 3)))]) hP hD [4, 5, 6, 7] [0, 1, 2, 3] rfl rfl (by decide) (by decide) hk1 hFc hP1 hD1
  generalize H1 = H at hP hS ⊢
  have hP : va_P (dC, dI) vwCl [(ra, .inr (2, [.ref ra1, .ref ra2, .ref ra3, .int (v_ra0 0 0)])), (ra1, .inl (cI, ra_n * 20, .inl (v_ra0 1))), (ra2, .inl (cI, ra_n, .inl (v_ra0 2))), (ra3, .inl (cI, 21, .inl (v_ra0 3))), (rb, .inr (2, [.ref rb1, .ref rb2, .ref rb3, .int (v_rb 0 0)])), (rb1, .inl (cI, rb_n * 20, .inl (v_rb 1))), (rb2, .inl (cI, rb_n, .inl (v_rb 2))), (rb3, .inl (cI, 21, .inl (v_rb 3)))] H := hP
  have hD : va_D (va_A (ww_X2_copyy dC dI cI cJ cB ra ra1 ra2 ra3 rb rb1 rb2 rb3 s.heap.size ra_n v_ra0 rb_n v_rb p0 n9 v_ra1) s.heap.size) [(ra, .inr (2, [.ref ra1, .ref ra2, .ref ra3, .int (v_ra0 0 0)])), (ra1, .inl (cI, ra_n * 20, .inl (v_ra0 1))), (ra2, .inl (cI, ra_n, .inl (v_ra0 2))), (ra3, .inl (cI, 21, .inl (v_ra0 3))), (rb, .inr (2, [.ref rb1, .ref rb2, .ref rb3, .int (v_rb 0 0)])), (rb1, .inl (cI, rb_n * 20, .inl (v_rb 1))), (rb2, .inl (cI, rb_n, .inl (v_rb 2))), (rb3, .inl (cI, 21, .inl (v_rb 3)))] := hD
  clear hPc hDc hFc hP1 hK1 hD1 hk1 hz1 ht hvm g_2
  replace hf := xb1_to hf
  obtain ⟨o_5, g_6, hf⟩ := hf
  have hPc := hP.sub (ws' := [(ra, .inr (2, [.ref ra1, .ref ra2, .ref ra3, .int (v_ra0 0 0)])), (ra1, .inl (cI, ra_n * 20, .inl (v_ra0 1))), (ra2, .inl (cI, ra_n, .inl (v_ra0 2))), (ra3, .inl (cI, 21, .inl (v_ra0 3))), (rb, .inr (2, [.ref rb1, .ref rb2, .ref rb3, .int (v_rb 0 0)])), (rb1, .inl (cI, rb_n * 20, .inl (v_rb 1))), (rb2, .inl (cI, rb_n, .inl (v_rb 2))), (rb3, .inl (cI, 21, .inl (v_rb 3)))]) [0, 1, 2, 3, 4, 5, 6, 7] rfl
  have hDc := hD.sub (ws' := [(ra, .inr (2, [.ref ra1, .ref ra2, .ref ra3, .int (v_ra0 0 0)])), (ra1, .inl (cI, ra_n * 20, .inl (v_ra0 1))), (ra2, .inl (cI, ra_n, .inl (v_ra0 2))), (ra3, .inl (cI, 21, .inl (v_ra0 3))), (rb, .inr (2, [.ref rb1, .ref rb2, .ref rb3, .int (v_rb 0 0)])), (rb1, .inl (cI, rb_n * 20, .inl (v_rb 1))), (rb2, .inl (cI, rb_n, .inl (v_rb 2))), (rb3, .inl (cI, 21, .inl (v_rb 3)))]) [0, 1, 2, 3, 4, 5, 6, 7] (by decide) rfl
  have hFc := va_free (wc := [(ra, .inr (2, [.ref ra1, .ref ra2, .ref ra3, .int (v_ra0 0 0)])), (ra1, .inl (cI, ra_n * 20, .inl (v_ra0 1))), (ra2, .inl (cI, ra_n, .inl (v_ra0 2))), (ra3, .inl (cI, 21, .inl (v_ra0 3))), (rb, .inr (2, [.ref rb1, .ref rb2, .ref rb3, .int (v_rb 0 0)])), (rb1, .inl (cI, rb_n * 20, .inl (v_rb 1))), (rb2, .inl (cI, rb_n, .inl (v_rb 2))), (rb3, .inl (cI, 21, .inl (v_rb 3)))]) hD hS hA [0, 1, 2, 3, 4, 5, 6, 7] rfl
  refine va_callv (va_runV (As := [.ref rb, .int p0, .int ((0 : Int32)), .int r_3]) (rest := []) ⟨hx, hb, hml, hown, hts⟩ (c_X2_copyCellsy l dC dI cI cJ cB ra ra1 ra2 ra3 rb rb1 rb2 rb3 H.size ra_n v_ra0 rb_n v_rb p0 ((0 : Int32)) r_3 n9 o_5 g_6) (cwV 4 hts go_wo_X2_copyy_1 rfl rfl rfl (by decide +kernel) ⟨Nat.le_of_ble_eq_true rfl, Nat.le_of_ble_eq_true rfl⟩) ⟨fun a U g mk q => by obtain ⟨q0, q1, qN, qP, qK, qD⟩ := q; exact ⟨q0, q1, NW.calling qN, qP, va_K.moved (u := U) (U := U.calling g mk a) (Vm.Alike.refl U.vm) qK, qD⟩, va_recv hK hPc (ci := 2) (q0 := 0) rfl rfl, fun U hU hW => ⟨rfl, by rw [hU], NW.warm hW hnw, by rw [hU]; exact hPc, va_K.moved hW.alike hK, hDc.weaken (fun _ _ _ _ => trivial)⟩⟩ rfl rfl hl.1 rfl (lv_room (Nat.le_of_ble_eq_true rfl)) dX2_copy_9 ⟨Nat.zero_le _, Nat.zero_le _⟩) hS (fun q _ h => hFc q h) hFc (fun u t H1 locs ht hvm hw hB hz1 hk1 hS => ?_)
  obtain ⟨v_ra_8, rfl⟩ : ∃ z, z = u := ⟨_, rfl⟩
  obtain ⟨hP1, hK1, hD1⟩ := hB
  rw [ht] at hP1
  have hw : (v_ra_8 = o_5) := hw
  subst hw
  obtain ⟨hP, hD⟩ := va_join (wr := []) (w1 := [(ra, .inr (2, [.ref ra1, .ref ra2, .ref ra3, .int (v_ra_8 0 0)])), (ra1, .inl (cI, ra_n * 20, .inl (v_ra_8 1))), (ra2, .inl (cI, ra_n, .inl (v_ra_8 2))), (ra3, .inl (cI, 21, .inl (v_ra_8 3))), (rb, .inr (2, [.ref rb1, .ref rb2, .ref rb3, .int (v_rb 0 0)])), (rb1, .inl (cI, rb_n * 20, .inl (v_rb 1))), (rb2, .inl (cI, rb_n, .inl (v_rb 2))), (rb3, .inl (cI, 21, .inl (v_rb 3)))]) hP hD [0, 1, 2, 3, 4, 5, 6, 7] [] rfl rfl (by decide) (by decide) hk1 hFc hP1 hD1
  generalize H1 = H at hP hS ⊢
  have hP : va_P (dC, dI) vwCl [(ra, .inr (2, [.ref ra1, .ref ra2, .ref ra3, .int (v_ra_8 0 0)])), (ra1, .inl (cI, ra_n * 20, .inl (v_ra_8 1))), (ra2, .inl (cI, ra_n, .inl (v_ra_8 2))), (ra3, .inl (cI, 21, .inl (v_ra_8 3))), (rb, .inr (2, [.ref rb1, .ref rb2, .ref rb3, .int (v_rb 0 0)])), (rb1, .inl (cI, rb_n * 20, .inl (v_rb 1))), (rb2, .inl (cI, rb_n, .inl (v_rb 2))), (rb3, .inl (cI, 21, .inl (v_rb 3)))] H := hP
  have hD : va_D (va_A (ww_X2_copyy dC dI cI cJ cB ra ra1 ra2 ra3 rb rb1 rb2 rb3 s.heap.size ra_n v_ra0 rb_n v_rb p0 n9 v_ra1) s.heap.size) [(ra, .inr (2, [.ref ra1, .ref ra2, .ref ra3, .int (v_ra_8 0 0)])), (ra1, .inl (cI, ra_n * 20, .inl (v_ra_8 1))), (ra2, .inl (cI, ra_n, .inl (v_ra_8 2))), (ra3, .inl (cI, 21, .inl (v_ra_8 3))), (rb, .inr (2, [.ref rb1, .ref rb2, .ref rb3, .int (v_rb 0 0)])), (rb1, .inl (cI, rb_n * 20, .inl (v_rb 1))), (rb2, .inl (cI, rb_n, .inl (v_rb 2))), (rb3, .inl (cI, 21, .inl (v_rb 3)))] := hD
  clear hPc hDc hFc hP1 hK1 hD1 hk1 hz1 ht hvm g_6
  have hP9 := hP.sub (ws' := [(ra, .inr (2, [.ref ra1, .ref ra2, .ref ra3, .int (v_ra_8 0 0)])), (ra1, .inl (cI, ra_n * 20, .inl (v_ra_8 1))), (ra2, .inl (cI, ra_n, .inl (v_ra_8 2))), (ra3, .inl (cI, 21, .inl (v_ra_8 3))), (rb, .inr (2, [.ref rb1, .ref rb2, .ref rb3, .int (v_rb 0 0)])), (rb1, .inl (cI, rb_n * 20, .inl (v_rb 1))), (rb2, .inl (cI, rb_n, .inl (v_rb 2))), (rb3, .inl (cI, 21, .inl (v_rb 3)))]) [0, 1, 2, 3, 4, 5, 6, 7] rfl
  have hD9 := hD.sub (ws' := [(ra, .inr (2, [.ref ra1, .ref ra2, .ref ra3, .int (v_ra_8 0 0)])), (ra1, .inl (cI, ra_n * 20, .inl (v_ra_8 1))), (ra2, .inl (cI, ra_n, .inl (v_ra_8 2))), (ra3, .inl (cI, 21, .inl (v_ra_8 3))), (rb, .inr (2, [.ref rb1, .ref rb2, .ref rb3, .int (v_rb 0 0)])), (rb1, .inl (cI, rb_n * 20, .inl (v_rb 1))), (rb2, .inl (cI, rb_n, .inl (v_rb 2))), (rb3, .inl (cI, 21, .inl (v_rb 3)))]) [0, 1, 2, 3, 4, 5, 6, 7] (by decide) rfl
  have r9_0 : v_ra_8 = v_ra1 := (Option.some.inj hf)
  exact W.vret hx hb hr (fun t ht hW => ⟨⟨v_ra_8, rfl, r9_0, by rw [ht]; exact hP9, va_K.moved hW.alike hK, hD9⟩, hS.F ht⟩) hS.2.2 dX2_copy_12
