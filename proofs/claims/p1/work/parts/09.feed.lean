def wo_X3_write : List Cond := .code yX3_write cX3_write 3 none :: (([.fieldLink RX3 15 "SumRewriter$Scanner" "length" "I", .fieldLink RX3 9 "SumRewriter$Scanner" "tape" "[I"] : List Cond) ++ ((wsX30)))
abbrev ww_X3_write (dC : Nat → ClassId) (dI : Nat → Nat → Nat) (cI cJ cB : ClassId) (h h1 : Nat) (sz : Nat) (h_len0 : Int32) (h_limit : Int32) (h_pos : Int32) (h_sort : Int32) (h_start : Int32) (h_val : Int32) (h_tape0 : Nat → Int32) (p0 : Int32) : va_W := [(h, .inr (3, [.ref h1, .int h_len0, .int h_limit, .int h_pos, .int h_sort, .int h_start, .int h_val])), (h1, .inl (cI, 400, .inl h_tape0))]
abbrev at_X3_write (dC : Nat → ClassId) (dI : Nat → Nat → Nat) (cI cJ cB : ClassId) (h h1 : Nat) (sz : Nat) (h_len0 : Int32) (h_limit : Int32) (h_pos : Int32) (h_sort : Int32) (h_start : Int32) (h_val : Int32) (h_tape0 : Nat → Int32) (p0 : Int32) (u : Int32 × (Nat → Int32)) (t : State) : Prop := match u with
  | (h_len, h_tape) => va_P (dC, dI) vwCl [(h, .inr (3, [.ref h1, .int h_len, .int h_limit, .int h_pos, .int h_sort, .int h_start, .int h_val])), (h1, .inl (cI, 400, .inl h_tape))] t.heap ∧ va_K (dC, dI) vwCl (tyL cI cJ cB) t ∧ va_D (va_A (ww_X3_write dC dI cI cJ cB h h1 sz h_len0 h_limit h_pos h_sort h_start h_val h_tape0 p0) sz) [(h, .inr (3, [.ref h1, .int h_len, .int h_limit, .int h_pos, .int h_sort, .int h_start, .int h_val])), (h1, .inl (cI, 400, .inl h_tape))]
abbrev qc_X3_write (dC : Nat → ClassId) (dI : Nat → Nat → Nat) (cI cJ cB : ClassId) (h h1 : Nat) (sz : Nat) (h_len0 : Int32) (h_limit : Int32) (h_pos : Int32) (h_sort : Int32) (h_start : Int32) (h_val : Int32) (h_tape0 : Nat → Int32) (p0 : Int32) : Array Value → State → Outcome → State → Prop := va_Qv (fun (u : Int32 × (Nat → Int32)) => match u with | (h_len, h_tape) => ((h_len).toInt = (h_len0).toInt + 4)) (at_X3_write dC dI cI cJ cB h h1 sz h_len0 h_limit h_pos h_sort h_start h_val h_tape0 p0) (va_A (ww_X3_write dC dI cI cJ cB h h1 sz h_len0 h_limit h_pos h_sort h_start h_val h_tape0 p0) sz)
abbrev pc_X3_write (dC : Nat → ClassId) (dI : Nat → Nat → Nat) (cI cJ cB : ClassId) (h h1 : Nat) (sz : Nat) (h_len0 : Int32) (h_limit : Int32) (h_pos : Int32) (h_sort : Int32) (h_start : Int32) (h_val : Int32) (h_tape0 : Nat → Int32) (p0 : Int32) : Array Value → State → Prop := va_Pc [.ref h, .int p0] (fun U => U.heap.size = sz ∧ NW U ∧ va_P (dC, dI) vwCl (ww_X3_write dC dI cI cJ cB h h1 sz h_len0 h_limit h_pos h_sort h_start h_val h_tape0 p0) U.heap ∧ va_K (dC, dI) vwCl (tyL cI cJ cB) U ∧ va_D (fun _ => True) (ww_X3_write dC dI cI cJ cB h h1 sz h_len0 h_limit h_pos h_sort h_start h_val h_tape0 p0))
abbrev rm_X3_write : Room := { frames := 0, cells := 0, slots := 0, locals := 0 }
abbrev WW_X3_write (p : Program) (l : Launch) (e : Env) (s : State) (m : MethodId) (below : List Frame) (meth : Method) (c : Code) (dC : Nat → ClassId) (dI : Nat → Nat → Nat) (cI cJ cB : ClassId) (h h1 : Nat) (sz : Nat) (h_len0 : Int32) (h_limit : Int32) (h_pos : Int32) (h_sort : Int32) (h_start : Int32) (h_val : Int32) (h_tape0 : Nat → Int32) (p0 : Int32) (H : Heap) (locs : List Loc) (g : JFrame) : Prop := W p l e rm_X3_write s m ([.ref h, .int p0] : List Value).toArray below meth c H locs 0 0 (MQ below (qc_X3_write dC dI cI cJ cB h h1 sz h_len0 h_limit h_pos h_sort h_start h_val h_tape0 p0) ([.ref h, .int p0] : List Value).toArray s 0 0 (va_A (ww_X3_write dC dI cI cJ cB h h1 sz h_len0 h_limit h_pos h_sort h_start h_val h_tape0 p0) sz)) g
set_option maxHeartbeats 4000000 in
set_option maxRecDepth 100000 in
theorem c_X3_write (l : Launch) (dC : Nat → ClassId) (dI : Nat → Nat → Nat) (cI cJ cB : ClassId) (h h1 : Nat) (sz : Nat) (h_len0 : Int32) (h_limit : Int32) (h_pos : Int32) (h_sort : Int32) (h_start : Int32) (h_val : Int32) (h_tape0 : Nat → Int32) (p0 : Int32) (hpre : 0 ≤ (h_len0).toInt ∧ (h_len0).toInt ≤ 396) : Met l yX3_write wo_X3_write rm_X3_write (pc_X3_write dC dI cI cJ cB h h1 sz h_len0 h_limit h_pos h_sort h_start h_val h_tape0 p0) (qc_X3_write dC dI cI cJ cB h h1 sz h_len0 h_limit h_pos h_sort h_start h_val h_tape0 p0) 0 0 (va_A (ww_X3_write dC dI cI cJ cB h h1 sz h_len0 h_limit h_pos h_sort h_start h_val h_tape0 p0) sz) := by
  refine Met.ofW (cc := cX3_write) (maxL := 3) (ret := none) (by decide) rfl ?_
  intro p e s m args below meth c s₁ B hml hv
  obtain ⟨rfl, hsz, hnw, hP, hK, hD0⟩ := hv
  have hx := B.exec
  have hb := B.bytes
  have hr := B.returns
  have hts := atoms_spec (ws := wo_X3_write) B.pre
  have hown : s.vm.findClass RX3 = some m.cls := findClass_of_methodNamed B.named
  have hlocks := B.notSynchronized
  clear B
  subst hsz
  have hD := hD0.self (sz := s.heap.size)
  clear hD0
  have kk0_ := hts (.fieldLink RX3 15 "SumRewriter$Scanner" "length" "I") (by decide +kernel)
  have kk1_ : ∀ w ∈ wsX30, w ∈ wo_X3_write := fun _ h => (List.mem_cons_of_mem _ (List.mem_append_right _ h))
  have kk2_ := hts (.fieldLink RX3 9 "SumRewriter$Scanner" "tape" "[I") (by decide +kernel)
  have hA : ∀ q : Nat, s.heap.size ≤ q → (va_A (ww_X3_write dC dI cI cJ cB h h1 s.heap.size h_len0 h_limit h_pos h_sort h_start h_val h_tape0 p0) s.heap.size) q := fun q h => Or.inr h
  have hS : va_S (va_A (ww_X3_write dC dI cI cJ cB h h1 s.heap.size h_len0 h_limit h_pos h_sort h_start h_val h_tape0 p0) s.heap.size) s.heap s.heap [] := va_S.rf
  have hl := lv_entry ([.ref h, .int p0]) (n := 3) (Nat.le_of_ble_eq_true rfl)
  rw [lg_entry_eq]
  generalize (lg_sl ([.ref h, .int p0]) ++ List.replicate (3 - (lg_sl ([.ref h, .int p0])).length) Slot.unset).toArray = ls at hl ⊢
  have hl : lv_has ls 3 [(0, .ref h), (1, .int p0)] := hl
  have hP : va_P (dC, dI) vwCl [(h, .inr (3, [.ref h1, .int h_len0, .int h_limit, .int h_pos, .int h_sort, .int h_start, .int h_val])), (h1, .inl (cI, 400, .inl h_tape0))] s.heap := hP
  have hD : va_D (va_A (ww_X3_write dC dI cI cJ cB h h1 s.heap.size h_len0 h_limit h_pos h_sort h_start h_val h_tape0 p0) s.heap.size) [(h, .inr (3, [.ref h1, .int h_len0, .int h_limit, .int h_pos, .int h_sort, .int h_start, .int h_val])), (h1, .inl (cI, 400, .inl h_tape0))] := hD
  obtain ⟨H, hH⟩ : ∃ H, H = s.heap := ⟨_, rfl⟩
  obtain ⟨locs, hlc⟩ : ∃ L : List Loc, L = [] := ⟨_, rfl⟩
  have hS : va_S (va_A (ww_X3_write dC dI cI cJ cB h h1 s.heap.size h_len0 h_limit h_pos h_sort h_start h_val h_tape0 p0) s.heap.size) s.heap H locs := by rw [hH, hlc]; exact hS
  have hP : va_P (dC, dI) vwCl [(h, .inr (3, [.ref h1, .int h_len0, .int h_limit, .int h_pos, .int h_sort, .int h_start, .int h_val])), (h1, .inl (cI, 400, .inl h_tape0))] H := by rw [hH]; exact hP
  suffices hgo : WW_X3_write p l e s m below meth c dC dI cI cJ cB h h1 s.heap.size h_len0 h_limit h_pos h_sort h_start h_val h_tape0 p0 H locs (F0 m 0 ls []) by rw [hH, hlc] at hgo; exact hgo
  clear hH hlc
  have L_3 : ∀ (N_3 : Nat), ∀ (x2 : Int32) (h_len : Int32) (h_tape : Nat → Int32), (8 * ((h_len).toInt - h_len0.toInt) = 24 - (x2 : Int32).toInt ∧ -8 ≤ (x2 : Int32).toInt ∧ (x2 : Int32).toInt ≤ 24) → (((x2 : Int32).toInt + 8).toNat) < N_3 → ∀ (H : Heap) (locs : List Loc), va_P (dC, dI) vwCl [(h, .inr (3, [.ref h1, .int h_len, .int h_limit, .int h_pos, .int h_sort, .int h_start, .int h_val])), (h1, .inl (cI, 400, .inl h_tape))] H → va_D (va_A (ww_X3_write dC dI cI cJ cB h h1 s.heap.size h_len0 h_limit h_pos h_sort h_start h_val h_tape0 p0) s.heap.size) [(h, .inr (3, [.ref h1, .int h_len, .int h_limit, .int h_pos, .int h_sort, .int h_start, .int h_val])), (h1, .inl (cI, 400, .inl h_tape))] → va_S (va_A (ww_X3_write dC dI cI cJ cB h h1 s.heap.size h_len0 h_limit h_pos h_sort h_start h_val h_tape0 p0) s.heap.size) s.heap H locs → ∀ ls : Array Slot, lv_has ls 3 [(0, .ref h), (1, .int p0), (2, .int x2)] → WW_X3_write p l e s m below meth c dC dI cI cJ cB h h1 s.heap.size h_len0 h_limit h_pos h_sort h_start h_val h_tape0 p0 H locs (F0 m 3 ls []) := by
    intro N_3
    induction N_3 with
    | zero => intro x2 h_len h_tape i3_0 hm; exact absurd hm (Nat.not_lt_zero _)
    | succ N_3 ih_3 =>
      intro x2 h_len h_tape i3_0 hm_3 H locs hP hD hS ls hl
      have J_52 : ∀ (x2 : Int32) (h_len : Int32) (h_tape : Nat → Int32), (8 * ((h_len).toInt - h_len0.toInt) = 32 - x2.toInt ∧ 0 ≤ x2.toInt ∧ x2.toInt ≤ 24) → ((((x2 : Int32).toInt + 8).toNat) < N_3 + 1) → ∀ (H : Heap) (locs : List Loc), va_P (dC, dI) vwCl [(h, .inr (3, [.ref h1, .int h_len, .int h_limit, .int h_pos, .int h_sort, .int h_start, .int h_val])), (h1, .inl (cI, 400, .inl h_tape))] H → va_D (va_A (ww_X3_write dC dI cI cJ cB h h1 s.heap.size h_len0 h_limit h_pos h_sort h_start h_val h_tape0 p0) s.heap.size) [(h, .inr (3, [.ref h1, .int h_len, .int h_limit, .int h_pos, .int h_sort, .int h_start, .int h_val])), (h1, .inl (cI, 400, .inl h_tape))] → va_S (va_A (ww_X3_write dC dI cI cJ cB h h1 s.heap.size h_len0 h_limit h_pos h_sort h_start h_val h_tape0 p0) s.heap.size) s.heap H locs → ∀ ls : Array Slot, lv_has ls 3 [(0, .ref h), (1, .int p0), (2, .int x2)] → WW_X3_write p l e s m below meth c dC dI cI cJ cB h h1 s.heap.size h_len0 h_limit h_pos h_sort h_start h_val h_tape0 p0 H locs (F0 m 52 ls []) := by
        intro x2 h_len h_tape i52_0 i52_1 H locs hP hD hS ls hl
        obtain ⟨x2_1, ex2_1⟩ : ∃ y : Int32, y = x2 + (-8) := ⟨_, rfl⟩
        refine lv_iinc (v := x2_1) (lv' := [(2, .int x2_1), (0, .ref h), (1, .int p0)]) hx hb dX3_write_52 hl (k := 2) rfl (by rw [ex2_1]; rfl) (by decide) rfl (fun ls hl => ?_)
        have := ti_rng x2
        have tex2_1 : x2_1.toInt = x2.toInt + (-8) := ti_inc ex2_1 (by decide) (by omega) (by omega)
        refine lv_goto (tgt := 3) hx hb dX3_write_55 (by decide) ?_
        exact ih_3 x2_1 h_len h_tape (by first | omega | (have : (24 : Int32).toInt = 24 := rfl; (try simp only [this]); omega)) (by omega) _ _ (hP.sub [0, 1] rfl) (hD.sub [0, 1] (by decide) rfl) hS ls (lv_sub hl [1, 2, 0] rfl)
      refine lv_iload_n hx hb dX3_write_3 rfl (lv_at hl 2 rfl) ?_
      refine lv_if_lt (tgt := 58) hx hb dX3_write_4 (by decide) (fun c_2 => ?_) (fun c_2 => ?_)
      · have tc_2 : x2.toInt < 0 := tb_lt_t c_2
        have hP9 := hP.sub (ws' := [(h, .inr (3, [.ref h1, .int h_len, .int h_limit, .int h_pos, .int h_sort, .int h_start, .int h_val])), (h1, .inl (cI, 400, .inl h_tape))]) [0, 1] rfl
        have hD9 := hD.sub (ws' := [(h, .inr (3, [.ref h1, .int h_len, .int h_limit, .int h_pos, .int h_sort, .int h_start, .int h_val])), (h1, .inl (cI, 400, .inl h_tape))]) [0, 1] (by decide) rfl
        have r9_0 : (h_len).toInt = (h_len0).toInt + 4 := by first | assumption | omega | decide | (simp only [lt0, lt1, ltm1, lt400] at *; omega)
        exact W.vret hx hb hr (fun t ht hW => ⟨⟨(h_len, h_tape), rfl, r9_0, by rw [ht]; exact hP9, va_K.moved hW.alike hK, hD9⟩, hS.F ht⟩) hS.2.2 dX3_write_58
      · have tc_2 : 0 ≤ x2.toInt := tb_lt_f c_2
        refine lv_aload_n hx hb dX3_write_7 rfl (lv_at hl 0 rfl) ?_
        refine va_get (D := (dC, dI)) (ci := 3) (v := .int h_len) (C := RX3) (T := TX3) (N := 7) hx hb hts kk1_ hown hK hP 0 rfl rfl 1 (by decide) kk0_ (fun _ h9 => h9) rfl dX3_write_8 ?_
        refine lv_if_lt (tgt := 52) hx hb dX3_write_11 (by decide) (fun c_3 => ?_) (fun c_3 => ?_)
        · have tc_3 : h_len.toInt < 0 := tb_lt_t c_3
          exact J_52 x2 h_len h_tape (by first | assumption | omega | decide | (simp only [lt0, lt1, ltm1, lt400] at *; omega)) (by first | assumption | omega | decide | (simp only [lt0, lt1, ltm1, lt400] at *; omega)) _ _ (hP.sub [0, 1] rfl) (hD.sub [0, 1] (by decide) rfl) hS ls (lv_sub hl [0, 1, 2] rfl)
        · have tc_3 : 0 ≤ h_len.toInt := tb_lt_f c_3
          refine lv_aload_n hx hb dX3_write_14 rfl (lv_at hl 0 rfl) ?_
          refine va_get (D := (dC, dI)) (ci := 3) (v := .int h_len) (C := RX3) (T := TX3) (N := 7) hx hb hts kk1_ hown hK hP 0 rfl rfl 1 (by decide) kk0_ (fun _ h9 => h9) rfl dX3_write_15 ?_
          refine lv_aload_n hx hb dX3_write_18 rfl (lv_at hl 0 rfl) ?_
          refine va_get (D := (dC, dI)) (ci := 3) (v := .ref h1) (C := RX3) (T := TX3) (N := 7) hx hb hts kk1_ hown hK hP 0 rfl rfl 0 (by decide) kk2_ (fun _ h9 => h9) rfl dX3_write_19 ?_
          refine va_alen (v := 400) hx hb hK hP 1 0 rfl rfl rfl dX3_write_22 ?_
          refine lv_icmp_ge (tgt := 52) hx hb dX3_write_23 (by decide) (fun c_4 => ?_) (fun c_4 => ?_)
          · have tc_4 : 400 ≤ h_len.toInt := tb_ge_t c_4
            exact J_52 x2 h_len h_tape (by first | assumption | omega | decide | (simp only [lt0, lt1, ltm1, lt400] at *; omega)) (by first | assumption | omega | decide | (simp only [lt0, lt1, ltm1, lt400] at *; omega)) _ _ (hP.sub [0, 1] rfl) (hD.sub [0, 1] (by decide) rfl) hS ls (lv_sub hl [0, 1, 2] rfl)
          · have tc_4 : h_len.toInt < 400 := tb_ge_f c_4
            refine lv_aload_n hx hb dX3_write_26 rfl (lv_at hl 0 rfl) ?_
            refine va_get (D := (dC, dI)) (ci := 3) (v := .ref h1) (C := RX3) (T := TX3) (N := 7) hx hb hts kk1_ hown hK hP 0 rfl rfl 0 (by decide) kk2_ (fun _ h9 => h9) rfl dX3_write_27 ?_
            refine lv_aload_n hx hb dX3_write_30 rfl (lv_at hl 0 rfl) ?_
            refine va_get (D := (dC, dI)) (ci := 3) (v := .int h_len) (C := RX3) (T := TX3) (N := 7) hx hb hts kk1_ hown hK hP 0 rfl rfl 1 (by decide) kk0_ (fun _ h9 => h9) rfl dX3_write_31 ?_
            refine lv_iload_n hx hb dX3_write_34 rfl (lv_at hl 1 rfl) ?_
            refine lv_iload_n hx hb dX3_write_35 rfl (lv_at hl 2 rfl) ?_
            refine lv_iushr hx hb dX3_write_36 rfl ?_
            refine lv_topi (fun y_5 ey_5 => ?_)
            refine lv_sipush (v := 255) hx hb dX3_write_37 (by decide) ?_
            refine lv_iand hx hb dX3_write_40 ?_
            refine lv_topi (fun y_6 ey_6 => ?_)
            have tey_6 := ti_mask (n := 255) ey_6 (by decide)
            refine va_iast hx hb hK hP hD hS 1 0 rfl rfl (vp_in_iff.mpr ⟨by omega, by omega⟩) dX3_write_41 (fun H locs hP hD hS => ?_)
            have hP : va_P (dC, dI) vwCl [(h, .inr (3, [.ref h1, .int h_len, .int h_limit, .int h_pos, .int h_sort, .int h_start, .int h_val])), (h1, .inl (cI, 400, .inl (upd h_tape (h_len).toNatClampNeg y_6)))] H := hP
            have hD : va_D (va_A (ww_X3_write dC dI cI cJ cB h h1 s.heap.size h_len0 h_limit h_pos h_sort h_start h_val h_tape0 p0) s.heap.size) [(h, .inr (3, [.ref h1, .int h_len, .int h_limit, .int h_pos, .int h_sort, .int h_start, .int h_val])), (h1, .inl (cI, 400, .inl (upd h_tape (h_len).toNatClampNeg y_6)))] := hD
            obtain ⟨f_7, ef_7⟩ : ∃ z, z = upd h_tape (h_len).toNatClampNeg y_6 := ⟨_, rfl⟩
            rw [← ef_7] at hP hD
            refine lv_aload_n hx hb dX3_write_42 rfl (lv_at hl 0 rfl) ?_
            refine lv_dup hx hb dX3_write_43 rfl ?_
            refine va_get (D := (dC, dI)) (ci := 3) (v := .int h_len) (C := RX3) (T := TX3) (N := 7) hx hb hts kk1_ hown hK hP 0 rfl rfl 1 (by decide) kk0_ (fun _ h9 => h9) rfl dX3_write_44 ?_
            refine lv_iconst (v := 1) hx hb dX3_write_47 (by decide) ?_
            refine lv_iadd hx hb dX3_write_48 ?_
            refine lv_topi (fun y_8 ey_8 => ?_)
            have tey_8 : y_8.toInt = h_len.toInt + 1 := ti_add2 ey_8 rfl (by decide) (by omega) (by omega)
            refine va_put (D := (dC, dI)) (ci := 3) (v := .int y_8) (ty := .int) (C := RX3) (T := TX3) (N := 7) hx hb hts kk1_ tyX3 tyX3_ok nmX3 hown hK hP hD hS 0 rfl rfl 1 (by decide) kk0_ (fun _ h9 => h9) rfl (by decide +kernel) rfl rfl (Nat.le_of_ble_eq_true rfl) dX3_write_49 (fun H locs hP hD hS => ?_)
            have hP : va_P (dC, dI) vwCl [(h, .inr (3, [.ref h1, .int y_8, .int h_limit, .int h_pos, .int h_sort, .int h_start, .int h_val])), (h1, .inl (cI, 400, .inl f_7))] H := hP
            have hD : va_D (va_A (ww_X3_write dC dI cI cJ cB h h1 s.heap.size h_len0 h_limit h_pos h_sort h_start h_val h_tape0 p0) s.heap.size) [(h, .inr (3, [.ref h1, .int y_8, .int h_limit, .int h_pos, .int h_sort, .int h_start, .int h_val])), (h1, .inl (cI, 400, .inl f_7))] := hD
            exact J_52 x2 y_8 f_7 (by first | assumption | omega | decide | (simp only [lt0, lt1, ltm1, lt400] at *; omega)) (by first | assumption | omega | decide | (simp only [lt0, lt1, ltm1, lt400] at *; omega)) _ _ (hP.sub [0, 1] rfl) (hD.sub [0, 1] (by decide) rfl) hS ls (lv_sub hl [0, 1, 2] rfl)
  refine lv_bipush (v := 24) hx hb dX3_write_0 (by decide) ?_
  refine lv_istore_n (lv' := [(2, .int ((24 : Int32))), (0, .ref h), (1, .int p0)]) hx hb dX3_write_2 rfl hl (by decide) rfl (fun ls hl => ?_)
  exact L_3 (((((24 : Int32) : Int32).toInt + 8).toNat) + 1) ((24 : Int32)) h_len0 h_tape0 (by first | omega | (have : (24 : Int32).toInt = 24 := rfl; (try simp only [this]); omega)) (Nat.lt_succ_self _) _ _ (hP.sub [0, 1] rfl) (hD.sub [0, 1] (by decide) rfl) hS ls (lv_sub hl [1, 2, 0] rfl)
def wo_X3_append : List Cond := .code yX3_append cX3_append 6 (some .int) :: (([.fieldLink RX3 15 "SumRewriter$Scanner" "length" "I"] : List Cond) ++ ((wsX30) ++ ((wsV RX3 19 RX3 yX3_write wo_X3_write))))
set_option maxRecDepth 20000 in
theorem go_wo_X3_append_1 : GoodIn wo_X3_append (wsV RX3 19 RX3 yX3_write wo_X3_write) := goodIn_sub (fun _ h => (List.mem_cons_of_mem _ (List.mem_append_right _ (List.mem_append_right _ h)))) (by decide +kernel)
abbrev ww_X3_append (dC : Nat → ClassId) (dI : Nat → Nat → Nat) (cI cJ cB : ClassId) (h h1 : Nat) (sz : Nat) (h_len0 : Int32) (h_limit : Int32) (h_pos : Int32) (h_sort : Int32) (h_start : Int32) (h_val : Int32) (h_tape0 : Nat → Int32) (p0 : Int32) (p1 : Int32) (p2 : Int32) (p3 : Int32) (p4 : Int32) : va_W := [(h, .inr (3, [.ref h1, .int h_len0, .int h_limit, .int h_pos, .int h_sort, .int h_start, .int h_val])), (h1, .inl (cI, 400, .inl h_tape0))]
abbrev at_X3_append (dC : Nat → ClassId) (dI : Nat → Nat → Nat) (cI cJ cB : ClassId) (h h1 : Nat) (sz : Nat) (h_len0 : Int32) (h_limit : Int32) (h_pos : Int32) (h_sort : Int32) (h_start : Int32) (h_val : Int32) (h_tape0 : Nat → Int32) (p0 : Int32) (p1 : Int32) (p2 : Int32) (p3 : Int32) (p4 : Int32) (u : Int32 × (Nat → Int32)) (t : State) : Prop := match u with
  | (h_len, h_tape) => va_P (dC, dI) vwCl [(h, .inr (3, [.ref h1, .int h_len, .int h_limit, .int h_pos, .int h_sort, .int h_start, .int h_val])), (h1, .inl (cI, 400, .inl h_tape))] t.heap ∧ va_K (dC, dI) vwCl (tyL cI cJ cB) t ∧ va_D (va_A (ww_X3_append dC dI cI cJ cB h h1 sz h_len0 h_limit h_pos h_sort h_start h_val h_tape0 p0 p1 p2 p3 p4) sz) [(h, .inr (3, [.ref h1, .int h_len, .int h_limit, .int h_pos, .int h_sort, .int h_start, .int h_val])), (h1, .inl (cI, 400, .inl h_tape))]
abbrev qc_X3_append (dC : Nat → ClassId) (dI : Nat → Nat → Nat) (cI cJ cB : ClassId) (h h1 : Nat) (sz : Nat) (h_len0 : Int32) (h_limit : Int32) (h_pos : Int32) (h_sort : Int32) (h_start : Int32) (h_val : Int32) (h_tape0 : Nat → Int32) (p0 : Int32) (p1 : Int32) (p2 : Int32) (p3 : Int32) (p4 : Int32) : Array Value → State → Outcome → State → Prop := va_Qi (fun (r : Int32) (u : Int32 × (Nat → Int32)) => match u with | (h_len, h_tape) => ((380 < (h_len0).toInt → r = -1 ∧ h_len = h_len0) ∧ ((h_len0).toInt ≤ 380 → r = h_len ∧ (h_len).toInt = (h_len0).toInt + 20))) (at_X3_append dC dI cI cJ cB h h1 sz h_len0 h_limit h_pos h_sort h_start h_val h_tape0 p0 p1 p2 p3 p4) (va_A (ww_X3_append dC dI cI cJ cB h h1 sz h_len0 h_limit h_pos h_sort h_start h_val h_tape0 p0 p1 p2 p3 p4) sz)
abbrev pc_X3_append (dC : Nat → ClassId) (dI : Nat → Nat → Nat) (cI cJ cB : ClassId) (h h1 : Nat) (sz : Nat) (h_len0 : Int32) (h_limit : Int32) (h_pos : Int32) (h_sort : Int32) (h_start : Int32) (h_val : Int32) (h_tape0 : Nat → Int32) (p0 : Int32) (p1 : Int32) (p2 : Int32) (p3 : Int32) (p4 : Int32) : Array Value → State → Prop := va_Pc [.ref h, .int p0, .int p1, .int p2, .int p3, .int p4] (fun U => U.heap.size = sz ∧ NW U ∧ va_P (dC, dI) vwCl (ww_X3_append dC dI cI cJ cB h h1 sz h_len0 h_limit h_pos h_sort h_start h_val h_tape0 p0 p1 p2 p3 p4) U.heap ∧ va_K (dC, dI) vwCl (tyL cI cJ cB) U ∧ va_D (fun _ => True) (ww_X3_append dC dI cI cJ cB h h1 sz h_len0 h_limit h_pos h_sort h_start h_val h_tape0 p0 p1 p2 p3 p4))
abbrev rm_X3_append : Room := { frames := 1, cells := 0, slots := 0, locals := 22 }
abbrev WW_X3_append (p : Program) (l : Launch) (e : Env) (s : State) (m : MethodId) (below : List Frame) (meth : Method) (c : Code) (dC : Nat → ClassId) (dI : Nat → Nat → Nat) (cI cJ cB : ClassId) (h h1 : Nat) (sz : Nat) (h_len0 : Int32) (h_limit : Int32) (h_pos : Int32) (h_sort : Int32) (h_start : Int32) (h_val : Int32) (h_tape0 : Nat → Int32) (p0 : Int32) (p1 : Int32) (p2 : Int32) (p3 : Int32) (p4 : Int32) (H : Heap) (locs : List Loc) (g : JFrame) : Prop := W p l e rm_X3_append s m ([.ref h, .int p0, .int p1, .int p2, .int p3, .int p4] : List Value).toArray below meth c H locs 0 0 (MQ below (qc_X3_append dC dI cI cJ cB h h1 sz h_len0 h_limit h_pos h_sort h_start h_val h_tape0 p0 p1 p2 p3 p4) ([.ref h, .int p0, .int p1, .int p2, .int p3, .int p4] : List Value).toArray s 0 0 (va_A (ww_X3_append dC dI cI cJ cB h h1 sz h_len0 h_limit h_pos h_sort h_start h_val h_tape0 p0 p1 p2 p3 p4) sz)) g
set_option maxHeartbeats 4000000 in
set_option maxRecDepth 100000 in
theorem c_X3_append (l : Launch) (dC : Nat → ClassId) (dI : Nat → Nat → Nat) (cI cJ cB : ClassId) (h h1 : Nat) (sz : Nat) (h_len0 : Int32) (h_limit : Int32) (h_pos : Int32) (h_sort : Int32) (h_start : Int32) (h_val : Int32) (h_tape0 : Nat → Int32) (p0 : Int32) (p1 : Int32) (p2 : Int32) (p3 : Int32) (p4 : Int32) (hpre : 0 ≤ (h_len0).toInt ∧ (h_len0).toInt ≤ 400) : Met l yX3_append wo_X3_append rm_X3_append (pc_X3_append dC dI cI cJ cB h h1 sz h_len0 h_limit h_pos h_sort h_start h_val h_tape0 p0 p1 p2 p3 p4) (qc_X3_append dC dI cI cJ cB h h1 sz h_len0 h_limit h_pos h_sort h_start h_val h_tape0 p0 p1 p2 p3 p4) 0 0 (va_A (ww_X3_append dC dI cI cJ cB h h1 sz h_len0 h_limit h_pos h_sort h_start h_val h_tape0 p0 p1 p2 p3 p4) sz) := by
  refine Met.ofW (cc := cX3_append) (maxL := 6) (ret := (some .int)) (by decide) rfl ?_
  intro p e s m args below meth c s₁ B hml hv
  obtain ⟨rfl, hsz, hnw, hP, hK, hD0⟩ := hv
  have hx := B.exec
  have hb := B.bytes
  have hr := B.returns
  have hts := atoms_spec (ws := wo_X3_append) B.pre
  have hown : s.vm.findClass RX3 = some m.cls := findClass_of_methodNamed B.named
  have hlocks := B.notSynchronized
  clear B
  subst hsz
  have hD := hD0.self (sz := s.heap.size)
  clear hD0
  have kk0_ := hts (.fieldLink RX3 15 "SumRewriter$Scanner" "length" "I") (by decide +kernel)
  have kk1_ : ∀ w ∈ wsX30, w ∈ wo_X3_append := fun _ h => (List.mem_cons_of_mem _ (List.mem_append_right _ (List.mem_append_left _ h)))
  have hA : ∀ q : Nat, s.heap.size ≤ q → (va_A (ww_X3_append dC dI cI cJ cB h h1 s.heap.size h_len0 h_limit h_pos h_sort h_start h_val h_tape0 p0 p1 p2 p3 p4) s.heap.size) q := fun q h => Or.inr h
  have hS : va_S (va_A (ww_X3_append dC dI cI cJ cB h h1 s.heap.size h_len0 h_limit h_pos h_sort h_start h_val h_tape0 p0 p1 p2 p3 p4) s.heap.size) s.heap s.heap [] := va_S.rf
  have hl := lv_entry ([.ref h, .int p0, .int p1, .int p2, .int p3, .int p4]) (n := 6) (Nat.le_of_ble_eq_true rfl)
  rw [lg_entry_eq]
  generalize (lg_sl ([.ref h, .int p0, .int p1, .int p2, .int p3, .int p4]) ++ List.replicate (6 - (lg_sl ([.ref h, .int p0, .int p1, .int p2, .int p3, .int p4])).length) Slot.unset).toArray = ls at hl ⊢
  have hl : lv_has ls 6 [(0, .ref h), (1, .int p0), (2, .int p1), (3, .int p2), (4, .int p3), (5, .int p4)] := hl
  have hP : va_P (dC, dI) vwCl [(h, .inr (3, [.ref h1, .int h_len0, .int h_limit, .int h_pos, .int h_sort, .int h_start, .int h_val])), (h1, .inl (cI, 400, .inl h_tape0))] s.heap := hP
  have hD : va_D (va_A (ww_X3_append dC dI cI cJ cB h h1 s.heap.size h_len0 h_limit h_pos h_sort h_start h_val h_tape0 p0 p1 p2 p3 p4) s.heap.size) [(h, .inr (3, [.ref h1, .int h_len0, .int h_limit, .int h_pos, .int h_sort, .int h_start, .int h_val])), (h1, .inl (cI, 400, .inl h_tape0))] := hD
  obtain ⟨H, hH⟩ : ∃ H, H = s.heap := ⟨_, rfl⟩
  obtain ⟨locs, hlc⟩ : ∃ L : List Loc, L = [] := ⟨_, rfl⟩
  have hS : va_S (va_A (ww_X3_append dC dI cI cJ cB h h1 s.heap.size h_len0 h_limit h_pos h_sort h_start h_val h_tape0 p0 p1 p2 p3 p4) s.heap.size) s.heap H locs := by rw [hH, hlc]; exact hS
  have hP : va_P (dC, dI) vwCl [(h, .inr (3, [.ref h1, .int h_len0, .int h_limit, .int h_pos, .int h_sort, .int h_start, .int h_val])), (h1, .inl (cI, 400, .inl h_tape0))] H := by rw [hH]; exact hP
  suffices hgo : WW_X3_append p l e s m below meth c dC dI cI cJ cB h h1 s.heap.size h_len0 h_limit h_pos h_sort h_start h_val h_tape0 p0 p1 p2 p3 p4 H locs (F0 m 0 ls []) by rw [hH, hlc] at hgo; exact hgo
  clear hH hlc
  refine lv_aload_n hx hb dX3_append_0 rfl (lv_at hl 0 rfl) ?_
  refine va_get (D := (dC, dI)) (ci := 3) (v := .int h_len0) (C := RX3) (T := TX3) (N := 7) hx hb hts kk1_ hown hK hP 0 rfl rfl 1 (by decide) kk0_ (fun _ h9 => h9) rfl dX3_append_1 ?_
  refine lv_sipush (v := 380) hx hb dX3_append_4 (by decide) ?_
  refine lv_icmp_le (tgt := 12) hx hb dX3_append_7 (by decide) (fun c_1 => ?_) (fun c_1 => ?_)
  · have tc_1 : h_len0.toInt ≤ 380 := tb_le_t c_1
    refine lv_aload_n hx hb dX3_append_12 rfl (lv_at hl 0 rfl) ?_
    refine lv_iload_n hx hb dX3_append_13 rfl (lv_at hl 1 rfl) ?_
    have hPc := hP.sub (ws' := [(h, .inr (3, [.ref h1, .int h_len0, .int h_limit, .int h_pos, .int h_sort, .int h_start, .int h_val])), (h1, .inl (cI, 400, .inl h_tape0))]) [0, 1] rfl
    have hDc := hD.sub (ws' := [(h, .inr (3, [.ref h1, .int h_len0, .int h_limit, .int h_pos, .int h_sort, .int h_start, .int h_val])), (h1, .inl (cI, 400, .inl h_tape0))]) [0, 1] (by decide) rfl
    have hFc := va_free (wc := [(h, .inr (3, [.ref h1, .int h_len0, .int h_limit, .int h_pos, .int h_sort, .int h_start, .int h_val])), (h1, .inl (cI, 400, .inl h_tape0))]) hD hS hA [0, 1] rfl
    refine va_callv (va_runV (As := [.int p0]) (rest := []) ⟨hx, hb, hml, hown, hts⟩ (c_X3_write l dC dI cI cJ cB h h1 H.size h_len0 h_limit h_pos h_sort h_start h_val h_tape0 p0 (by first | assumption | omega | decide | (simp only [lt0, lt1, ltm1, lt400] at *; omega))) (cwV 1 hts go_wo_X3_append_1 rfl rfl rfl (by decide +kernel) ⟨Nat.le_of_ble_eq_true rfl, Nat.le_of_ble_eq_true rfl⟩) ⟨fun a U g mk q => by obtain ⟨q0, q1, qN, qP, qK, qD⟩ := q; exact ⟨q0, q1, NW.calling qN, qP, va_K.moved (u := U) (U := U.calling g mk a) (Vm.Alike.refl U.vm) qK, qD⟩, va_recv hK hPc (ci := 3) (q0 := 0) rfl rfl, fun U hU hW => ⟨rfl, by rw [hU], NW.warm hW hnw, by rw [hU]; exact hPc, va_K.moved hW.alike hK, hDc.weaken (fun _ _ _ _ => trivial)⟩⟩ rfl rfl hl.1 rfl (lv_room (Nat.le_of_ble_eq_true rfl)) dX3_append_14 ⟨Nat.zero_le _, Nat.zero_le _⟩) hS (fun q _ h => hFc q h) hFc (fun u t H1 locs ht hvm hw hB hz1 hk1 hS => ?_)
    obtain ⟨h_len_3, h_tape_4⟩ := u
    obtain ⟨hP1, hK1, hD1⟩ := hB
    rw [ht] at hP1
    have hw : ((h_len_3).toInt = (h_len0).toInt + 4) := hw
    have h_5 := hw
    obtain ⟨hP, hD⟩ := va_join (wr := []) (w1 := [(h, .inr (3, [.ref h1, .int h_len_3, .int h_limit, .int h_pos, .int h_sort, .int h_start, .int h_val])), (h1, .inl (cI, 400, .inl h_tape_4))]) hP hD [0, 1] [] rfl rfl (by decide) (by decide) hk1 hFc hP1 hD1
    generalize H1 = H at hP hS ⊢
    have hP : va_P (dC, dI) vwCl [(h, .inr (3, [.ref h1, .int h_len_3, .int h_limit, .int h_pos, .int h_sort, .int h_start, .int h_val])), (h1, .inl (cI, 400, .inl h_tape_4))] H := hP
    have hD : va_D (va_A (ww_X3_append dC dI cI cJ cB h h1 s.heap.size h_len0 h_limit h_pos h_sort h_start h_val h_tape0 p0 p1 p2 p3 p4) s.heap.size) [(h, .inr (3, [.ref h1, .int h_len_3, .int h_limit, .int h_pos, .int h_sort, .int h_start, .int h_val])), (h1, .inl (cI, 400, .inl h_tape_4))] := hD
    clear hPc hDc hFc hP1 hK1 hD1 hk1 hz1 ht hvm
    refine lv_aload_n hx hb dX3_append_17 rfl (lv_at hl 0 rfl) ?_
    refine lv_iload_n hx hb dX3_append_18 rfl (lv_at hl 2 rfl) ?_
    have hPc := hP.sub (ws' := [(h, .inr (3, [.ref h1, .int h_len_3, .int h_limit, .int h_pos, .int h_sort, .int h_start, .int h_val])), (h1, .inl (cI, 400, .inl h_tape_4))]) [0, 1] rfl
    have hDc := hD.sub (ws' := [(h, .inr (3, [.ref h1, .int h_len_3, .int h_limit, .int h_pos, .int h_sort, .int h_start, .int h_val])), (h1, .inl (cI, 400, .inl h_tape_4))]) [0, 1] (by decide) rfl
    have hFc := va_free (wc := [(h, .inr (3, [.ref h1, .int h_len_3, .int h_limit, .int h_pos, .int h_sort, .int h_start, .int h_val])), (h1, .inl (cI, 400, .inl h_tape_4))]) hD hS hA [0, 1] rfl
    refine va_callv (va_runV (As := [.int p1]) (rest := []) ⟨hx, hb, hml, hown, hts⟩ (c_X3_write l dC dI cI cJ cB h h1 H.size h_len_3 h_limit h_pos h_sort h_start h_val h_tape_4 p1 (by first | assumption | omega | decide | (simp only [lt0, lt1, ltm1, lt400] at *; omega))) (cwV 1 hts go_wo_X3_append_1 rfl rfl rfl (by decide +kernel) ⟨Nat.le_of_ble_eq_true rfl, Nat.le_of_ble_eq_true rfl⟩) ⟨fun a U g mk q => by obtain ⟨q0, q1, qN, qP, qK, qD⟩ := q; exact ⟨q0, q1, NW.calling qN, qP, va_K.moved (u := U) (U := U.calling g mk a) (Vm.Alike.refl U.vm) qK, qD⟩, va_recv hK hPc (ci := 3) (q0 := 0) rfl rfl, fun U hU hW => ⟨rfl, by rw [hU], NW.warm hW hnw, by rw [hU]; exact hPc, va_K.moved hW.alike hK, hDc.weaken (fun _ _ _ _ => trivial)⟩⟩ rfl rfl hl.1 rfl (lv_room (Nat.le_of_ble_eq_true rfl)) dX3_append_19 ⟨Nat.zero_le _, Nat.zero_le _⟩) hS (fun q _ h => hFc q h) hFc (fun u t H1 locs ht hvm hw hB hz1 hk1 hS => ?_)
    obtain ⟨h_len_7, h_tape_8⟩ := u
    obtain ⟨hP1, hK1, hD1⟩ := hB
    rw [ht] at hP1
    have hw : ((h_len_7).toInt = (h_len_3).toInt + 4) := hw
    have h_9 := hw
    obtain ⟨hP, hD⟩ := va_join (wr := []) (w1 := [(h, .inr (3, [.ref h1, .int h_len_7, .int h_limit, .int h_pos, .int h_sort, .int h_start, .int h_val])), (h1, .inl (cI, 400, .inl h_tape_8))]) hP hD [0, 1] [] rfl rfl (by decide) (by decide) hk1 hFc hP1 hD1
    generalize H1 = H at hP hS ⊢
    have hP : va_P (dC, dI) vwCl [(h, .inr (3, [.ref h1, .int h_len_7, .int h_limit, .int h_pos, .int h_sort, .int h_start, .int h_val])), (h1, .inl (cI, 400, .inl h_tape_8))] H := hP
    have hD : va_D (va_A (ww_X3_append dC dI cI cJ cB h h1 s.heap.size h_len0 h_limit h_pos h_sort h_start h_val h_tape0 p0 p1 p2 p3 p4) s.heap.size) [(h, .inr (3, [.ref h1, .int h_len_7, .int h_limit, .int h_pos, .int h_sort, .int h_start, .int h_val])), (h1, .inl (cI, 400, .inl h_tape_8))] := hD
    clear hPc hDc hFc hP1 hK1 hD1 hk1 hz1 ht hvm
    refine lv_aload_n hx hb dX3_append_22 rfl (lv_at hl 0 rfl) ?_
    refine lv_iload_n hx hb dX3_append_23 rfl (lv_at hl 3 rfl) ?_
    have hPc := hP.sub (ws' := [(h, .inr (3, [.ref h1, .int h_len_7, .int h_limit, .int h_pos, .int h_sort, .int h_start, .int h_val])), (h1, .inl (cI, 400, .inl h_tape_8))]) [0, 1] rfl
    have hDc := hD.sub (ws' := [(h, .inr (3, [.ref h1, .int h_len_7, .int h_limit, .int h_pos, .int h_sort, .int h_start, .int h_val])), (h1, .inl (cI, 400, .inl h_tape_8))]) [0, 1] (by decide) rfl
    have hFc := va_free (wc := [(h, .inr (3, [.ref h1, .int h_len_7, .int h_limit, .int h_pos, .int h_sort, .int h_start, .int h_val])), (h1, .inl (cI, 400, .inl h_tape_8))]) hD hS hA [0, 1] rfl
    refine va_callv (va_runV (As := [.int p2]) (rest := []) ⟨hx, hb, hml, hown, hts⟩ (c_X3_write l dC dI cI cJ cB h h1 H.size h_len_7 h_limit h_pos h_sort h_start h_val h_tape_8 p2 (by first | assumption | omega | decide | (simp only [lt0, lt1, ltm1, lt400] at *; omega))) (cwV 1 hts go_wo_X3_append_1 rfl rfl rfl (by decide +kernel) ⟨Nat.le_of_ble_eq_true rfl, Nat.le_of_ble_eq_true rfl⟩) ⟨fun a U g mk q => by obtain ⟨q0, q1, qN, qP, qK, qD⟩ := q; exact ⟨q0, q1, NW.calling qN, qP, va_K.moved (u := U) (U := U.calling g mk a) (Vm.Alike.refl U.vm) qK, qD⟩, va_recv hK hPc (ci := 3) (q0 := 0) rfl rfl, fun U hU hW => ⟨rfl, by rw [hU], NW.warm hW hnw, by rw [hU]; exact hPc, va_K.moved hW.alike hK, hDc.weaken (fun _ _ _ _ => trivial)⟩⟩ rfl rfl hl.1 rfl (lv_room (Nat.le_of_ble_eq_true rfl)) dX3_append_24 ⟨Nat.zero_le _, Nat.zero_le _⟩) hS (fun q _ h => hFc q h) hFc (fun u t H1 locs ht hvm hw hB hz1 hk1 hS => ?_)
    obtain ⟨h_len_11, h_tape_12⟩ := u
    obtain ⟨hP1, hK1, hD1⟩ := hB
    rw [ht] at hP1
    have hw : ((h_len_11).toInt = (h_len_7).toInt + 4) := hw
    have h_13 := hw
    obtain ⟨hP, hD⟩ := va_join (wr := []) (w1 := [(h, .inr (3, [.ref h1, .int h_len_11, .int h_limit, .int h_pos, .int h_sort, .int h_start, .int h_val])), (h1, .inl (cI, 400, .inl h_tape_12))]) hP hD [0, 1] [] rfl rfl (by decide) (by decide) hk1 hFc hP1 hD1
    generalize H1 = H at hP hS ⊢
    have hP : va_P (dC, dI) vwCl [(h, .inr (3, [.ref h1, .int h_len_11, .int h_limit, .int h_pos, .int h_sort, .int h_start, .int h_val])), (h1, .inl (cI, 400, .inl h_tape_12))] H := hP
    have hD : va_D (va_A (ww_X3_append dC dI cI cJ cB h h1 s.heap.size h_len0 h_limit h_pos h_sort h_start h_val h_tape0 p0 p1 p2 p3 p4) s.heap.size) [(h, .inr (3, [.ref h1, .int h_len_11, .int h_limit, .int h_pos, .int h_sort, .int h_start, .int h_val])), (h1, .inl (cI, 400, .inl h_tape_12))] := hD
    clear hPc hDc hFc hP1 hK1 hD1 hk1 hz1 ht hvm
    refine lv_aload_n hx hb dX3_append_27 rfl (lv_at hl 0 rfl) ?_
    refine lv_iload hx hb dX3_append_28 (lv_at hl 4 rfl) ?_
    have hPc := hP.sub (ws' := [(h, .inr (3, [.ref h1, .int h_len_11, .int h_limit, .int h_pos, .int h_sort, .int h_start, .int h_val])), (h1, .inl (cI, 400, .inl h_tape_12))]) [0, 1] rfl
    have hDc := hD.sub (ws' := [(h, .inr (3, [.ref h1, .int h_len_11, .int h_limit, .int h_pos, .int h_sort, .int h_start, .int h_val])), (h1, .inl (cI, 400, .inl h_tape_12))]) [0, 1] (by decide) rfl
    have hFc := va_free (wc := [(h, .inr (3, [.ref h1, .int h_len_11, .int h_limit, .int h_pos, .int h_sort, .int h_start, .int h_val])), (h1, .inl (cI, 400, .inl h_tape_12))]) hD hS hA [0, 1] rfl
    refine va_callv (va_runV (As := [.int p3]) (rest := []) ⟨hx, hb, hml, hown, hts⟩ (c_X3_write l dC dI cI cJ cB h h1 H.size h_len_11 h_limit h_pos h_sort h_start h_val h_tape_12 p3 (by first | assumption | omega | decide | (simp only [lt0, lt1, ltm1, lt400] at *; omega))) (cwV 1 hts go_wo_X3_append_1 rfl rfl rfl (by decide +kernel) ⟨Nat.le_of_ble_eq_true rfl, Nat.le_of_ble_eq_true rfl⟩) ⟨fun a U g mk q => by obtain ⟨q0, q1, qN, qP, qK, qD⟩ := q; exact ⟨q0, q1, NW.calling qN, qP, va_K.moved (u := U) (U := U.calling g mk a) (Vm.Alike.refl U.vm) qK, qD⟩, va_recv hK hPc (ci := 3) (q0 := 0) rfl rfl, fun U hU hW => ⟨rfl, by rw [hU], NW.warm hW hnw, by rw [hU]; exact hPc, va_K.moved hW.alike hK, hDc.weaken (fun _ _ _ _ => trivial)⟩⟩ rfl rfl hl.1 rfl (lv_room (Nat.le_of_ble_eq_true rfl)) dX3_append_30 ⟨Nat.zero_le _, Nat.zero_le _⟩) hS (fun q _ h => hFc q h) hFc (fun u t H1 locs ht hvm hw hB hz1 hk1 hS => ?_)
    obtain ⟨h_len_15, h_tape_16⟩ := u
    obtain ⟨hP1, hK1, hD1⟩ := hB
    rw [ht] at hP1
    have hw : ((h_len_15).toInt = (h_len_11).toInt + 4) := hw
    have h_17 := hw
    obtain ⟨hP, hD⟩ := va_join (wr := []) (w1 := [(h, .inr (3, [.ref h1, .int h_len_15, .int h_limit, .int h_pos, .int h_sort, .int h_start, .int h_val])), (h1, .inl (cI, 400, .inl h_tape_16))]) hP hD [0, 1] [] rfl rfl (by decide) (by decide) hk1 hFc hP1 hD1
    generalize H1 = H at hP hS ⊢
    have hP : va_P (dC, dI) vwCl [(h, .inr (3, [.ref h1, .int h_len_15, .int h_limit, .int h_pos, .int h_sort, .int h_start, .int h_val])), (h1, .inl (cI, 400, .inl h_tape_16))] H := hP
    have hD : va_D (va_A (ww_X3_append dC dI cI cJ cB h h1 s.heap.size h_len0 h_limit h_pos h_sort h_start h_val h_tape0 p0 p1 p2 p3 p4) s.heap.size) [(h, .inr (3, [.ref h1, .int h_len_15, .int h_limit, .int h_pos, .int h_sort, .int h_start, .int h_val])), (h1, .inl (cI, 400, .inl h_tape_16))] := hD
    clear hPc hDc hFc hP1 hK1 hD1 hk1 hz1 ht hvm
    refine lv_aload_n hx hb dX3_append_33 rfl (lv_at hl 0 rfl) ?_
    refine lv_iload hx hb dX3_append_34 (lv_at hl 5 rfl) ?_
    have hPc := hP.sub (ws' := [(h, .inr (3, [.ref h1, .int h_len_15, .int h_limit, .int h_pos, .int h_sort, .int h_start, .int h_val])), (h1, .inl (cI, 400, .inl h_tape_16))]) [0, 1] rfl
    have hDc := hD.sub (ws' := [(h, .inr (3, [.ref h1, .int h_len_15, .int h_limit, .int h_pos, .int h_sort, .int h_start, .int h_val])), (h1, .inl (cI, 400, .inl h_tape_16))]) [0, 1] (by decide) rfl
    have hFc := va_free (wc := [(h, .inr (3, [.ref h1, .int h_len_15, .int h_limit, .int h_pos, .int h_sort, .int h_start, .int h_val])), (h1, .inl (cI, 400, .inl h_tape_16))]) hD hS hA [0, 1] rfl
    refine va_callv (va_runV (As := [.int p4]) (rest := []) ⟨hx, hb, hml, hown, hts⟩ (c_X3_write l dC dI cI cJ cB h h1 H.size h_len_15 h_limit h_pos h_sort h_start h_val h_tape_16 p4 (by first | assumption | omega | decide | (simp only [lt0, lt1, ltm1, lt400] at *; omega))) (cwV 1 hts go_wo_X3_append_1 rfl rfl rfl (by decide +kernel) ⟨Nat.le_of_ble_eq_true rfl, Nat.le_of_ble_eq_true rfl⟩) ⟨fun a U g mk q => by obtain ⟨q0, q1, qN, qP, qK, qD⟩ := q; exact ⟨q0, q1, NW.calling qN, qP, va_K.moved (u := U) (U := U.calling g mk a) (Vm.Alike.refl U.vm) qK, qD⟩, va_recv hK hPc (ci := 3) (q0 := 0) rfl rfl, fun U hU hW => ⟨rfl, by rw [hU], NW.warm hW hnw, by rw [hU]; exact hPc, va_K.moved hW.alike hK, hDc.weaken (fun _ _ _ _ => trivial)⟩⟩ rfl rfl hl.1 rfl (lv_room (Nat.le_of_ble_eq_true rfl)) dX3_append_36 ⟨Nat.zero_le _, Nat.zero_le _⟩) hS (fun q _ h => hFc q h) hFc (fun u t H1 locs ht hvm hw hB hz1 hk1 hS => ?_)
    obtain ⟨h_len_19, h_tape_20⟩ := u
    obtain ⟨hP1, hK1, hD1⟩ := hB
    rw [ht] at hP1
    have hw : ((h_len_19).toInt = (h_len_15).toInt + 4) := hw
    have h_21 := hw
    obtain ⟨hP, hD⟩ := va_join (wr := []) (w1 := [(h, .inr (3, [.ref h1, .int h_len_19, .int h_limit, .int h_pos, .int h_sort, .int h_start, .int h_val])), (h1, .inl (cI, 400, .inl h_tape_20))]) hP hD [0, 1] [] rfl rfl (by decide) (by decide) hk1 hFc hP1 hD1
    generalize H1 = H at hP hS ⊢
    have hP : va_P (dC, dI) vwCl [(h, .inr (3, [.ref h1, .int h_len_19, .int h_limit, .int h_pos, .int h_sort, .int h_start, .int h_val])), (h1, .inl (cI, 400, .inl h_tape_20))] H := hP
    have hD : va_D (va_A (ww_X3_append dC dI cI cJ cB h h1 s.heap.size h_len0 h_limit h_pos h_sort h_start h_val h_tape0 p0 p1 p2 p3 p4) s.heap.size) [(h, .inr (3, [.ref h1, .int h_len_19, .int h_limit, .int h_pos, .int h_sort, .int h_start, .int h_val])), (h1, .inl (cI, 400, .inl h_tape_20))] := hD
    clear hPc hDc hFc hP1 hK1 hD1 hk1 hz1 ht hvm
    refine lv_aload_n hx hb dX3_append_39 rfl (lv_at hl 0 rfl) ?_
    refine va_get (D := (dC, dI)) (ci := 3) (v := .int h_len_19) (C := RX3) (T := TX3) (N := 7) hx hb hts kk1_ hown hK hP 0 rfl rfl 1 (by decide) kk0_ (fun _ h9 => h9) rfl dX3_append_40 ?_
    have hP9 := hP.sub (ws' := [(h, .inr (3, [.ref h1, .int h_len_19, .int h_limit, .int h_pos, .int h_sort, .int h_start, .int h_val])), (h1, .inl (cI, 400, .inl h_tape_20))]) [0, 1] rfl
    have hD9 := hD.sub (ws' := [(h, .inr (3, [.ref h1, .int h_len_19, .int h_limit, .int h_pos, .int h_sort, .int h_start, .int h_val])), (h1, .inl (cI, 400, .inl h_tape_20))]) [0, 1] (by decide) rfl
    have r9_0 : (380 < (h_len0).toInt → h_len_19 = -1 ∧ h_len_19 = h_len0) ∧ ((h_len0).toInt ≤ 380 → h_len_19 = h_len_19 ∧ (h_len_19).toInt = (h_len0).toInt + 20) := ⟨fun h => absurd h (by omega), fun _ => ⟨rfl, by omega⟩⟩
    exact W.iret (v := h_len_19) hx hb hr (fun t ht hW => ⟨⟨h_len_19, (h_len_19, h_tape_20), rfl, r9_0, by rw [ht]; exact hP9, va_K.moved hW.alike hK, hD9⟩, hS.F ht⟩) hS.2.2 dX3_append_43
  · have tc_1 : 380 < h_len0.toInt := tb_le_f c_1
    refine lv_iconst (v := -1) hx hb dX3_append_10 (by decide) ?_
    have hP9 := hP.sub (ws' := [(h, .inr (3, [.ref h1, .int h_len0, .int h_limit, .int h_pos, .int h_sort, .int h_start, .int h_val])), (h1, .inl (cI, 400, .inl h_tape0))]) [0, 1] rfl
    have hD9 := hD.sub (ws' := [(h, .inr (3, [.ref h1, .int h_len0, .int h_limit, .int h_pos, .int h_sort, .int h_start, .int h_val])), (h1, .inl (cI, 400, .inl h_tape0))]) [0, 1] (by decide) rfl
    have r9_0 : (380 < (h_len0).toInt → (-1 : Int32) = -1 ∧ h_len0 = h_len0) ∧ ((h_len0).toInt ≤ 380 → (-1 : Int32) = h_len0 ∧ (h_len0).toInt = (h_len0).toInt + 20) := ⟨fun _ => ⟨rfl, rfl⟩, fun h => absurd h (by omega)⟩
    exact W.iret (v := (-1 : Int32)) hx hb hr (fun t ht hW => ⟨⟨(-1 : Int32), (h_len0, h_tape0), rfl, r9_0, by rw [ht]; exact hP9, va_K.moved hW.alike hK, hD9⟩, hS.F ht⟩) hS.2.2 dX3_append_11
def wo_X3_cut : List Cond := .code yX3_cut cX3_cut 2 (some .boolean) :: (([.fieldLink RX3 15 "SumRewriter$Scanner" "length" "I"] : List Cond) ++ ((wsX30)))
abbrev ww_X3_cut (dC : Nat → ClassId) (dI : Nat → Nat → Nat) (cI cJ cB : ClassId) (h h1 : Nat) (sz : Nat) (h_len0 : Int32) (h_limit : Int32) (h_pos : Int32) (h_sort : Int32) (h_start : Int32) (h_val : Int32) (h_tape : Nat → Int32) (p0 : Int32) : va_W := [(h, .inr (3, [.ref h1, .int h_len0, .int h_limit, .int h_pos, .int h_sort, .int h_start, .int h_val])), (h1, .inl (cI, 400, .inl h_tape))]
abbrev at_X3_cut (dC : Nat → ClassId) (dI : Nat → Nat → Nat) (cI cJ cB : ClassId) (h h1 : Nat) (sz : Nat) (h_len0 : Int32) (h_limit : Int32) (h_pos : Int32) (h_sort : Int32) (h_start : Int32) (h_val : Int32) (h_tape : Nat → Int32) (p0 : Int32) (u : Int32) (t : State) : Prop := match u with
  | h_len => va_P (dC, dI) vwCl [(h, .inr (3, [.ref h1, .int h_len, .int h_limit, .int h_pos, .int h_sort, .int h_start, .int h_val])), (h1, .inl (cI, 400, .inl h_tape))] t.heap ∧ va_K (dC, dI) vwCl (tyL cI cJ cB) t ∧ va_D (va_A (ww_X3_cut dC dI cI cJ cB h h1 sz h_len0 h_limit h_pos h_sort h_start h_val h_tape p0) sz) [(h, .inr (3, [.ref h1, .int h_len, .int h_limit, .int h_pos, .int h_sort, .int h_start, .int h_val])), (h1, .inl (cI, 400, .inl h_tape))]
abbrev qc_X3_cut (dC : Nat → ClassId) (dI : Nat → Nat → Nat) (cI cJ cB : ClassId) (h h1 : Nat) (sz : Nat) (h_len0 : Int32) (h_limit : Int32) (h_pos : Int32) (h_sort : Int32) (h_start : Int32) (h_val : Int32) (h_tape : Nat → Int32) (p0 : Int32) : Array Value → State → Outcome → State → Prop := va_Qi (fun (r : Int32) (u : Int32) => match u with | h_len => ((0 ≤ p0.toInt ∧ p0.toInt ≤ h_len0.toInt → r = 1 ∧ h_len = p0) ∧ (¬ (0 ≤ p0.toInt ∧ p0.toInt ≤ h_len0.toInt) → r = 0 ∧ h_len = h_len0))) (at_X3_cut dC dI cI cJ cB h h1 sz h_len0 h_limit h_pos h_sort h_start h_val h_tape p0) (va_A (ww_X3_cut dC dI cI cJ cB h h1 sz h_len0 h_limit h_pos h_sort h_start h_val h_tape p0) sz)
abbrev pc_X3_cut (dC : Nat → ClassId) (dI : Nat → Nat → Nat) (cI cJ cB : ClassId) (h h1 : Nat) (sz : Nat) (h_len0 : Int32) (h_limit : Int32) (h_pos : Int32) (h_sort : Int32) (h_start : Int32) (h_val : Int32) (h_tape : Nat → Int32) (p0 : Int32) : Array Value → State → Prop := va_Pc [.ref h, .int p0] (fun U => U.heap.size = sz ∧ NW U ∧ va_P (dC, dI) vwCl (ww_X3_cut dC dI cI cJ cB h h1 sz h_len0 h_limit h_pos h_sort h_start h_val h_tape p0) U.heap ∧ va_K (dC, dI) vwCl (tyL cI cJ cB) U ∧ va_D (fun _ => True) (ww_X3_cut dC dI cI cJ cB h h1 sz h_len0 h_limit h_pos h_sort h_start h_val h_tape p0))
abbrev rm_X3_cut : Room := { frames := 0, cells := 0, slots := 0, locals := 0 }
abbrev WW_X3_cut (p : Program) (l : Launch) (e : Env) (s : State) (m : MethodId) (below : List Frame) (meth : Method) (c : Code) (dC : Nat → ClassId) (dI : Nat → Nat → Nat) (cI cJ cB : ClassId) (h h1 : Nat) (sz : Nat) (h_len0 : Int32) (h_limit : Int32) (h_pos : Int32) (h_sort : Int32) (h_start : Int32) (h_val : Int32) (h_tape : Nat → Int32) (p0 : Int32) (H : Heap) (locs : List Loc) (g : JFrame) : Prop := W p l e rm_X3_cut s m ([.ref h, .int p0] : List Value).toArray below meth c H locs 0 0 (MQ below (qc_X3_cut dC dI cI cJ cB h h1 sz h_len0 h_limit h_pos h_sort h_start h_val h_tape p0) ([.ref h, .int p0] : List Value).toArray s 0 0 (va_A (ww_X3_cut dC dI cI cJ cB h h1 sz h_len0 h_limit h_pos h_sort h_start h_val h_tape p0) sz)) g
set_option maxHeartbeats 4000000 in
set_option maxRecDepth 100000 in
theorem c_X3_cut (l : Launch) (dC : Nat → ClassId) (dI : Nat → Nat → Nat) (cI cJ cB : ClassId) (h h1 : Nat) (sz : Nat) (h_len0 : Int32) (h_limit : Int32) (h_pos : Int32) (h_sort : Int32) (h_start : Int32) (h_val : Int32) (h_tape : Nat → Int32) (p0 : Int32) : Met l yX3_cut wo_X3_cut rm_X3_cut (pc_X3_cut dC dI cI cJ cB h h1 sz h_len0 h_limit h_pos h_sort h_start h_val h_tape p0) (qc_X3_cut dC dI cI cJ cB h h1 sz h_len0 h_limit h_pos h_sort h_start h_val h_tape p0) 0 0 (va_A (ww_X3_cut dC dI cI cJ cB h h1 sz h_len0 h_limit h_pos h_sort h_start h_val h_tape p0) sz) := by
  refine Met.ofW (cc := cX3_cut) (maxL := 2) (ret := (some .boolean)) (by decide) rfl ?_
  intro p e s m args below meth c s₁ B hml hv
  obtain ⟨rfl, hsz, hnw, hP, hK, hD0⟩ := hv
  have hx := B.exec
  have hb := B.bytes
  have hr := B.returns
  have hts := atoms_spec (ws := wo_X3_cut) B.pre
  have hown : s.vm.findClass RX3 = some m.cls := findClass_of_methodNamed B.named
  have hlocks := B.notSynchronized
  clear B
  subst hsz
  have hD := hD0.self (sz := s.heap.size)
  clear hD0
  have kk0_ := hts (.fieldLink RX3 15 "SumRewriter$Scanner" "length" "I") (by decide +kernel)
  have kk1_ : ∀ w ∈ wsX30, w ∈ wo_X3_cut := fun _ h => (List.mem_cons_of_mem _ (List.mem_append_right _ h))
  have hA : ∀ q : Nat, s.heap.size ≤ q → (va_A (ww_X3_cut dC dI cI cJ cB h h1 s.heap.size h_len0 h_limit h_pos h_sort h_start h_val h_tape p0) s.heap.size) q := fun q h => Or.inr h
  have hS : va_S (va_A (ww_X3_cut dC dI cI cJ cB h h1 s.heap.size h_len0 h_limit h_pos h_sort h_start h_val h_tape p0) s.heap.size) s.heap s.heap [] := va_S.rf
  have hl := lv_entry ([.ref h, .int p0]) (n := 2) (Nat.le_of_ble_eq_true rfl)
  rw [lg_entry_eq]
  generalize (lg_sl ([.ref h, .int p0]) ++ List.replicate (2 - (lg_sl ([.ref h, .int p0])).length) Slot.unset).toArray = ls at hl ⊢
  have hl : lv_has ls 2 [(0, .ref h), (1, .int p0)] := hl
  have hP : va_P (dC, dI) vwCl [(h, .inr (3, [.ref h1, .int h_len0, .int h_limit, .int h_pos, .int h_sort, .int h_start, .int h_val])), (h1, .inl (cI, 400, .inl h_tape))] s.heap := hP
  have hD : va_D (va_A (ww_X3_cut dC dI cI cJ cB h h1 s.heap.size h_len0 h_limit h_pos h_sort h_start h_val h_tape p0) s.heap.size) [(h, .inr (3, [.ref h1, .int h_len0, .int h_limit, .int h_pos, .int h_sort, .int h_start, .int h_val])), (h1, .inl (cI, 400, .inl h_tape))] := hD
  obtain ⟨H, hH⟩ : ∃ H, H = s.heap := ⟨_, rfl⟩
  obtain ⟨locs, hlc⟩ : ∃ L : List Loc, L = [] := ⟨_, rfl⟩
  have hS : va_S (va_A (ww_X3_cut dC dI cI cJ cB h h1 s.heap.size h_len0 h_limit h_pos h_sort h_start h_val h_tape p0) s.heap.size) s.heap H locs := by rw [hH, hlc]; exact hS
  have hP : va_P (dC, dI) vwCl [(h, .inr (3, [.ref h1, .int h_len0, .int h_limit, .int h_pos, .int h_sort, .int h_start, .int h_val])), (h1, .inl (cI, 400, .inl h_tape))] H := by rw [hH]; exact hP
  suffices hgo : WW_X3_cut p l e s m below meth c dC dI cI cJ cB h h1 s.heap.size h_len0 h_limit h_pos h_sort h_start h_val h_tape p0 H locs (F0 m 0 ls []) by rw [hH, hlc] at hgo; exact hgo
  clear hH hlc
  refine lv_iload_n hx hb dX3_cut_0 rfl (lv_at hl 1 rfl) ?_
  refine lv_if_lt (tgt := 12) hx hb dX3_cut_1 (by decide) (fun c_1 => ?_) (fun c_1 => ?_)
  · have tc_1 : p0.toInt < 0 := tb_lt_t c_1
    refine lv_iconst (v := 0) hx hb dX3_cut_12 (by decide) ?_
    have hP9 := hP.sub (ws' := [(h, .inr (3, [.ref h1, .int h_len0, .int h_limit, .int h_pos, .int h_sort, .int h_start, .int h_val])), (h1, .inl (cI, 400, .inl h_tape))]) [0, 1] rfl
    have hD9 := hD.sub (ws' := [(h, .inr (3, [.ref h1, .int h_len0, .int h_limit, .int h_pos, .int h_sort, .int h_start, .int h_val])), (h1, .inl (cI, 400, .inl h_tape))]) [0, 1] (by decide) rfl
    have r9_0 : (0 ≤ p0.toInt ∧ p0.toInt ≤ h_len0.toInt → (0 : Int32) = 1 ∧ h_len0 = p0) ∧ (¬ (0 ≤ p0.toInt ∧ p0.toInt ≤ h_len0.toInt) → (0 : Int32) = 0 ∧ h_len0 = h_len0) := ⟨fun h => absurd h (by omega), fun _ => ⟨rfl, rfl⟩⟩
    exact W.zret (v := (0 : Int32)) hx hb hr rfl (fun t ht hW => ⟨⟨(0 : Int32), h_len0, rfl, r9_0, by rw [ht]; exact hP9, va_K.moved hW.alike hK, hD9⟩, hS.F ht⟩) hS.2.2 dX3_cut_13
  · have tc_1 : 0 ≤ p0.toInt := tb_lt_f c_1
    refine lv_iload_n hx hb dX3_cut_4 rfl (lv_at hl 1 rfl) ?_
    refine lv_aload_n hx hb dX3_cut_5 rfl (lv_at hl 0 rfl) ?_
    refine va_get (D := (dC, dI)) (ci := 3) (v := .int h_len0) (C := RX3) (T := TX3) (N := 7) hx hb hts kk1_ hown hK hP 0 rfl rfl 1 (by decide) kk0_ (fun _ h9 => h9) rfl dX3_cut_6 ?_
    refine lv_icmp_le (tgt := 14) hx hb dX3_cut_9 (by decide) (fun c_2 => ?_) (fun c_2 => ?_)
    · have tc_2 : p0.toInt ≤ h_len0.toInt := tb_le_t c_2
      have := ti_rng h_len0
      refine lv_aload_n hx hb dX3_cut_14 rfl (lv_at hl 0 rfl) ?_
      refine lv_iload_n hx hb dX3_cut_15 rfl (lv_at hl 1 rfl) ?_
      refine va_put (D := (dC, dI)) (ci := 3) (v := .int p0) (ty := .int) (C := RX3) (T := TX3) (N := 7) hx hb hts kk1_ tyX3 tyX3_ok nmX3 hown hK hP hD hS 0 rfl rfl 1 (by decide) kk0_ (fun _ h9 => h9) rfl (by decide +kernel) rfl rfl (Nat.le_of_ble_eq_true rfl) dX3_cut_16 (fun H locs hP hD hS => ?_)
      have hP : va_P (dC, dI) vwCl [(h, .inr (3, [.ref h1, .int p0, .int h_limit, .int h_pos, .int h_sort, .int h_start, .int h_val])), (h1, .inl (cI, 400, .inl h_tape))] H := hP
      have hD : va_D (va_A (ww_X3_cut dC dI cI cJ cB h h1 s.heap.size h_len0 h_limit h_pos h_sort h_start h_val h_tape p0) s.heap.size) [(h, .inr (3, [.ref h1, .int p0, .int h_limit, .int h_pos, .int h_sort, .int h_start, .int h_val])), (h1, .inl (cI, 400, .inl h_tape))] := hD
      refine lv_iconst (v := 1) hx hb dX3_cut_19 (by decide) ?_
      have hP9 := hP.sub (ws' := [(h, .inr (3, [.ref h1, .int p0, .int h_limit, .int h_pos, .int h_sort, .int h_start, .int h_val])), (h1, .inl (cI, 400, .inl h_tape))]) [0, 1] rfl
      have hD9 := hD.sub (ws' := [(h, .inr (3, [.ref h1, .int p0, .int h_limit, .int h_pos, .int h_sort, .int h_start, .int h_val])), (h1, .inl (cI, 400, .inl h_tape))]) [0, 1] (by decide) rfl
      have r9_0 : (0 ≤ p0.toInt ∧ p0.toInt ≤ h_len0.toInt → (1 : Int32) = 1 ∧ p0 = p0) ∧ (¬ (0 ≤ p0.toInt ∧ p0.toInt ≤ h_len0.toInt) → (1 : Int32) = 0 ∧ p0 = h_len0) := ⟨fun _ => ⟨rfl, rfl⟩, fun h => absurd (by omega) h⟩
      exact W.zret (v := (1 : Int32)) hx hb hr rfl (fun t ht hW => ⟨⟨(1 : Int32), p0, rfl, r9_0, by rw [ht]; exact hP9, va_K.moved hW.alike hK, hD9⟩, hS.F ht⟩) hS.2.2 dX3_cut_20
    · have tc_2 : h_len0.toInt < p0.toInt := tb_le_f c_2
      have := ti_rng h_len0
      refine lv_iconst (v := 0) hx hb dX3_cut_12 (by decide) ?_
      have hP9 := hP.sub (ws' := [(h, .inr (3, [.ref h1, .int h_len0, .int h_limit, .int h_pos, .int h_sort, .int h_start, .int h_val])), (h1, .inl (cI, 400, .inl h_tape))]) [0, 1] rfl
      have hD9 := hD.sub (ws' := [(h, .inr (3, [.ref h1, .int h_len0, .int h_limit, .int h_pos, .int h_sort, .int h_start, .int h_val])), (h1, .inl (cI, 400, .inl h_tape))]) [0, 1] (by decide) rfl
      have r9_0 : (0 ≤ p0.toInt ∧ p0.toInt ≤ h_len0.toInt → (0 : Int32) = 1 ∧ h_len0 = p0) ∧ (¬ (0 ≤ p0.toInt ∧ p0.toInt ≤ h_len0.toInt) → (0 : Int32) = 0 ∧ h_len0 = h_len0) := ⟨fun h => absurd h (by omega), fun _ => ⟨rfl, rfl⟩⟩
      exact W.zret (v := (0 : Int32)) hx hb hr rfl (fun t ht hW => ⟨⟨(0 : Int32), h_len0, rfl, r9_0, by rw [ht]; exact hP9, va_K.moved hW.alike hK, hD9⟩, hS.F ht⟩) hS.2.2 dX3_cut_13
def wo_X9_feed : List Cond := .code yX9_feed cX9_feed 6 (some .int) :: (([.fieldLink RX9 10 "SumRewriter" "scanner" "LSumRewriter$Scanner;"] : List Cond) ++ ((wsX90) ++ ((wsV RX9 107 RX3 yX3_append wo_X3_append))))
set_option maxRecDepth 20000 in
theorem go_wo_X9_feed_1 : GoodIn wo_X9_feed (wsV RX9 107 RX3 yX3_append wo_X3_append) := goodIn_sub (fun _ h => (List.mem_cons_of_mem _ (List.mem_append_right _ (List.mem_append_right _ h)))) (by decide +kernel)
abbrev ww_X9_feed (dC : Nat → ClassId) (dI : Nat → Nat → Nat) (cI cJ cB : ClassId) (xx h h1 ga gb ta rd rt rs rc sw ma sp se sf bi : Nat) (sz : Nat) (xx_on : Int32) (xx_fa : Int32) (h_len0 : Int32) (h_limit : Int32) (h_pos : Int32) (h_sort : Int32) (h_start : Int32) (h_val : Int32) (h_tape0 : Nat → Int32) (p0 : Int32) (p1 : Int32) (p2 : Int32) (p3 : Int32) (p4 : Int32) : va_W := [(xx, .inr (9, [.ref h, .ref ga, .ref gb, .ref ta, .ref rd, .ref rt, .ref rs, .ref rc, .ref sw, .ref ma, .ref sp, .ref se, .ref sf, .ref bi, .int xx_on, .int xx_fa])), (h, .inr (3, [.ref h1, .int h_len0, .int h_limit, .int h_pos, .int h_sort, .int h_start, .int h_val])), (h1, .inl (cI, 400, .inl h_tape0))]
abbrev at_X9_feed (dC : Nat → ClassId) (dI : Nat → Nat → Nat) (cI cJ cB : ClassId) (xx h h1 ga gb ta rd rt rs rc sw ma sp se sf bi : Nat) (sz : Nat) (xx_on : Int32) (xx_fa : Int32) (h_len0 : Int32) (h_limit : Int32) (h_pos : Int32) (h_sort : Int32) (h_start : Int32) (h_val : Int32) (h_tape0 : Nat → Int32) (p0 : Int32) (p1 : Int32) (p2 : Int32) (p3 : Int32) (p4 : Int32) (u : Int32 × (Nat → Int32)) (t : State) : Prop := match u with
  | (h_len, h_tape) => va_P (dC, dI) vwCl [(xx, .inr (9, [.ref h, .ref ga, .ref gb, .ref ta, .ref rd, .ref rt, .ref rs, .ref rc, .ref sw, .ref ma, .ref sp, .ref se, .ref sf, .ref bi, .int xx_on, .int xx_fa])), (h, .inr (3, [.ref h1, .int h_len, .int h_limit, .int h_pos, .int h_sort, .int h_start, .int h_val])), (h1, .inl (cI, 400, .inl h_tape))] t.heap ∧ va_K (dC, dI) vwCl (tyL cI cJ cB) t ∧ va_D (va_A (ww_X9_feed dC dI cI cJ cB xx h h1 ga gb ta rd rt rs rc sw ma sp se sf bi sz xx_on xx_fa h_len0 h_limit h_pos h_sort h_start h_val h_tape0 p0 p1 p2 p3 p4) sz) [(xx, .inr (9, [.ref h, .ref ga, .ref gb, .ref ta, .ref rd, .ref rt, .ref rs, .ref rc, .ref sw, .ref ma, .ref sp, .ref se, .ref sf, .ref bi, .int xx_on, .int xx_fa])), (h, .inr (3, [.ref h1, .int h_len, .int h_limit, .int h_pos, .int h_sort, .int h_start, .int h_val])), (h1, .inl (cI, 400, .inl h_tape))]
abbrev qc_X9_feed (dC : Nat → ClassId) (dI : Nat → Nat → Nat) (cI cJ cB : ClassId) (xx h h1 ga gb ta rd rt rs rc sw ma sp se sf bi : Nat) (sz : Nat) (xx_on : Int32) (xx_fa : Int32) (h_len0 : Int32) (h_limit : Int32) (h_pos : Int32) (h_sort : Int32) (h_start : Int32) (h_val : Int32) (h_tape0 : Nat → Int32) (p0 : Int32) (p1 : Int32) (p2 : Int32) (p3 : Int32) (p4 : Int32) : Array Value → State → Outcome → State → Prop := va_Qi (fun (r : Int32) (u : Int32 × (Nat → Int32)) => match u with | (h_len, h_tape) => ((380 < (h_len0).toInt → r = -1 ∧ h_len = h_len0) ∧ ((h_len0).toInt ≤ 380 → r = h_len ∧ (h_len).toInt = (h_len0).toInt + 20))) (at_X9_feed dC dI cI cJ cB xx h h1 ga gb ta rd rt rs rc sw ma sp se sf bi sz xx_on xx_fa h_len0 h_limit h_pos h_sort h_start h_val h_tape0 p0 p1 p2 p3 p4) (va_A (ww_X9_feed dC dI cI cJ cB xx h h1 ga gb ta rd rt rs rc sw ma sp se sf bi sz xx_on xx_fa h_len0 h_limit h_pos h_sort h_start h_val h_tape0 p0 p1 p2 p3 p4) sz)
abbrev pc_X9_feed (dC : Nat → ClassId) (dI : Nat → Nat → Nat) (cI cJ cB : ClassId) (xx h h1 ga gb ta rd rt rs rc sw ma sp se sf bi : Nat) (sz : Nat) (xx_on : Int32) (xx_fa : Int32) (h_len0 : Int32) (h_limit : Int32) (h_pos : Int32) (h_sort : Int32) (h_start : Int32) (h_val : Int32) (h_tape0 : Nat → Int32) (p0 : Int32) (p1 : Int32) (p2 : Int32) (p3 : Int32) (p4 : Int32) : Array Value → State → Prop := va_Pc [.ref xx, .int p0, .int p1, .int p2, .int p3, .int p4] (fun U => U.heap.size = sz ∧ NW U ∧ va_P (dC, dI) vwCl (ww_X9_feed dC dI cI cJ cB xx h h1 ga gb ta rd rt rs rc sw ma sp se sf bi sz xx_on xx_fa h_len0 h_limit h_pos h_sort h_start h_val h_tape0 p0 p1 p2 p3 p4) U.heap ∧ va_K (dC, dI) vwCl (tyL cI cJ cB) U ∧ va_D (fun _ => True) (ww_X9_feed dC dI cI cJ cB xx h h1 ga gb ta rd rt rs rc sw ma sp se sf bi sz xx_on xx_fa h_len0 h_limit h_pos h_sort h_start h_val h_tape0 p0 p1 p2 p3 p4))
abbrev rm_X9_feed : Room := { frames := 2, cells := 0, slots := 0, locals := 47 }
abbrev WW_X9_feed (p : Program) (l : Launch) (e : Env) (s : State) (m : MethodId) (below : List Frame) (meth : Method) (c : Code) (dC : Nat → ClassId) (dI : Nat → Nat → Nat) (cI cJ cB : ClassId) (xx h h1 ga gb ta rd rt rs rc sw ma sp se sf bi : Nat) (sz : Nat) (xx_on : Int32) (xx_fa : Int32) (h_len0 : Int32) (h_limit : Int32) (h_pos : Int32) (h_sort : Int32) (h_start : Int32) (h_val : Int32) (h_tape0 : Nat → Int32) (p0 : Int32) (p1 : Int32) (p2 : Int32) (p3 : Int32) (p4 : Int32) (H : Heap) (locs : List Loc) (g : JFrame) : Prop := W p l e rm_X9_feed s m ([.ref xx, .int p0, .int p1, .int p2, .int p3, .int p4] : List Value).toArray below meth c H locs 0 0 (MQ below (qc_X9_feed dC dI cI cJ cB xx h h1 ga gb ta rd rt rs rc sw ma sp se sf bi sz xx_on xx_fa h_len0 h_limit h_pos h_sort h_start h_val h_tape0 p0 p1 p2 p3 p4) ([.ref xx, .int p0, .int p1, .int p2, .int p3, .int p4] : List Value).toArray s 0 0 (va_A (ww_X9_feed dC dI cI cJ cB xx h h1 ga gb ta rd rt rs rc sw ma sp se sf bi sz xx_on xx_fa h_len0 h_limit h_pos h_sort h_start h_val h_tape0 p0 p1 p2 p3 p4) sz)) g
set_option maxHeartbeats 4000000 in
set_option maxRecDepth 100000 in
theorem c_X9_feed (l : Launch) (dC : Nat → ClassId) (dI : Nat → Nat → Nat) (cI cJ cB : ClassId) (xx h h1 ga gb ta rd rt rs rc sw ma sp se sf bi : Nat) (sz : Nat) (xx_on : Int32) (xx_fa : Int32) (h_len0 : Int32) (h_limit : Int32) (h_pos : Int32) (h_sort : Int32) (h_start : Int32) (h_val : Int32) (h_tape0 : Nat → Int32) (p0 : Int32) (p1 : Int32) (p2 : Int32) (p3 : Int32) (p4 : Int32) (hpre : 0 ≤ (h_len0).toInt ∧ (h_len0).toInt ≤ 400) : Met l yX9_feed wo_X9_feed rm_X9_feed (pc_X9_feed dC dI cI cJ cB xx h h1 ga gb ta rd rt rs rc sw ma sp se sf bi sz xx_on xx_fa h_len0 h_limit h_pos h_sort h_start h_val h_tape0 p0 p1 p2 p3 p4) (qc_X9_feed dC dI cI cJ cB xx h h1 ga gb ta rd rt rs rc sw ma sp se sf bi sz xx_on xx_fa h_len0 h_limit h_pos h_sort h_start h_val h_tape0 p0 p1 p2 p3 p4) 0 0 (va_A (ww_X9_feed dC dI cI cJ cB xx h h1 ga gb ta rd rt rs rc sw ma sp se sf bi sz xx_on xx_fa h_len0 h_limit h_pos h_sort h_start h_val h_tape0 p0 p1 p2 p3 p4) sz) := by
  refine Met.ofW (cc := cX9_feed) (maxL := 6) (ret := (some .int)) (by decide) rfl ?_
  intro p e s m args below meth c s₁ B hml hv
  obtain ⟨rfl, hsz, hnw, hP, hK, hD0⟩ := hv
  have hx := B.exec
  have hb := B.bytes
  have hr := B.returns
  have hts := atoms_spec (ws := wo_X9_feed) B.pre
  have hown : s.vm.findClass RX9 = some m.cls := findClass_of_methodNamed B.named
  have hlocks := B.notSynchronized
  clear B
  subst hsz
  have hD := hD0.self (sz := s.heap.size)
  clear hD0
  have kk0_ := hts (.fieldLink RX9 10 "SumRewriter" "scanner" "LSumRewriter$Scanner;") (by decide +kernel)
  have kk1_ : ∀ w ∈ wsX90, w ∈ wo_X9_feed := fun _ h => (List.mem_cons_of_mem _ (List.mem_append_right _ (List.mem_append_left _ h)))
  have hA : ∀ q : Nat, s.heap.size ≤ q → (va_A (ww_X9_feed dC dI cI cJ cB xx h h1 ga gb ta rd rt rs rc sw ma sp se sf bi s.heap.size xx_on xx_fa h_len0 h_limit h_pos h_sort h_start h_val h_tape0 p0 p1 p2 p3 p4) s.heap.size) q := fun q h => Or.inr h
  have hS : va_S (va_A (ww_X9_feed dC dI cI cJ cB xx h h1 ga gb ta rd rt rs rc sw ma sp se sf bi s.heap.size xx_on xx_fa h_len0 h_limit h_pos h_sort h_start h_val h_tape0 p0 p1 p2 p3 p4) s.heap.size) s.heap s.heap [] := va_S.rf
  have hl := lv_entry ([.ref xx, .int p0, .int p1, .int p2, .int p3, .int p4]) (n := 6) (Nat.le_of_ble_eq_true rfl)
  rw [lg_entry_eq]
  generalize (lg_sl ([.ref xx, .int p0, .int p1, .int p2, .int p3, .int p4]) ++ List.replicate (6 - (lg_sl ([.ref xx, .int p0, .int p1, .int p2, .int p3, .int p4])).length) Slot.unset).toArray = ls at hl ⊢
  have hl : lv_has ls 6 [(0, .ref xx), (1, .int p0), (2, .int p1), (3, .int p2), (4, .int p3), (5, .int p4)] := hl
  have hP : va_P (dC, dI) vwCl [(xx, .inr (9, [.ref h, .ref ga, .ref gb, .ref ta, .ref rd, .ref rt, .ref rs, .ref rc, .ref sw, .ref ma, .ref sp, .ref se, .ref sf, .ref bi, .int xx_on, .int xx_fa])), (h, .inr (3, [.ref h1, .int h_len0, .int h_limit, .int h_pos, .int h_sort, .int h_start, .int h_val])), (h1, .inl (cI, 400, .inl h_tape0))] s.heap := hP
  have hD : va_D (va_A (ww_X9_feed dC dI cI cJ cB xx h h1 ga gb ta rd rt rs rc sw ma sp se sf bi s.heap.size xx_on xx_fa h_len0 h_limit h_pos h_sort h_start h_val h_tape0 p0 p1 p2 p3 p4) s.heap.size) [(xx, .inr (9, [.ref h, .ref ga, .ref gb, .ref ta, .ref rd, .ref rt, .ref rs, .ref rc, .ref sw, .ref ma, .ref sp, .ref se, .ref sf, .ref bi, .int xx_on, .int xx_fa])), (h, .inr (3, [.ref h1, .int h_len0, .int h_limit, .int h_pos, .int h_sort, .int h_start, .int h_val])), (h1, .inl (cI, 400, .inl h_tape0))] := hD
  obtain ⟨H, hH⟩ : ∃ H, H = s.heap := ⟨_, rfl⟩
  obtain ⟨locs, hlc⟩ : ∃ L : List Loc, L = [] := ⟨_, rfl⟩
  have hS : va_S (va_A (ww_X9_feed dC dI cI cJ cB xx h h1 ga gb ta rd rt rs rc sw ma sp se sf bi s.heap.size xx_on xx_fa h_len0 h_limit h_pos h_sort h_start h_val h_tape0 p0 p1 p2 p3 p4) s.heap.size) s.heap H locs := by rw [hH, hlc]; exact hS
  have hP : va_P (dC, dI) vwCl [(xx, .inr (9, [.ref h, .ref ga, .ref gb, .ref ta, .ref rd, .ref rt, .ref rs, .ref rc, .ref sw, .ref ma, .ref sp, .ref se, .ref sf, .ref bi, .int xx_on, .int xx_fa])), (h, .inr (3, [.ref h1, .int h_len0, .int h_limit, .int h_pos, .int h_sort, .int h_start, .int h_val])), (h1, .inl (cI, 400, .inl h_tape0))] H := by rw [hH]; exact hP
  suffices hgo : WW_X9_feed p l e s m below meth c dC dI cI cJ cB xx h h1 ga gb ta rd rt rs rc sw ma sp se sf bi s.heap.size xx_on xx_fa h_len0 h_limit h_pos h_sort h_start h_val h_tape0 p0 p1 p2 p3 p4 H locs (F0 m 0 ls []) by rw [hH, hlc] at hgo; exact hgo
  clear hH hlc
  refine lv_aload_n hx hb dX9_feed_0 rfl (lv_at hl 0 rfl) ?_
  refine va_get (D := (dC, dI)) (ci := 9) (v := .ref h) (C := RX9) (T := TX9) (N := 16) hx hb hts kk1_ hown hK hP 0 rfl rfl 0 (by decide) kk0_ (fun _ h9 => h9) rfl dX9_feed_1 ?_
  refine lv_iload_n hx hb dX9_feed_4 rfl (lv_at hl 1 rfl) ?_
  refine lv_iload_n hx hb dX9_feed_5 rfl (lv_at hl 2 rfl) ?_
  refine lv_iload_n hx hb dX9_feed_6 rfl (lv_at hl 3 rfl) ?_
  refine lv_iload hx hb dX9_feed_7 (lv_at hl 4 rfl) ?_
  refine lv_iload hx hb dX9_feed_9 (lv_at hl 5 rfl) ?_
  have hPc := hP.sub (ws' := [(h, .inr (3, [.ref h1, .int h_len0, .int h_limit, .int h_pos, .int h_sort, .int h_start, .int h_val])), (h1, .inl (cI, 400, .inl h_tape0))]) [1, 2] rfl
  have hDc := hD.sub (ws' := [(h, .inr (3, [.ref h1, .int h_len0, .int h_limit, .int h_pos, .int h_sort, .int h_start, .int h_val])), (h1, .inl (cI, 400, .inl h_tape0))]) [1, 2] (by decide) rfl
  have hFc := va_free (wc := [(h, .inr (3, [.ref h1, .int h_len0, .int h_limit, .int h_pos, .int h_sort, .int h_start, .int h_val])), (h1, .inl (cI, 400, .inl h_tape0))]) hD hS hA [1, 2] rfl
  refine va_calli (va_runV (As := [.int p0, .int p1, .int p2, .int p3, .int p4]) (rest := []) ⟨hx, hb, hml, hown, hts⟩ (c_X3_append l dC dI cI cJ cB h h1 H.size h_len0 h_limit h_pos h_sort h_start h_val h_tape0 p0 p1 p2 p3 p4 (by first | assumption | omega | decide | (simp only [lt0, lt1, ltm1, lt400] at *; omega))) (cwV 5 hts go_wo_X9_feed_1 rfl rfl rfl (by decide +kernel) ⟨Nat.le_of_ble_eq_true rfl, Nat.le_of_ble_eq_true rfl⟩) ⟨fun a U g mk q => by obtain ⟨q0, q1, qN, qP, qK, qD⟩ := q; exact ⟨q0, q1, NW.calling qN, qP, va_K.moved (u := U) (U := U.calling g mk a) (Vm.Alike.refl U.vm) qK, qD⟩, va_recv hK hPc (ci := 3) (q0 := 0) rfl rfl, fun U hU hW => ⟨rfl, by rw [hU], NW.warm hW hnw, by rw [hU]; exact hPc, va_K.moved hW.alike hK, hDc.weaken (fun _ _ _ _ => trivial)⟩⟩ rfl rfl hl.1 rfl (lv_room (Nat.le_of_ble_eq_true rfl)) dX9_feed_11 ⟨Nat.zero_le _, Nat.zero_le _⟩) hS (fun q _ h => hFc q h) hFc (fun r_1 u t H1 locs ht hvm hw hB hz1 hk1 hS => ?_)
  obtain ⟨h_len_2, h_tape_3⟩ := u
  obtain ⟨hP1, hK1, hD1⟩ := hB
  rw [ht] at hP1
  have hw : ((380 < (h_len0).toInt → r_1 = -1 ∧ h_len_2 = h_len0) ∧ ((h_len0).toInt ≤ 380 → r_1 = h_len_2 ∧ (h_len_2).toInt = (h_len0).toInt + 20)) := hw
  have h_4 := hw
  obtain ⟨hP, hD⟩ := va_join (wr := [(xx, .inr (9, [.ref h, .ref ga, .ref gb, .ref ta, .ref rd, .ref rt, .ref rs, .ref rc, .ref sw, .ref ma, .ref sp, .ref se, .ref sf, .ref bi, .int xx_on, .int xx_fa]))]) (w1 := [(h, .inr (3, [.ref h1, .int h_len_2, .int h_limit, .int h_pos, .int h_sort, .int h_start, .int h_val])), (h1, .inl (cI, 400, .inl h_tape_3))]) hP hD [1, 2] [0] rfl rfl (by decide) (by decide) hk1 hFc hP1 hD1
  generalize H1 = H at hP hS ⊢
  have hP : va_P (dC, dI) vwCl [(xx, .inr (9, [.ref h, .ref ga, .ref gb, .ref ta, .ref rd, .ref rt, .ref rs, .ref rc, .ref sw, .ref ma, .ref sp, .ref se, .ref sf, .ref bi, .int xx_on, .int xx_fa])), (h, .inr (3, [.ref h1, .int h_len_2, .int h_limit, .int h_pos, .int h_sort, .int h_start, .int h_val])), (h1, .inl (cI, 400, .inl h_tape_3))] H := hP
  have hD : va_D (va_A (ww_X9_feed dC dI cI cJ cB xx h h1 ga gb ta rd rt rs rc sw ma sp se sf bi s.heap.size xx_on xx_fa h_len0 h_limit h_pos h_sort h_start h_val h_tape0 p0 p1 p2 p3 p4) s.heap.size) [(xx, .inr (9, [.ref h, .ref ga, .ref gb, .ref ta, .ref rd, .ref rt, .ref rs, .ref rc, .ref sw, .ref ma, .ref sp, .ref se, .ref sf, .ref bi, .int xx_on, .int xx_fa])), (h, .inr (3, [.ref h1, .int h_len_2, .int h_limit, .int h_pos, .int h_sort, .int h_start, .int h_val])), (h1, .inl (cI, 400, .inl h_tape_3))] := hD
  clear hPc hDc hFc hP1 hK1 hD1 hk1 hz1 ht hvm
  have hP9 := hP.sub (ws' := [(xx, .inr (9, [.ref h, .ref ga, .ref gb, .ref ta, .ref rd, .ref rt, .ref rs, .ref rc, .ref sw, .ref ma, .ref sp, .ref se, .ref sf, .ref bi, .int xx_on, .int xx_fa])), (h, .inr (3, [.ref h1, .int h_len_2, .int h_limit, .int h_pos, .int h_sort, .int h_start, .int h_val])), (h1, .inl (cI, 400, .inl h_tape_3))]) [0, 1, 2] rfl
  have hD9 := hD.sub (ws' := [(xx, .inr (9, [.ref h, .ref ga, .ref gb, .ref ta, .ref rd, .ref rt, .ref rs, .ref rc, .ref sw, .ref ma, .ref sp, .ref se, .ref sf, .ref bi, .int xx_on, .int xx_fa])), (h, .inr (3, [.ref h1, .int h_len_2, .int h_limit, .int h_pos, .int h_sort, .int h_start, .int h_val])), (h1, .inl (cI, 400, .inl h_tape_3))]) [0, 1, 2] (by decide) rfl
  have r9_0 : (380 < (h_len0).toInt → r_1 = -1 ∧ h_len_2 = h_len0) ∧ ((h_len0).toInt ≤ 380 → r_1 = h_len_2 ∧ (h_len_2).toInt = (h_len0).toInt + 20) := by assumption
  exact W.iret (v := r_1) hx hb hr (fun t ht hW => ⟨⟨r_1, (h_len_2, h_tape_3), rfl, r9_0, by rw [ht]; exact hP9, va_K.moved hW.alike hK, hD9⟩, hS.F ht⟩) hS.2.2 dX9_feed_14
def wo_X9_end : List Cond := .code yX9_end cX9_end 2 (some .boolean) :: (([.fieldLink RX9 10 "SumRewriter" "scanner" "LSumRewriter$Scanner;"] : List Cond) ++ ((wsX90) ++ ((wsV RX9 111 RX3 yX3_cut wo_X3_cut))))
set_option maxRecDepth 20000 in
theorem go_wo_X9_end_1 : GoodIn wo_X9_end (wsV RX9 111 RX3 yX3_cut wo_X3_cut) := goodIn_sub (fun _ h => (List.mem_cons_of_mem _ (List.mem_append_right _ (List.mem_append_right _ h)))) (by decide +kernel)
abbrev ww_X9_end (dC : Nat → ClassId) (dI : Nat → Nat → Nat) (cI cJ cB : ClassId) (xx h h1 ga gb ta rd rt rs rc sw ma sp se sf bi : Nat) (sz : Nat) (xx_on : Int32) (xx_fa : Int32) (h_len0 : Int32) (h_limit : Int32) (h_pos : Int32) (h_sort : Int32) (h_start : Int32) (h_val : Int32) (h_tape : Nat → Int32) (p0 : Int32) : va_W := [(xx, .inr (9, [.ref h, .ref ga, .ref gb, .ref ta, .ref rd, .ref rt, .ref rs, .ref rc, .ref sw, .ref ma, .ref sp, .ref se, .ref sf, .ref bi, .int xx_on, .int xx_fa])), (h, .inr (3, [.ref h1, .int h_len0, .int h_limit, .int h_pos, .int h_sort, .int h_start, .int h_val])), (h1, .inl (cI, 400, .inl h_tape))]
abbrev at_X9_end (dC : Nat → ClassId) (dI : Nat → Nat → Nat) (cI cJ cB : ClassId) (xx h h1 ga gb ta rd rt rs rc sw ma sp se sf bi : Nat) (sz : Nat) (xx_on : Int32) (xx_fa : Int32) (h_len0 : Int32) (h_limit : Int32) (h_pos : Int32) (h_sort : Int32) (h_start : Int32) (h_val : Int32) (h_tape : Nat → Int32) (p0 : Int32) (u : Int32) (t : State) : Prop := match u with
  | h_len => va_P (dC, dI) vwCl [(xx, .inr (9, [.ref h, .ref ga, .ref gb, .ref ta, .ref rd, .ref rt, .ref rs, .ref rc, .ref sw, .ref ma, .ref sp, .ref se, .ref sf, .ref bi, .int xx_on, .int xx_fa])), (h, .inr (3, [.ref h1, .int h_len, .int h_limit, .int h_pos, .int h_sort, .int h_start, .int h_val])), (h1, .inl (cI, 400, .inl h_tape))] t.heap ∧ va_K (dC, dI) vwCl (tyL cI cJ cB) t ∧ va_D (va_A (ww_X9_end dC dI cI cJ cB xx h h1 ga gb ta rd rt rs rc sw ma sp se sf bi sz xx_on xx_fa h_len0 h_limit h_pos h_sort h_start h_val h_tape p0) sz) [(xx, .inr (9, [.ref h, .ref ga, .ref gb, .ref ta, .ref rd, .ref rt, .ref rs, .ref rc, .ref sw, .ref ma, .ref sp, .ref se, .ref sf, .ref bi, .int xx_on, .int xx_fa])), (h, .inr (3, [.ref h1, .int h_len, .int h_limit, .int h_pos, .int h_sort, .int h_start, .int h_val])), (h1, .inl (cI, 400, .inl h_tape))]
abbrev qc_X9_end (dC : Nat → ClassId) (dI : Nat → Nat → Nat) (cI cJ cB : ClassId) (xx h h1 ga gb ta rd rt rs rc sw ma sp se sf bi : Nat) (sz : Nat) (xx_on : Int32) (xx_fa : Int32) (h_len0 : Int32) (h_limit : Int32) (h_pos : Int32) (h_sort : Int32) (h_start : Int32) (h_val : Int32) (h_tape : Nat → Int32) (p0 : Int32) : Array Value → State → Outcome → State → Prop := va_Qi (fun (r : Int32) (u : Int32) => match u with | h_len => ((0 ≤ p0.toInt ∧ p0.toInt ≤ h_len0.toInt → r = 1 ∧ h_len = p0) ∧ (¬ (0 ≤ p0.toInt ∧ p0.toInt ≤ h_len0.toInt) → r = 0 ∧ h_len = h_len0))) (at_X9_end dC dI cI cJ cB xx h h1 ga gb ta rd rt rs rc sw ma sp se sf bi sz xx_on xx_fa h_len0 h_limit h_pos h_sort h_start h_val h_tape p0) (va_A (ww_X9_end dC dI cI cJ cB xx h h1 ga gb ta rd rt rs rc sw ma sp se sf bi sz xx_on xx_fa h_len0 h_limit h_pos h_sort h_start h_val h_tape p0) sz)
abbrev pc_X9_end (dC : Nat → ClassId) (dI : Nat → Nat → Nat) (cI cJ cB : ClassId) (xx h h1 ga gb ta rd rt rs rc sw ma sp se sf bi : Nat) (sz : Nat) (xx_on : Int32) (xx_fa : Int32) (h_len0 : Int32) (h_limit : Int32) (h_pos : Int32) (h_sort : Int32) (h_start : Int32) (h_val : Int32) (h_tape : Nat → Int32) (p0 : Int32) : Array Value → State → Prop := va_Pc [.ref xx, .int p0] (fun U => U.heap.size = sz ∧ NW U ∧ va_P (dC, dI) vwCl (ww_X9_end dC dI cI cJ cB xx h h1 ga gb ta rd rt rs rc sw ma sp se sf bi sz xx_on xx_fa h_len0 h_limit h_pos h_sort h_start h_val h_tape p0) U.heap ∧ va_K (dC, dI) vwCl (tyL cI cJ cB) U ∧ va_D (fun _ => True) (ww_X9_end dC dI cI cJ cB xx h h1 ga gb ta rd rt rs rc sw ma sp se sf bi sz xx_on xx_fa h_len0 h_limit h_pos h_sort h_start h_val h_tape p0))
abbrev rm_X9_end : Room := { frames := 1, cells := 0, slots := 0, locals := 21 }
abbrev WW_X9_end (p : Program) (l : Launch) (e : Env) (s : State) (m : MethodId) (below : List Frame) (meth : Method) (c : Code) (dC : Nat → ClassId) (dI : Nat → Nat → Nat) (cI cJ cB : ClassId) (xx h h1 ga gb ta rd rt rs rc sw ma sp se sf bi : Nat) (sz : Nat) (xx_on : Int32) (xx_fa : Int32) (h_len0 : Int32) (h_limit : Int32) (h_pos : Int32) (h_sort : Int32) (h_start : Int32) (h_val : Int32) (h_tape : Nat → Int32) (p0 : Int32) (H : Heap) (locs : List Loc) (g : JFrame) : Prop := W p l e rm_X9_end s m ([.ref xx, .int p0] : List Value).toArray below meth c H locs 0 0 (MQ below (qc_X9_end dC dI cI cJ cB xx h h1 ga gb ta rd rt rs rc sw ma sp se sf bi sz xx_on xx_fa h_len0 h_limit h_pos h_sort h_start h_val h_tape p0) ([.ref xx, .int p0] : List Value).toArray s 0 0 (va_A (ww_X9_end dC dI cI cJ cB xx h h1 ga gb ta rd rt rs rc sw ma sp se sf bi sz xx_on xx_fa h_len0 h_limit h_pos h_sort h_start h_val h_tape p0) sz)) g
set_option maxHeartbeats 4000000 in
set_option maxRecDepth 100000 in
theorem c_X9_end (l : Launch) (dC : Nat → ClassId) (dI : Nat → Nat → Nat) (cI cJ cB : ClassId) (xx h h1 ga gb ta rd rt rs rc sw ma sp se sf bi : Nat) (sz : Nat) (xx_on : Int32) (xx_fa : Int32) (h_len0 : Int32) (h_limit : Int32) (h_pos : Int32) (h_sort : Int32) (h_start : Int32) (h_val : Int32) (h_tape : Nat → Int32) (p0 : Int32) : Met l yX9_end wo_X9_end rm_X9_end (pc_X9_end dC dI cI cJ cB xx h h1 ga gb ta rd rt rs rc sw ma sp se sf bi sz xx_on xx_fa h_len0 h_limit h_pos h_sort h_start h_val h_tape p0) (qc_X9_end dC dI cI cJ cB xx h h1 ga gb ta rd rt rs rc sw ma sp se sf bi sz xx_on xx_fa h_len0 h_limit h_pos h_sort h_start h_val h_tape p0) 0 0 (va_A (ww_X9_end dC dI cI cJ cB xx h h1 ga gb ta rd rt rs rc sw ma sp se sf bi sz xx_on xx_fa h_len0 h_limit h_pos h_sort h_start h_val h_tape p0) sz) := by
  refine Met.ofW (cc := cX9_end) (maxL := 2) (ret := (some .boolean)) (by decide) rfl ?_
  intro p e s m args below meth c s₁ B hml hv
  obtain ⟨rfl, hsz, hnw, hP, hK, hD0⟩ := hv
  have hx := B.exec
  have hb := B.bytes
  have hr := B.returns
  have hts := atoms_spec (ws := wo_X9_end) B.pre
  have hown : s.vm.findClass RX9 = some m.cls := findClass_of_methodNamed B.named
  have hlocks := B.notSynchronized
  clear B
  subst hsz
  have hD := hD0.self (sz := s.heap.size)
  clear hD0
  have kk0_ := hts (.fieldLink RX9 10 "SumRewriter" "scanner" "LSumRewriter$Scanner;") (by decide +kernel)
  have kk1_ : ∀ w ∈ wsX90, w ∈ wo_X9_end := fun _ h => (List.mem_cons_of_mem _ (List.mem_append_right _ (List.mem_append_left _ h)))
  have hA : ∀ q : Nat, s.heap.size ≤ q → (va_A (ww_X9_end dC dI cI cJ cB xx h h1 ga gb ta rd rt rs rc sw ma sp se sf bi s.heap.size xx_on xx_fa h_len0 h_limit h_pos h_sort h_start h_val h_tape p0) s.heap.size) q := fun q h => Or.inr h
  have hS : va_S (va_A (ww_X9_end dC dI cI cJ cB xx h h1 ga gb ta rd rt rs rc sw ma sp se sf bi s.heap.size xx_on xx_fa h_len0 h_limit h_pos h_sort h_start h_val h_tape p0) s.heap.size) s.heap s.heap [] := va_S.rf
  have hl := lv_entry ([.ref xx, .int p0]) (n := 2) (Nat.le_of_ble_eq_true rfl)
  rw [lg_entry_eq]
  generalize (lg_sl ([.ref xx, .int p0]) ++ List.replicate (2 - (lg_sl ([.ref xx, .int p0])).length) Slot.unset).toArray = ls at hl ⊢
  have hl : lv_has ls 2 [(0, .ref xx), (1, .int p0)] := hl
  have hP : va_P (dC, dI) vwCl [(xx, .inr (9, [.ref h, .ref ga, .ref gb, .ref ta, .ref rd, .ref rt, .ref rs, .ref rc, .ref sw, .ref ma, .ref sp, .ref se, .ref sf, .ref bi, .int xx_on, .int xx_fa])), (h, .inr (3, [.ref h1, .int h_len0, .int h_limit, .int h_pos, .int h_sort, .int h_start, .int h_val])), (h1, .inl (cI, 400, .inl h_tape))] s.heap := hP
  have hD : va_D (va_A (ww_X9_end dC dI cI cJ cB xx h h1 ga gb ta rd rt rs rc sw ma sp se sf bi s.heap.size xx_on xx_fa h_len0 h_limit h_pos h_sort h_start h_val h_tape p0) s.heap.size) [(xx, .inr (9, [.ref h, .ref ga, .ref gb, .ref ta, .ref rd, .ref rt, .ref rs, .ref rc, .ref sw, .ref ma, .ref sp, .ref se, .ref sf, .ref bi, .int xx_on, .int xx_fa])), (h, .inr (3, [.ref h1, .int h_len0, .int h_limit, .int h_pos, .int h_sort, .int h_start, .int h_val])), (h1, .inl (cI, 400, .inl h_tape))] := hD
  obtain ⟨H, hH⟩ : ∃ H, H = s.heap := ⟨_, rfl⟩
  obtain ⟨locs, hlc⟩ : ∃ L : List Loc, L = [] := ⟨_, rfl⟩
  have hS : va_S (va_A (ww_X9_end dC dI cI cJ cB xx h h1 ga gb ta rd rt rs rc sw ma sp se sf bi s.heap.size xx_on xx_fa h_len0 h_limit h_pos h_sort h_start h_val h_tape p0) s.heap.size) s.heap H locs := by rw [hH, hlc]; exact hS
  have hP : va_P (dC, dI) vwCl [(xx, .inr (9, [.ref h, .ref ga, .ref gb, .ref ta, .ref rd, .ref rt, .ref rs, .ref rc, .ref sw, .ref ma, .ref sp, .ref se, .ref sf, .ref bi, .int xx_on, .int xx_fa])), (h, .inr (3, [.ref h1, .int h_len0, .int h_limit, .int h_pos, .int h_sort, .int h_start, .int h_val])), (h1, .inl (cI, 400, .inl h_tape))] H := by rw [hH]; exact hP
  suffices hgo : WW_X9_end p l e s m below meth c dC dI cI cJ cB xx h h1 ga gb ta rd rt rs rc sw ma sp se sf bi s.heap.size xx_on xx_fa h_len0 h_limit h_pos h_sort h_start h_val h_tape p0 H locs (F0 m 0 ls []) by rw [hH, hlc] at hgo; exact hgo
  clear hH hlc
  refine lv_aload_n hx hb dX9_end_0 rfl (lv_at hl 0 rfl) ?_
  refine va_get (D := (dC, dI)) (ci := 9) (v := .ref h) (C := RX9) (T := TX9) (N := 16) hx hb hts kk1_ hown hK hP 0 rfl rfl 0 (by decide) kk0_ (fun _ h9 => h9) rfl dX9_end_1 ?_
  refine lv_iload_n hx hb dX9_end_4 rfl (lv_at hl 1 rfl) ?_
  have hPc := hP.sub (ws' := [(h, .inr (3, [.ref h1, .int h_len0, .int h_limit, .int h_pos, .int h_sort, .int h_start, .int h_val])), (h1, .inl (cI, 400, .inl h_tape))]) [1, 2] rfl
  have hDc := hD.sub (ws' := [(h, .inr (3, [.ref h1, .int h_len0, .int h_limit, .int h_pos, .int h_sort, .int h_start, .int h_val])), (h1, .inl (cI, 400, .inl h_tape))]) [1, 2] (by decide) rfl
  have hFc := va_free (wc := [(h, .inr (3, [.ref h1, .int h_len0, .int h_limit, .int h_pos, .int h_sort, .int h_start, .int h_val])), (h1, .inl (cI, 400, .inl h_tape))]) hD hS hA [1, 2] rfl
  refine va_calli (va_runV (As := [.int p0]) (rest := []) ⟨hx, hb, hml, hown, hts⟩ (c_X3_cut l dC dI cI cJ cB h h1 H.size h_len0 h_limit h_pos h_sort h_start h_val h_tape p0) (cwV 1 hts go_wo_X9_end_1 rfl rfl rfl (by decide +kernel) ⟨Nat.le_of_ble_eq_true rfl, Nat.le_of_ble_eq_true rfl⟩) ⟨fun a U g mk q => by obtain ⟨q0, q1, qN, qP, qK, qD⟩ := q; exact ⟨q0, q1, NW.calling qN, qP, va_K.moved (u := U) (U := U.calling g mk a) (Vm.Alike.refl U.vm) qK, qD⟩, va_recv hK hPc (ci := 3) (q0 := 0) rfl rfl, fun U hU hW => ⟨rfl, by rw [hU], NW.warm hW hnw, by rw [hU]; exact hPc, va_K.moved hW.alike hK, hDc.weaken (fun _ _ _ _ => trivial)⟩⟩ rfl rfl hl.1 rfl (lv_room (Nat.le_of_ble_eq_true rfl)) dX9_end_5 ⟨Nat.zero_le _, Nat.zero_le _⟩) hS (fun q _ h => hFc q h) hFc (fun r_1 u t H1 locs ht hvm hw hB hz1 hk1 hS => ?_)
  obtain ⟨h_len_2, rfl⟩ : ∃ z, z = u := ⟨_, rfl⟩
  obtain ⟨hP1, hK1, hD1⟩ := hB
  rw [ht] at hP1
  have hw : ((0 ≤ p0.toInt ∧ p0.toInt ≤ h_len0.toInt → r_1 = 1 ∧ h_len_2 = p0) ∧ (¬ (0 ≤ p0.toInt ∧ p0.toInt ≤ h_len0.toInt) → r_1 = 0 ∧ h_len_2 = h_len0)) := hw
  have h_3 := hw
  obtain ⟨hP, hD⟩ := va_join (wr := [(xx, .inr (9, [.ref h, .ref ga, .ref gb, .ref ta, .ref rd, .ref rt, .ref rs, .ref rc, .ref sw, .ref ma, .ref sp, .ref se, .ref sf, .ref bi, .int xx_on, .int xx_fa]))]) (w1 := [(h, .inr (3, [.ref h1, .int h_len_2, .int h_limit, .int h_pos, .int h_sort, .int h_start, .int h_val])), (h1, .inl (cI, 400, .inl h_tape))]) hP hD [1, 2] [0] rfl rfl (by decide) (by decide) hk1 hFc hP1 hD1
  generalize H1 = H at hP hS ⊢
  have hP : va_P (dC, dI) vwCl [(xx, .inr (9, [.ref h, .ref ga, .ref gb, .ref ta, .ref rd, .ref rt, .ref rs, .ref rc, .ref sw, .ref ma, .ref sp, .ref se, .ref sf, .ref bi, .int xx_on, .int xx_fa])), (h, .inr (3, [.ref h1, .int h_len_2, .int h_limit, .int h_pos, .int h_sort, .int h_start, .int h_val])), (h1, .inl (cI, 400, .inl h_tape))] H := hP
  have hD : va_D (va_A (ww_X9_end dC dI cI cJ cB xx h h1 ga gb ta rd rt rs rc sw ma sp se sf bi s.heap.size xx_on xx_fa h_len0 h_limit h_pos h_sort h_start h_val h_tape p0) s.heap.size) [(xx, .inr (9, [.ref h, .ref ga, .ref gb, .ref ta, .ref rd, .ref rt, .ref rs, .ref rc, .ref sw, .ref ma, .ref sp, .ref se, .ref sf, .ref bi, .int xx_on, .int xx_fa])), (h, .inr (3, [.ref h1, .int h_len_2, .int h_limit, .int h_pos, .int h_sort, .int h_start, .int h_val])), (h1, .inl (cI, 400, .inl h_tape))] := hD
  clear hPc hDc hFc hP1 hK1 hD1 hk1 hz1 ht hvm
  have hP9 := hP.sub (ws' := [(xx, .inr (9, [.ref h, .ref ga, .ref gb, .ref ta, .ref rd, .ref rt, .ref rs, .ref rc, .ref sw, .ref ma, .ref sp, .ref se, .ref sf, .ref bi, .int xx_on, .int xx_fa])), (h, .inr (3, [.ref h1, .int h_len_2, .int h_limit, .int h_pos, .int h_sort, .int h_start, .int h_val])), (h1, .inl (cI, 400, .inl h_tape))]) [0, 1, 2] rfl
  have hD9 := hD.sub (ws' := [(xx, .inr (9, [.ref h, .ref ga, .ref gb, .ref ta, .ref rd, .ref rt, .ref rs, .ref rc, .ref sw, .ref ma, .ref sp, .ref se, .ref sf, .ref bi, .int xx_on, .int xx_fa])), (h, .inr (3, [.ref h1, .int h_len_2, .int h_limit, .int h_pos, .int h_sort, .int h_start, .int h_val])), (h1, .inl (cI, 400, .inl h_tape))]) [0, 1, 2] (by decide) rfl
  have r9_0 : (0 ≤ p0.toInt ∧ p0.toInt ≤ h_len0.toInt → r_1 = 1 ∧ h_len_2 = p0) ∧ (¬ (0 ≤ p0.toInt ∧ p0.toInt ≤ h_len0.toInt) → r_1 = 0 ∧ h_len_2 = h_len0) := by assumption
  exact W.zret (v := r_1) hx hb hr (nar_bool (by by_cases q9 : (0 ≤ p0.toInt ∧ p0.toInt ≤ h_len0.toInt); exact Or.inr (r9_0.1 q9).1; exact Or.inl (r9_0.2 q9).1)) (fun t ht hW => ⟨⟨r_1, h_len_2, rfl, r9_0, by rw [ht]; exact hP9, va_K.moved hW.alike hK, hD9⟩, hS.F ht⟩) hS.2.2 dX9_end_8
