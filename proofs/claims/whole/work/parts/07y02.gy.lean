def wo_X2_comparey : List Cond := .code yX2_compare cX2_compare 9 (some .int) :: (([] : List Cond) ++ ((va_wsS RX2 53 yJ6_compare_7cf53 wo_J6_compare_7cf53y) ++ ((wsV RX2 46 RX2 yX2_cellAt wo_X2_cellAty) ++ ((wsV RX2 34 RX2 yX2_lengthOf wo_X2_lengthOfy)))))
set_option maxRecDepth 20000 in
theorem go_wo_X2_comparey_0 : GoodIn wo_X2_comparey (va_wsS RX2 53 yJ6_compare_7cf53 wo_J6_compare_7cf53y) := goodIn_sub (fun _ h => (List.mem_cons_of_mem _ (List.mem_append_right _ (List.mem_append_left _ h)))) (by decide +kernel)
set_option maxRecDepth 20000 in
theorem go_wo_X2_comparey_1 : GoodIn wo_X2_comparey (wsV RX2 46 RX2 yX2_cellAt wo_X2_cellAty) := goodIn_sub (fun _ h => (List.mem_cons_of_mem _ (List.mem_append_right _ (List.mem_append_right _ (List.mem_append_left _ h))))) (by decide +kernel)
set_option maxRecDepth 20000 in
theorem go_wo_X2_comparey_2 : GoodIn wo_X2_comparey (wsV RX2 34 RX2 yX2_lengthOf wo_X2_lengthOfy) := goodIn_sub (fun _ h => (List.mem_cons_of_mem _ (List.mem_append_right _ (List.mem_append_right _ (List.mem_append_right _ h))))) (by decide +kernel)
abbrev ww_X2_comparey (dC : Nat → ClassId) (dI : Nat → Nat → Nat) (cI cJ cB : ClassId) (ra ra1 ra2 ra3 rb rb1 rb2 rb3 : Nat) (sz : Nat) (ra_n : Nat) (v_ra : Nat → Nat → Int32) (rb_n : Nat) (v_rb : Nat → Nat → Int32) (p0 : Int32) (p1 : Int32) (n9 : Nat) (r1 : Int32) : va_W := [(ra, .inr (2, [.ref ra1, .ref ra2, .ref ra3, .int (v_ra 0 0)])), (ra1, .inl (cI, ra_n * 20, .inl (v_ra 1))), (ra2, .inl (cI, ra_n, .inl (v_ra 2))), (ra3, .inl (cI, 21, .inl (v_ra 3))), (rb, .inr (2, [.ref rb1, .ref rb2, .ref rb3, .int (v_rb 0 0)])), (rb1, .inl (cI, rb_n * 20, .inl (v_rb 1))), (rb2, .inl (cI, rb_n, .inl (v_rb 2))), (rb3, .inl (cI, 21, .inl (v_rb 3)))]
abbrev at_X2_comparey (dC : Nat → ClassId) (dI : Nat → Nat → Nat) (cI cJ cB : ClassId) (ra ra1 ra2 ra3 rb rb1 rb2 rb3 : Nat) (sz : Nat) (ra_n : Nat) (v_ra : Nat → Nat → Int32) (rb_n : Nat) (v_rb : Nat → Nat → Int32) (p0 : Int32) (p1 : Int32) (n9 : Nat) (r1 : Int32) (u : Unit) (t : State) : Prop := match u with
  | () => va_P (dC, dI) vwCl [(ra, .inr (2, [.ref ra1, .ref ra2, .ref ra3, .int (v_ra 0 0)])), (ra1, .inl (cI, ra_n * 20, .inl (v_ra 1))), (ra2, .inl (cI, ra_n, .inl (v_ra 2))), (ra3, .inl (cI, 21, .inl (v_ra 3))), (rb, .inr (2, [.ref rb1, .ref rb2, .ref rb3, .int (v_rb 0 0)])), (rb1, .inl (cI, rb_n * 20, .inl (v_rb 1))), (rb2, .inl (cI, rb_n, .inl (v_rb 2))), (rb3, .inl (cI, 21, .inl (v_rb 3)))] t.heap ∧ va_K (dC, dI) vwCl (tyL cI cJ cB) t ∧ va_D (va_A (ww_X2_comparey dC dI cI cJ cB ra ra1 ra2 ra3 rb rb1 rb2 rb3 sz ra_n v_ra rb_n v_rb p0 p1 n9 r1) sz) [(ra, .inr (2, [.ref ra1, .ref ra2, .ref ra3, .int (v_ra 0 0)])), (ra1, .inl (cI, ra_n * 20, .inl (v_ra 1))), (ra2, .inl (cI, ra_n, .inl (v_ra 2))), (ra3, .inl (cI, 21, .inl (v_ra 3))), (rb, .inr (2, [.ref rb1, .ref rb2, .ref rb3, .int (v_rb 0 0)])), (rb1, .inl (cI, rb_n * 20, .inl (v_rb 1))), (rb2, .inl (cI, rb_n, .inl (v_rb 2))), (rb3, .inl (cI, 21, .inl (v_rb 3)))]
abbrev qc_X2_comparey (dC : Nat → ClassId) (dI : Nat → Nat → Nat) (cI cJ cB : ClassId) (ra ra1 ra2 ra3 rb rb1 rb2 rb3 : Nat) (sz : Nat) (ra_n : Nat) (v_ra : Nat → Nat → Int32) (rb_n : Nat) (v_rb : Nat → Nat → Int32) (p0 : Int32) (p1 : Int32) (n9 : Nat) (r1 : Int32) : Array Value → State → Outcome → State → Prop := va_Qi (fun (r : Int32) (u : Unit) => match u with | () => (r = r1)) (at_X2_comparey dC dI cI cJ cB ra ra1 ra2 ra3 rb rb1 rb2 rb3 sz ra_n v_ra rb_n v_rb p0 p1 n9 r1) (va_A (ww_X2_comparey dC dI cI cJ cB ra ra1 ra2 ra3 rb rb1 rb2 rb3 sz ra_n v_ra rb_n v_rb p0 p1 n9 r1) sz)
abbrev pc_X2_comparey (dC : Nat → ClassId) (dI : Nat → Nat → Nat) (cI cJ cB : ClassId) (ra ra1 ra2 ra3 rb rb1 rb2 rb3 : Nat) (sz : Nat) (ra_n : Nat) (v_ra : Nat → Nat → Int32) (rb_n : Nat) (v_rb : Nat → Nat → Int32) (p0 : Int32) (p1 : Int32) (n9 : Nat) (r1 : Int32) : Array Value → State → Prop := va_Pc [.ref ra, .int p0, .ref rb, .int p1] (fun U => U.heap.size = sz ∧ NW U ∧ va_P (dC, dI) vwCl (ww_X2_comparey dC dI cI cJ cB ra ra1 ra2 ra3 rb rb1 rb2 rb3 sz ra_n v_ra rb_n v_rb p0 p1 n9 r1) U.heap ∧ va_K (dC, dI) vwCl (tyL cI cJ cB) U ∧ va_D (fun _ => True) (ww_X2_comparey dC dI cI cJ cB ra ra1 ra2 ra3 rb rb1 rb2 rb3 sz ra_n v_ra rb_n v_rb p0 p1 n9 r1))
abbrev rm_X2_comparey : Room := { frames := 1, cells := 0, slots := 0, locals := 23 }
abbrev WW_X2_comparey (p : Program) (l : Launch) (e : Env) (s : State) (m : MethodId) (below : List Frame) (meth : Method) (c : Code) (dC : Nat → ClassId) (dI : Nat → Nat → Nat) (cI cJ cB : ClassId) (ra ra1 ra2 ra3 rb rb1 rb2 rb3 : Nat) (sz : Nat) (ra_n : Nat) (v_ra : Nat → Nat → Int32) (rb_n : Nat) (v_rb : Nat → Nat → Int32) (p0 : Int32) (p1 : Int32) (n9 : Nat) (r1 : Int32) (H : Heap) (locs : List Loc) (g : JFrame) : Prop := W p l e rm_X2_comparey s m ([.ref ra, .int p0, .ref rb, .int p1] : List Value).toArray below meth c H locs 0 0 (MQ below (qc_X2_comparey dC dI cI cJ cB ra ra1 ra2 ra3 rb rb1 rb2 rb3 sz ra_n v_ra rb_n v_rb p0 p1 n9 r1) ([.ref ra, .int p0, .ref rb, .int p1] : List Value).toArray s 0 0 (va_A (ww_X2_comparey dC dI cI cJ cB ra ra1 ra2 ra3 rb rb1 rb2 rb3 sz ra_n v_ra rb_n v_rb p0 p1 n9 r1) sz)) g
set_option maxHeartbeats 4000000 in
set_option maxRecDepth 100000 in
theorem c_X2_comparey (l : Launch) (dC : Nat → ClassId) (dI : Nat → Nat → Nat) (cI cJ cB : ClassId) (ra ra1 ra2 ra3 rb rb1 rb2 rb3 : Nat) (sz : Nat) (ra_n : Nat) (v_ra : Nat → Nat → Int32) (rb_n : Nat) (v_rb : Nat → Nat → Int32) (p0 : Int32) (p1 : Int32) (n9 : Nat) (r1 : Int32) (hf : fx_X2_compare n9 ra_n v_ra rb_n v_rb p0 p1 = some (r1)) : Met l yX2_compare wo_X2_comparey rm_X2_comparey (pc_X2_comparey dC dI cI cJ cB ra ra1 ra2 ra3 rb rb1 rb2 rb3 sz ra_n v_ra rb_n v_rb p0 p1 n9 r1) (qc_X2_comparey dC dI cI cJ cB ra ra1 ra2 ra3 rb rb1 rb2 rb3 sz ra_n v_ra rb_n v_rb p0 p1 n9 r1) 0 0 (va_A (ww_X2_comparey dC dI cI cJ cB ra ra1 ra2 ra3 rb rb1 rb2 rb3 sz ra_n v_ra rb_n v_rb p0 p1 n9 r1) sz) := by
  unfold fx_X2_compare at hf
  refine Met.ofW (cc := cX2_compare) (maxL := 9) (ret := (some .int)) (by decide) rfl ?_
  intro p e s m args below meth c s₁ B hml hv
  obtain ⟨rfl, hsz, hnw, hP, hK, hD0⟩ := hv
  have hx := B.exec
  have hb := B.bytes
  have hr := B.returns
  have hts := atoms_spec (ws := wo_X2_comparey) B.pre
  have hown : s.vm.findClass RX2 = some m.cls := findClass_of_methodNamed B.named
  have hlocks := B.notSynchronized
  clear B
  subst hsz
  have hD := hD0.self (sz := s.heap.size)
  clear hD0
  have hA : ∀ q : Nat, s.heap.size ≤ q → (va_A (ww_X2_comparey dC dI cI cJ cB ra ra1 ra2 ra3 rb rb1 rb2 rb3 s.heap.size ra_n v_ra rb_n v_rb p0 p1 n9 r1) s.heap.size) q := fun q h => Or.inr h
  have hS : va_S (va_A (ww_X2_comparey dC dI cI cJ cB ra ra1 ra2 ra3 rb rb1 rb2 rb3 s.heap.size ra_n v_ra rb_n v_rb p0 p1 n9 r1) s.heap.size) s.heap s.heap [] := va_S.rf
  have hl := lv_entry ([.ref ra, .int p0, .ref rb, .int p1]) (n := 9) (Nat.le_of_ble_eq_true rfl)
  rw [lg_entry_eq]
  generalize (lg_sl ([.ref ra, .int p0, .ref rb, .int p1]) ++ List.replicate (9 - (lg_sl ([.ref ra, .int p0, .ref rb, .int p1])).length) Slot.unset).toArray = ls at hl ⊢
  have hl : lv_has ls 9 [(0, .ref ra), (1, .int p0), (2, .ref rb), (3, .int p1)] := hl
  have hP : va_P (dC, dI) vwCl [(ra, .inr (2, [.ref ra1, .ref ra2, .ref ra3, .int (v_ra 0 0)])), (ra1, .inl (cI, ra_n * 20, .inl (v_ra 1))), (ra2, .inl (cI, ra_n, .inl (v_ra 2))), (ra3, .inl (cI, 21, .inl (v_ra 3))), (rb, .inr (2, [.ref rb1, .ref rb2, .ref rb3, .int (v_rb 0 0)])), (rb1, .inl (cI, rb_n * 20, .inl (v_rb 1))), (rb2, .inl (cI, rb_n, .inl (v_rb 2))), (rb3, .inl (cI, 21, .inl (v_rb 3)))] s.heap := hP
  have hD : va_D (va_A (ww_X2_comparey dC dI cI cJ cB ra ra1 ra2 ra3 rb rb1 rb2 rb3 s.heap.size ra_n v_ra rb_n v_rb p0 p1 n9 r1) s.heap.size) [(ra, .inr (2, [.ref ra1, .ref ra2, .ref ra3, .int (v_ra 0 0)])), (ra1, .inl (cI, ra_n * 20, .inl (v_ra 1))), (ra2, .inl (cI, ra_n, .inl (v_ra 2))), (ra3, .inl (cI, 21, .inl (v_ra 3))), (rb, .inr (2, [.ref rb1, .ref rb2, .ref rb3, .int (v_rb 0 0)])), (rb1, .inl (cI, rb_n * 20, .inl (v_rb 1))), (rb2, .inl (cI, rb_n, .inl (v_rb 2))), (rb3, .inl (cI, 21, .inl (v_rb 3)))] := hD
  obtain ⟨H, hH⟩ : ∃ H, H = s.heap := ⟨_, rfl⟩
  obtain ⟨locs, hlc⟩ : ∃ L : List Loc, L = [] := ⟨_, rfl⟩
  have hS : va_S (va_A (ww_X2_comparey dC dI cI cJ cB ra ra1 ra2 ra3 rb rb1 rb2 rb3 s.heap.size ra_n v_ra rb_n v_rb p0 p1 n9 r1) s.heap.size) s.heap H locs := by rw [hH, hlc]; exact hS
  have hP : va_P (dC, dI) vwCl [(ra, .inr (2, [.ref ra1, .ref ra2, .ref ra3, .int (v_ra 0 0)])), (ra1, .inl (cI, ra_n * 20, .inl (v_ra 1))), (ra2, .inl (cI, ra_n, .inl (v_ra 2))), (ra3, .inl (cI, 21, .inl (v_ra 3))), (rb, .inr (2, [.ref rb1, .ref rb2, .ref rb3, .int (v_rb 0 0)])), (rb1, .inl (cI, rb_n * 20, .inl (v_rb 1))), (rb2, .inl (cI, rb_n, .inl (v_rb 2))), (rb3, .inl (cI, 21, .inl (v_rb 3)))] H := by rw [hH]; exact hP
  suffices hgo : WW_X2_comparey p l e s m below meth c dC dI cI cJ cB ra ra1 ra2 ra3 rb rb1 rb2 rb3 s.heap.size ra_n v_ra rb_n v_rb p0 p1 n9 r1 H locs (F0 m 0 ls []) by rw [hH, hlc] at hgo; exact hgo
  clear hH hlc
  have L_17 : ∀ (N_17 : Nat), ∀ (x4 : Int32) (x5 : Int32) (x6 : Int32), lx_X2_compare_17 n9 ra_n v_ra rb_n v_rb p0 p1 N_17 x4 x5 x6 = some (r1) → ∀ (H : Heap) (locs : List Loc), va_P (dC, dI) vwCl [(ra, .inr (2, [.ref ra1, .ref ra2, .ref ra3, .int (v_ra 0 0)])), (ra1, .inl (cI, ra_n * 20, .inl (v_ra 1))), (ra2, .inl (cI, ra_n, .inl (v_ra 2))), (ra3, .inl (cI, 21, .inl (v_ra 3))), (rb, .inr (2, [.ref rb1, .ref rb2, .ref rb3, .int (v_rb 0 0)])), (rb1, .inl (cI, rb_n * 20, .inl (v_rb 1))), (rb2, .inl (cI, rb_n, .inl (v_rb 2))), (rb3, .inl (cI, 21, .inl (v_rb 3)))] H → va_D (va_A (ww_X2_comparey dC dI cI cJ cB ra ra1 ra2 ra3 rb rb1 rb2 rb3 s.heap.size ra_n v_ra rb_n v_rb p0 p1 n9 r1) s.heap.size) [(ra, .inr (2, [.ref ra1, .ref ra2, .ref ra3, .int (v_ra 0 0)])), (ra1, .inl (cI, ra_n * 20, .inl (v_ra 1))), (ra2, .inl (cI, ra_n, .inl (v_ra 2))), (ra3, .inl (cI, 21, .inl (v_ra 3))), (rb, .inr (2, [.ref rb1, .ref rb2, .ref rb3, .int (v_rb 0 0)])), (rb1, .inl (cI, rb_n * 20, .inl (v_rb 1))), (rb2, .inl (cI, rb_n, .inl (v_rb 2))), (rb3, .inl (cI, 21, .inl (v_rb 3)))] → va_S (va_A (ww_X2_comparey dC dI cI cJ cB ra ra1 ra2 ra3 rb rb1 rb2 rb3 s.heap.size ra_n v_ra rb_n v_rb p0 p1 n9 r1) s.heap.size) s.heap H locs → ∀ ls : Array Slot, lv_has ls 9 [(0, .ref ra), (1, .int p0), (2, .ref rb), (3, .int p1), (4, .int x4), (5, .int x5), (6, .int x6)] → WW_X2_comparey p l e s m below meth c dC dI cI cJ cB ra ra1 ra2 ra3 rb rb1 rb2 rb3 s.heap.size ra_n v_ra rb_n v_rb p0 p1 n9 r1 H locs (F0 m 17 ls []) := by
    intro N_17
    induction N_17 with
    | zero => intro x4 x5 x6 hf; exact xn_to hf
    | succ N_17 ih_17 =>
      intro x4 x5 x6 hf H locs hP hD hS ls hl
      replace hf : bx_X2_compare_17 n9 ra_n v_ra rb_n v_rb p0 p1 (lx_X2_compare_17 n9 ra_n v_ra rb_n v_rb p0 p1 N_17) x4 x5 x6 = some (r1) := hf
      generalize lx_X2_compare_17 n9 ra_n v_ra rb_n v_rb p0 p1 N_17 = k_17 at hf ih_17
      unfold bx_X2_compare_17 at hf
      refine lv_iload hx hb dX2_compare_17 (lv_at hl 6 rfl) ?_
      refine lv_iload hx hb dX2_compare_19 (lv_at hl 4 rfl) ?_
      refine lv_icmp_ge (tgt := 75) hx hb dX2_compare_21 (by decide) (fun c_1 => ?_) (fun c_1 => ?_)
      · replace hf := xi_t c_1 hf
        refine lv_iload hx hb dX2_compare_75 (lv_at hl 4 rfl) ?_
        refine lv_iload hx hb dX2_compare_77 (lv_at hl 5 rfl) ?_
        replace hf := xb1_to hf
        obtain ⟨o_2, g_3, hf⟩ := hf
        have hPc := hP.sub (ws' := []) [] rfl
        have hDc := hD.sub (ws' := []) [] (by decide) rfl
        have hFc := va_free (wc := []) hD hS hA [] rfl
        refine va_calli (va_runS (As := [.int x4, .int x5]) (rest := []) ⟨hx, hb, hml, hown, hts⟩ (c_J6_compare_7cf53y l dC dI cI cJ cB  H.size x4 x5 n9 o_2 g_3) (va_cwS 2 hts go_wo_X2_comparey_0 rfl rfl rfl (by decide +kernel) ⟨Nat.le_of_ble_eq_true rfl, Nat.le_of_ble_eq_true rfl⟩) ⟨fun a U g mk q => by obtain ⟨q0, q1, qN, qP, qK, qD⟩ := q; exact ⟨q0, q1, NW.calling qN, qP, va_K.moved (u := U) (U := U.calling g mk a) (Vm.Alike.refl U.vm) qK, qD⟩, fun U hU hW => ⟨rfl, by rw [hU], NW.warm hW hnw, by rw [hU]; exact hPc, va_K.moved hW.alike hK, hDc.weaken (fun _ _ _ _ => trivial)⟩⟩ rfl rfl hl.1 rfl (lv_room (Nat.le_of_ble_eq_true rfl)) dX2_compare_79 ⟨Nat.zero_le _, Nat.zero_le _⟩) hS (fun q _ h => hFc q h) hFc (fun r_4 u t H1 locs ht hvm hw hB hz1 hk1 hS => ?_)
        cases u
        obtain ⟨hP1, hK1, hD1⟩ := hB
        rw [ht] at hP1
        have hw : (r_4 = o_2) := hw
        subst hw
        obtain ⟨hP, hD⟩ := va_join (wr := [(ra, .inr (2, [.ref ra1, .ref ra2, .ref ra3, .int (v_ra 0 0)])), (ra1, .inl (cI, ra_n * 20, .inl (v_ra 1))), (ra2, .inl (cI, ra_n, .inl (v_ra 2))), (ra3, .inl (cI, 21, .inl (v_ra 3))), (rb, .inr (2, [.ref rb1, .ref rb2, .ref rb3, .int (v_rb 0 0)])), (rb1, .inl (cI, rb_n * 20, .inl (v_rb 1))), (rb2, .inl (cI, rb_n, .inl (v_rb 2))), (rb3, .inl (cI, 21, .inl (v_rb 3)))]) (w1 := []) hP hD [] [0, 1, 2, 3, 4, 5, 6, 7] rfl rfl (by decide) (by decide) hk1 hFc hP1 hD1
        generalize H1 = H at hP hS ⊢
        have hP : va_P (dC, dI) vwCl [(ra, .inr (2, [.ref ra1, .ref ra2, .ref ra3, .int (v_ra 0 0)])), (ra1, .inl (cI, ra_n * 20, .inl (v_ra 1))), (ra2, .inl (cI, ra_n, .inl (v_ra 2))), (ra3, .inl (cI, 21, .inl (v_ra 3))), (rb, .inr (2, [.ref rb1, .ref rb2, .ref rb3, .int (v_rb 0 0)])), (rb1, .inl (cI, rb_n * 20, .inl (v_rb 1))), (rb2, .inl (cI, rb_n, .inl (v_rb 2))), (rb3, .inl (cI, 21, .inl (v_rb 3)))] H := hP
        have hD : va_D (va_A (ww_X2_comparey dC dI cI cJ cB ra ra1 ra2 ra3 rb rb1 rb2 rb3 s.heap.size ra_n v_ra rb_n v_rb p0 p1 n9 r1) s.heap.size) [(ra, .inr (2, [.ref ra1, .ref ra2, .ref ra3, .int (v_ra 0 0)])), (ra1, .inl (cI, ra_n * 20, .inl (v_ra 1))), (ra2, .inl (cI, ra_n, .inl (v_ra 2))), (ra3, .inl (cI, 21, .inl (v_ra 3))), (rb, .inr (2, [.ref rb1, .ref rb2, .ref rb3, .int (v_rb 0 0)])), (rb1, .inl (cI, rb_n * 20, .inl (v_rb 1))), (rb2, .inl (cI, rb_n, .inl (v_rb 2))), (rb3, .inl (cI, 21, .inl (v_rb 3)))] := hD
        clear hPc hDc hFc hP1 hK1 hD1 hk1 hz1 ht hvm g_3
        have hP9 := hP.sub (ws' := [(ra, .inr (2, [.ref ra1, .ref ra2, .ref ra3, .int (v_ra 0 0)])), (ra1, .inl (cI, ra_n * 20, .inl (v_ra 1))), (ra2, .inl (cI, ra_n, .inl (v_ra 2))), (ra3, .inl (cI, 21, .inl (v_ra 3))), (rb, .inr (2, [.ref rb1, .ref rb2, .ref rb3, .int (v_rb 0 0)])), (rb1, .inl (cI, rb_n * 20, .inl (v_rb 1))), (rb2, .inl (cI, rb_n, .inl (v_rb 2))), (rb3, .inl (cI, 21, .inl (v_rb 3)))]) [0, 1, 2, 3, 4, 5, 6, 7] rfl
        have hD9 := hD.sub (ws' := [(ra, .inr (2, [.ref ra1, .ref ra2, .ref ra3, .int (v_ra 0 0)])), (ra1, .inl (cI, ra_n * 20, .inl (v_ra 1))), (ra2, .inl (cI, ra_n, .inl (v_ra 2))), (ra3, .inl (cI, 21, .inl (v_ra 3))), (rb, .inr (2, [.ref rb1, .ref rb2, .ref rb3, .int (v_rb 0 0)])), (rb1, .inl (cI, rb_n * 20, .inl (v_rb 1))), (rb2, .inl (cI, rb_n, .inl (v_rb 2))), (rb3, .inl (cI, 21, .inl (v_rb 3)))]) [0, 1, 2, 3, 4, 5, 6, 7] (by decide) rfl
        have r9_0 : r_4 = r1 := (Option.some.inj hf)
        exact W.iret (v := r_4) hx hb hr (fun t ht hW => ⟨⟨r_4, (), rfl, r9_0, by rw [ht]; exact hP9, va_K.moved hW.alike hK, hD9⟩, hS.F ht⟩) hS.2.2 dX2_compare_82
      · replace hf := xi_f c_1 hf
        refine lv_iload hx hb dX2_compare_24 (lv_at hl 6 rfl) ?_
        refine lv_iload hx hb dX2_compare_26 (lv_at hl 5 rfl) ?_
        refine lv_icmp_ge (tgt := 75) hx hb dX2_compare_28 (by decide) (fun c_6 => ?_) (fun c_6 => ?_)
        · replace hf := xi_t c_6 hf
          refine lv_iload hx hb dX2_compare_75 (lv_at hl 4 rfl) ?_
          refine lv_iload hx hb dX2_compare_77 (lv_at hl 5 rfl) ?_
          replace hf := xb1_to hf
          obtain ⟨o_7, g_8, hf⟩ := hf
          have hPc := hP.sub (ws' := []) [] rfl
          have hDc := hD.sub (ws' := []) [] (by decide) rfl
          have hFc := va_free (wc := []) hD hS hA [] rfl
          refine va_calli (va_runS (As := [.int x4, .int x5]) (rest := []) ⟨hx, hb, hml, hown, hts⟩ (c_J6_compare_7cf53y l dC dI cI cJ cB  H.size x4 x5 n9 o_7 g_8) (va_cwS 2 hts go_wo_X2_comparey_0 rfl rfl rfl (by decide +kernel) ⟨Nat.le_of_ble_eq_true rfl, Nat.le_of_ble_eq_true rfl⟩) ⟨fun a U g mk q => by obtain ⟨q0, q1, qN, qP, qK, qD⟩ := q; exact ⟨q0, q1, NW.calling qN, qP, va_K.moved (u := U) (U := U.calling g mk a) (Vm.Alike.refl U.vm) qK, qD⟩, fun U hU hW => ⟨rfl, by rw [hU], NW.warm hW hnw, by rw [hU]; exact hPc, va_K.moved hW.alike hK, hDc.weaken (fun _ _ _ _ => trivial)⟩⟩ rfl rfl hl.1 rfl (lv_room (Nat.le_of_ble_eq_true rfl)) dX2_compare_79 ⟨Nat.zero_le _, Nat.zero_le _⟩) hS (fun q _ h => hFc q h) hFc (fun r_9 u t H1 locs ht hvm hw hB hz1 hk1 hS => ?_)
          cases u
          obtain ⟨hP1, hK1, hD1⟩ := hB
          rw [ht] at hP1
          have hw : (r_9 = o_7) := hw
          subst hw
          obtain ⟨hP, hD⟩ := va_join (wr := [(ra, .inr (2, [.ref ra1, .ref ra2, .ref ra3, .int (v_ra 0 0)])), (ra1, .inl (cI, ra_n * 20, .inl (v_ra 1))), (ra2, .inl (cI, ra_n, .inl (v_ra 2))), (ra3, .inl (cI, 21, .inl (v_ra 3))), (rb, .inr (2, [.ref rb1, .ref rb2, .ref rb3, .int (v_rb 0 0)])), (rb1, .inl (cI, rb_n * 20, .inl (v_rb 1))), (rb2, .inl (cI, rb_n, .inl (v_rb 2))), (rb3, .inl (cI, 21, .inl (v_rb 3)))]) (w1 := []) hP hD [] [0, 1, 2, 3, 4, 5, 6, 7] rfl rfl (by decide) (by decide) hk1 hFc hP1 hD1
          generalize H1 = H at hP hS ⊢
          have hP : va_P (dC, dI) vwCl [(ra, .inr (2, [.ref ra1, .ref ra2, .ref ra3, .int (v_ra 0 0)])), (ra1, .inl (cI, ra_n * 20, .inl (v_ra 1))), (ra2, .inl (cI, ra_n, .inl (v_ra 2))), (ra3, .inl (cI, 21, .inl (v_ra 3))), (rb, .inr (2, [.ref rb1, .ref rb2, .ref rb3, .int (v_rb 0 0)])), (rb1, .inl (cI, rb_n * 20, .inl (v_rb 1))), (rb2, .inl (cI, rb_n, .inl (v_rb 2))), (rb3, .inl (cI, 21, .inl (v_rb 3)))] H := hP
          have hD : va_D (va_A (ww_X2_comparey dC dI cI cJ cB ra ra1 ra2 ra3 rb rb1 rb2 rb3 s.heap.size ra_n v_ra rb_n v_rb p0 p1 n9 r1) s.heap.size) [(ra, .inr (2, [.ref ra1, .ref ra2, .ref ra3, .int (v_ra 0 0)])), (ra1, .inl (cI, ra_n * 20, .inl (v_ra 1))), (ra2, .inl (cI, ra_n, .inl (v_ra 2))), (ra3, .inl (cI, 21, .inl (v_ra 3))), (rb, .inr (2, [.ref rb1, .ref rb2, .ref rb3, .int (v_rb 0 0)])), (rb1, .inl (cI, rb_n * 20, .inl (v_rb 1))), (rb2, .inl (cI, rb_n, .inl (v_rb 2))), (rb3, .inl (cI, 21, .inl (v_rb 3)))] := hD
          clear hPc hDc hFc hP1 hK1 hD1 hk1 hz1 ht hvm g_8
          have hP9 := hP.sub (ws' := [(ra, .inr (2, [.ref ra1, .ref ra2, .ref ra3, .int (v_ra 0 0)])), (ra1, .inl (cI, ra_n * 20, .inl (v_ra 1))), (ra2, .inl (cI, ra_n, .inl (v_ra 2))), (ra3, .inl (cI, 21, .inl (v_ra 3))), (rb, .inr (2, [.ref rb1, .ref rb2, .ref rb3, .int (v_rb 0 0)])), (rb1, .inl (cI, rb_n * 20, .inl (v_rb 1))), (rb2, .inl (cI, rb_n, .inl (v_rb 2))), (rb3, .inl (cI, 21, .inl (v_rb 3)))]) [0, 1, 2, 3, 4, 5, 6, 7] rfl
          have hD9 := hD.sub (ws' := [(ra, .inr (2, [.ref ra1, .ref ra2, .ref ra3, .int (v_ra 0 0)])), (ra1, .inl (cI, ra_n * 20, .inl (v_ra 1))), (ra2, .inl (cI, ra_n, .inl (v_ra 2))), (ra3, .inl (cI, 21, .inl (v_ra 3))), (rb, .inr (2, [.ref rb1, .ref rb2, .ref rb3, .int (v_rb 0 0)])), (rb1, .inl (cI, rb_n * 20, .inl (v_rb 1))), (rb2, .inl (cI, rb_n, .inl (v_rb 2))), (rb3, .inl (cI, 21, .inl (v_rb 3)))]) [0, 1, 2, 3, 4, 5, 6, 7] (by decide) rfl
          have r9_0 : r_9 = r1 := (Option.some.inj hf)
          exact W.iret (v := r_9) hx hb hr (fun t ht hW => ⟨⟨r_9, (), rfl, r9_0, by rw [ht]; exact hP9, va_K.moved hW.alike hK, hD9⟩, hS.F ht⟩) hS.2.2 dX2_compare_82
        · replace hf := xi_f c_6 hf
          refine lv_aload_n hx hb dX2_compare_31 rfl (lv_at hl 0 rfl) ?_
          refine lv_iload_n hx hb dX2_compare_32 rfl (lv_at hl 1 rfl) ?_
          refine lv_iload hx hb dX2_compare_33 (lv_at hl 6 rfl) ?_
          replace hf := xb1_to hf
          obtain ⟨o_11, g_12, hf⟩ := hf
          have hPc := hP.sub (ws' := [(ra, .inr (2, [.ref ra1, .ref ra2, .ref ra3, .int (v_ra 0 0)])), (ra1, .inl (cI, ra_n * 20, .inl (v_ra 1))), (ra2, .inl (cI, ra_n, .inl (v_ra 2))), (ra3, .inl (cI, 21, .inl (v_ra 3)))]) [0, 1, 2, 3] rfl
          have hDc := hD.sub (ws' := [(ra, .inr (2, [.ref ra1, .ref ra2, .ref ra3, .int (v_ra 0 0)])), (ra1, .inl (cI, ra_n * 20, .inl (v_ra 1))), (ra2, .inl (cI, ra_n, .inl (v_ra 2))), (ra3, .inl (cI, 21, .inl (v_ra 3)))]) [0, 1, 2, 3] (by decide) rfl
          have hFc := va_free (wc := [(ra, .inr (2, [.ref ra1, .ref ra2, .ref ra3, .int (v_ra 0 0)])), (ra1, .inl (cI, ra_n * 20, .inl (v_ra 1))), (ra2, .inl (cI, ra_n, .inl (v_ra 2))), (ra3, .inl (cI, 21, .inl (v_ra 3)))]) hD hS hA [0, 1, 2, 3] rfl
          refine va_calli (va_runV (As := [.int p0, .int x6]) (rest := []) ⟨hx, hb, hml, hown, hts⟩ (c_X2_cellAty l dC dI cI cJ cB ra ra1 ra2 ra3 H.size ra_n v_ra p0 x6 n9 o_11 g_12) (cwV 2 hts go_wo_X2_comparey_1 rfl rfl rfl (by decide +kernel) ⟨Nat.le_of_ble_eq_true rfl, Nat.le_of_ble_eq_true rfl⟩) ⟨fun a U g mk q => by obtain ⟨q0, q1, qN, qP, qK, qD⟩ := q; exact ⟨q0, q1, NW.calling qN, qP, va_K.moved (u := U) (U := U.calling g mk a) (Vm.Alike.refl U.vm) qK, qD⟩, va_recv hK hPc (ci := 2) (q0 := 0) rfl rfl, fun U hU hW => ⟨rfl, by rw [hU], NW.warm hW hnw, by rw [hU]; exact hPc, va_K.moved hW.alike hK, hDc.weaken (fun _ _ _ _ => trivial)⟩⟩ rfl rfl hl.1 rfl (lv_room (Nat.le_of_ble_eq_true rfl)) dX2_compare_35 ⟨Nat.zero_le _, Nat.zero_le _⟩) hS (fun q _ h => hFc q h) hFc (fun r_13 u t H1 locs ht hvm hw hB hz1 hk1 hS => ?_)
          cases u
          obtain ⟨hP1, hK1, hD1⟩ := hB
          rw [ht] at hP1
          have hw : (r_13 = o_11) := hw
          subst hw
          obtain ⟨hP, hD⟩ := va_join (wr := [(rb, .inr (2, [.ref rb1, .ref rb2, .ref rb3, .int (v_rb 0 0)])), (rb1, .inl (cI, rb_n * 20, .inl (v_rb 1))), (rb2, .inl (cI, rb_n, .inl (v_rb 2))), (rb3, .inl (cI, 21, .inl (v_rb 3)))]) (w1 := [(ra, .inr (2, [.ref ra1, .ref ra2, .ref ra3, .int (v_ra 0 0)])), (ra1, .inl (cI, ra_n * 20, .inl (v_ra 1))), (ra2, .inl (cI, ra_n, .inl (v_ra 2))), (ra3, .inl (cI, 21, .inl (v_ra 3)))]) hP hD [0, 1, 2, 3] [4, 5, 6, 7] rfl rfl (by decide) (by decide) hk1 hFc hP1 hD1
          generalize H1 = H at hP hS ⊢
          have hP : va_P (dC, dI) vwCl [(rb, .inr (2, [.ref rb1, .ref rb2, .ref rb3, .int (v_rb 0 0)])), (rb1, .inl (cI, rb_n * 20, .inl (v_rb 1))), (rb2, .inl (cI, rb_n, .inl (v_rb 2))), (rb3, .inl (cI, 21, .inl (v_rb 3))), (ra, .inr (2, [.ref ra1, .ref ra2, .ref ra3, .int (v_ra 0 0)])), (ra1, .inl (cI, ra_n * 20, .inl (v_ra 1))), (ra2, .inl (cI, ra_n, .inl (v_ra 2))), (ra3, .inl (cI, 21, .inl (v_ra 3)))] H := hP
          have hD : va_D (va_A (ww_X2_comparey dC dI cI cJ cB ra ra1 ra2 ra3 rb rb1 rb2 rb3 s.heap.size ra_n v_ra rb_n v_rb p0 p1 n9 r1) s.heap.size) [(rb, .inr (2, [.ref rb1, .ref rb2, .ref rb3, .int (v_rb 0 0)])), (rb1, .inl (cI, rb_n * 20, .inl (v_rb 1))), (rb2, .inl (cI, rb_n, .inl (v_rb 2))), (rb3, .inl (cI, 21, .inl (v_rb 3))), (ra, .inr (2, [.ref ra1, .ref ra2, .ref ra3, .int (v_ra 0 0)])), (ra1, .inl (cI, ra_n * 20, .inl (v_ra 1))), (ra2, .inl (cI, ra_n, .inl (v_ra 2))), (ra3, .inl (cI, 21, .inl (v_ra 3)))] := hD
          clear hPc hDc hFc hP1 hK1 hD1 hk1 hz1 ht hvm g_12
          refine lv_istore (lv' := [(7, .int r_13), (0, .ref ra), (1, .int p0), (2, .ref rb), (3, .int p1), (4, .int x4), (5, .int x5), (6, .int x6)]) hx hb dX2_compare_38 hl (by decide) rfl (fun ls hl => ?_)
          refine lv_aload_n hx hb dX2_compare_40 rfl (lv_at hl 3 rfl) ?_
          refine lv_iload_n hx hb dX2_compare_41 rfl (lv_at hl 4 rfl) ?_
          refine lv_iload hx hb dX2_compare_42 (lv_at hl 7 rfl) ?_
          replace hf := xb1_to hf
          obtain ⟨o_15, g_16, hf⟩ := hf
          have hPc := hP.sub (ws' := [(rb, .inr (2, [.ref rb1, .ref rb2, .ref rb3, .int (v_rb 0 0)])), (rb1, .inl (cI, rb_n * 20, .inl (v_rb 1))), (rb2, .inl (cI, rb_n, .inl (v_rb 2))), (rb3, .inl (cI, 21, .inl (v_rb 3)))]) [0, 1, 2, 3] rfl
          have hDc := hD.sub (ws' := [(rb, .inr (2, [.ref rb1, .ref rb2, .ref rb3, .int (v_rb 0 0)])), (rb1, .inl (cI, rb_n * 20, .inl (v_rb 1))), (rb2, .inl (cI, rb_n, .inl (v_rb 2))), (rb3, .inl (cI, 21, .inl (v_rb 3)))]) [0, 1, 2, 3] (by decide) rfl
          have hFc := va_free (wc := [(rb, .inr (2, [.ref rb1, .ref rb2, .ref rb3, .int (v_rb 0 0)])), (rb1, .inl (cI, rb_n * 20, .inl (v_rb 1))), (rb2, .inl (cI, rb_n, .inl (v_rb 2))), (rb3, .inl (cI, 21, .inl (v_rb 3)))]) hD hS hA [0, 1, 2, 3] rfl
          refine va_calli (va_runV (As := [.int p1, .int x6]) (rest := []) ⟨hx, hb, hml, hown, hts⟩ (c_X2_cellAty l dC dI cI cJ cB rb rb1 rb2 rb3 H.size rb_n v_rb p1 x6 n9 o_15 g_16) (cwV 2 hts go_wo_X2_comparey_1 rfl rfl rfl (by decide +kernel) ⟨Nat.le_of_ble_eq_true rfl, Nat.le_of_ble_eq_true rfl⟩) ⟨fun a U g mk q => by obtain ⟨q0, q1, qN, qP, qK, qD⟩ := q; exact ⟨q0, q1, NW.calling qN, qP, va_K.moved (u := U) (U := U.calling g mk a) (Vm.Alike.refl U.vm) qK, qD⟩, va_recv hK hPc (ci := 2) (q0 := 0) rfl rfl, fun U hU hW => ⟨rfl, by rw [hU], NW.warm hW hnw, by rw [hU]; exact hPc, va_K.moved hW.alike hK, hDc.weaken (fun _ _ _ _ => trivial)⟩⟩ rfl rfl hl.1 rfl (lv_room (Nat.le_of_ble_eq_true rfl)) dX2_compare_44 ⟨Nat.zero_le _, Nat.zero_le _⟩) hS (fun q _ h => hFc q h) hFc (fun r_17 u t H1 locs ht hvm hw hB hz1 hk1 hS => ?_)
          cases u
          obtain ⟨hP1, hK1, hD1⟩ := hB
          rw [ht] at hP1
          have hw : (r_17 = o_15) := hw
          subst hw
          obtain ⟨hP, hD⟩ := va_join (wr := [(ra, .inr (2, [.ref ra1, .ref ra2, .ref ra3, .int (v_ra 0 0)])), (ra1, .inl (cI, ra_n * 20, .inl (v_ra 1))), (ra2, .inl (cI, ra_n, .inl (v_ra 2))), (ra3, .inl (cI, 21, .inl (v_ra 3)))]) (w1 := [(rb, .inr (2, [.ref rb1, .ref rb2, .ref rb3, .int (v_rb 0 0)])), (rb1, .inl (cI, rb_n * 20, .inl (v_rb 1))), (rb2, .inl (cI, rb_n, .inl (v_rb 2))), (rb3, .inl (cI, 21, .inl (v_rb 3)))]) hP hD [0, 1, 2, 3] [4, 5, 6, 7] rfl rfl (by decide) (by decide) hk1 hFc hP1 hD1
          generalize H1 = H at hP hS ⊢
          have hP : va_P (dC, dI) vwCl [(ra, .inr (2, [.ref ra1, .ref ra2, .ref ra3, .int (v_ra 0 0)])), (ra1, .inl (cI, ra_n * 20, .inl (v_ra 1))), (ra2, .inl (cI, ra_n, .inl (v_ra 2))), (ra3, .inl (cI, 21, .inl (v_ra 3))), (rb, .inr (2, [.ref rb1, .ref rb2, .ref rb3, .int (v_rb 0 0)])), (rb1, .inl (cI, rb_n * 20, .inl (v_rb 1))), (rb2, .inl (cI, rb_n, .inl (v_rb 2))), (rb3, .inl (cI, 21, .inl (v_rb 3)))] H := hP
          have hD : va_D (va_A (ww_X2_comparey dC dI cI cJ cB ra ra1 ra2 ra3 rb rb1 rb2 rb3 s.heap.size ra_n v_ra rb_n v_rb p0 p1 n9 r1) s.heap.size) [(ra, .inr (2, [.ref ra1, .ref ra2, .ref ra3, .int (v_ra 0 0)])), (ra1, .inl (cI, ra_n * 20, .inl (v_ra 1))), (ra2, .inl (cI, ra_n, .inl (v_ra 2))), (ra3, .inl (cI, 21, .inl (v_ra 3))), (rb, .inr (2, [.ref rb1, .ref rb2, .ref rb3, .int (v_rb 0 0)])), (rb1, .inl (cI, rb_n * 20, .inl (v_rb 1))), (rb2, .inl (cI, rb_n, .inl (v_rb 2))), (rb3, .inl (cI, 21, .inl (v_rb 3)))] := hD
          clear hPc hDc hFc hP1 hK1 hD1 hk1 hz1 ht hvm g_16
          refine lv_istore (lv' := [(8, .int r_17), (7, .int r_13), (0, .ref ra), (1, .int p0), (2, .ref rb), (3, .int p1), (4, .int x4), (5, .int x5), (6, .int x6)]) hx hb dX2_compare_47 hl (by decide) rfl (fun ls hl => ?_)
          refine lv_iload hx hb dX2_compare_49 (lv_at hl 1 rfl) ?_
          refine lv_iload hx hb dX2_compare_51 (lv_at hl 0 rfl) ?_
          refine lv_icmp_eq (tgt := 69) hx hb dX2_compare_53 (by decide) (fun c_19 => ?_) (fun c_19 => ?_)
          · replace hf := xi_t c_19 hf
            obtain ⟨x6_20, ex6_20⟩ : ∃ y : Int32, y = x6 + (1) := ⟨_, rfl⟩
            refine lv_iinc (v := x6_20) (lv' := [(6, .int x6_20), (8, .int r_17), (7, .int r_13), (0, .ref ra), (1, .int p0), (2, .ref rb), (3, .int p1), (4, .int x4), (5, .int x5)]) hx hb dX2_compare_69 hl (k := 8) rfl (by rw [ex6_20]; rfl) (by decide) rfl (fun ls hl => ?_)
            replace hf := xl_to ex6_20 hf
            refine lv_goto (tgt := 17) hx hb dX2_compare_72 (by decide) ?_
            exact ih_17 x4 x5 x6_20 hf _ _ (hP.sub [0, 1, 2, 3, 4, 5, 6, 7] rfl) (hD.sub [0, 1, 2, 3, 4, 5, 6, 7] (by decide) rfl) hS ls (lv_sub hl [3, 4, 5, 6, 7, 8, 0] rfl)
          · replace hf := xi_f c_19 hf
            refine lv_iload hx hb dX2_compare_56 (lv_at hl 1 rfl) ?_
            refine lv_iload hx hb dX2_compare_58 (lv_at hl 0 rfl) ?_
            refine lv_icmp_ge (tgt := 67) hx hb dX2_compare_60 (by decide) (fun c_21 => ?_) (fun c_21 => ?_)
            · replace hf := xi_t c_21 hf
              refine lv_iconst (v := 1) hx hb dX2_compare_67 (by decide) ?_
              have hP9 := hP.sub (ws' := [(ra, .inr (2, [.ref ra1, .ref ra2, .ref ra3, .int (v_ra 0 0)])), (ra1, .inl (cI, ra_n * 20, .inl (v_ra 1))), (ra2, .inl (cI, ra_n, .inl (v_ra 2))), (ra3, .inl (cI, 21, .inl (v_ra 3))), (rb, .inr (2, [.ref rb1, .ref rb2, .ref rb3, .int (v_rb 0 0)])), (rb1, .inl (cI, rb_n * 20, .inl (v_rb 1))), (rb2, .inl (cI, rb_n, .inl (v_rb 2))), (rb3, .inl (cI, 21, .inl (v_rb 3)))]) [0, 1, 2, 3, 4, 5, 6, 7] rfl
              have hD9 := hD.sub (ws' := [(ra, .inr (2, [.ref ra1, .ref ra2, .ref ra3, .int (v_ra 0 0)])), (ra1, .inl (cI, ra_n * 20, .inl (v_ra 1))), (ra2, .inl (cI, ra_n, .inl (v_ra 2))), (ra3, .inl (cI, 21, .inl (v_ra 3))), (rb, .inr (2, [.ref rb1, .ref rb2, .ref rb3, .int (v_rb 0 0)])), (rb1, .inl (cI, rb_n * 20, .inl (v_rb 1))), (rb2, .inl (cI, rb_n, .inl (v_rb 2))), (rb3, .inl (cI, 21, .inl (v_rb 3)))]) [0, 1, 2, 3, 4, 5, 6, 7] (by decide) rfl
              have r9_0 : (1 : Int32) = r1 := (Option.some.inj hf)
              exact W.iret (v := (1 : Int32)) hx hb hr (fun t ht hW => ⟨⟨(1 : Int32), (), rfl, r9_0, by rw [ht]; exact hP9, va_K.moved hW.alike hK, hD9⟩, hS.F ht⟩) hS.2.2 dX2_compare_68
            · replace hf := xi_f c_21 hf
              refine lv_iconst (v := -1) hx hb dX2_compare_63 (by decide) ?_
              refine lv_goto (tgt := 68) hx hb dX2_compare_64 (by decide) ?_
              have hP9 := hP.sub (ws' := [(ra, .inr (2, [.ref ra1, .ref ra2, .ref ra3, .int (v_ra 0 0)])), (ra1, .inl (cI, ra_n * 20, .inl (v_ra 1))), (ra2, .inl (cI, ra_n, .inl (v_ra 2))), (ra3, .inl (cI, 21, .inl (v_ra 3))), (rb, .inr (2, [.ref rb1, .ref rb2, .ref rb3, .int (v_rb 0 0)])), (rb1, .inl (cI, rb_n * 20, .inl (v_rb 1))), (rb2, .inl (cI, rb_n, .inl (v_rb 2))), (rb3, .inl (cI, 21, .inl (v_rb 3)))]) [0, 1, 2, 3, 4, 5, 6, 7] rfl
              have hD9 := hD.sub (ws' := [(ra, .inr (2, [.ref ra1, .ref ra2, .ref ra3, .int (v_ra 0 0)])), (ra1, .inl (cI, ra_n * 20, .inl (v_ra 1))), (ra2, .inl (cI, ra_n, .inl (v_ra 2))), (ra3, .inl (cI, 21, .inl (v_ra 3))), (rb, .inr (2, [.ref rb1, .ref rb2, .ref rb3, .int (v_rb 0 0)])), (rb1, .inl (cI, rb_n * 20, .inl (v_rb 1))), (rb2, .inl (cI, rb_n, .inl (v_rb 2))), (rb3, .inl (cI, 21, .inl (v_rb 3)))]) [0, 1, 2, 3, 4, 5, 6, 7] (by decide) rfl
              have r9_0 : (-1 : Int32) = r1 := (Option.some.inj hf)
              exact W.iret (v := (-1 : Int32)) hx hb hr (fun t ht hW => ⟨⟨(-1 : Int32), (), rfl, r9_0, by rw [ht]; exact hP9, va_K.moved hW.alike hK, hD9⟩, hS.F ht⟩) hS.2.2 dX2_compare_68
  refine lv_aload_n hx hb dX2_compare_0 rfl (lv_at hl 0 rfl) ?_
  refine lv_iload_n hx hb dX2_compare_1 rfl (lv_at hl 1 rfl) ?_
  replace hf := xb1_to hf
  obtain ⟨o_22, g_23, hf⟩ := hf
  have hPc := hP.sub (ws' := [(ra, .inr (2, [.ref ra1, .ref ra2, .ref ra3, .int (v_ra 0 0)])), (ra1, .inl (cI, ra_n * 20, .inl (v_ra 1))), (ra2, .inl (cI, ra_n, .inl (v_ra 2))), (ra3, .inl (cI, 21, .inl (v_ra 3)))]) [0, 1, 2, 3] rfl
  have hDc := hD.sub (ws' := [(ra, .inr (2, [.ref ra1, .ref ra2, .ref ra3, .int (v_ra 0 0)])), (ra1, .inl (cI, ra_n * 20, .inl (v_ra 1))), (ra2, .inl (cI, ra_n, .inl (v_ra 2))), (ra3, .inl (cI, 21, .inl (v_ra 3)))]) [0, 1, 2, 3] (by decide) rfl
  have hFc := va_free (wc := [(ra, .inr (2, [.ref ra1, .ref ra2, .ref ra3, .int (v_ra 0 0)])), (ra1, .inl (cI, ra_n * 20, .inl (v_ra 1))), (ra2, .inl (cI, ra_n, .inl (v_ra 2))), (ra3, .inl (cI, 21, .inl (v_ra 3)))]) hD hS hA [0, 1, 2, 3] rfl
  refine va_calli (va_runV (As := [.int p0]) (rest := []) ⟨hx, hb, hml, hown, hts⟩ (c_X2_lengthOfy l dC dI cI cJ cB ra ra1 ra2 ra3 H.size ra_n v_ra p0 n9 o_22 g_23) (cwV 1 hts go_wo_X2_comparey_2 rfl rfl rfl (by decide +kernel) ⟨Nat.le_of_ble_eq_true rfl, Nat.le_of_ble_eq_true rfl⟩) ⟨fun a U g mk q => by obtain ⟨q0, q1, qN, qP, qK, qD⟩ := q; exact ⟨q0, q1, NW.calling qN, qP, va_K.moved (u := U) (U := U.calling g mk a) (Vm.Alike.refl U.vm) qK, qD⟩, va_recv hK hPc (ci := 2) (q0 := 0) rfl rfl, fun U hU hW => ⟨rfl, by rw [hU], NW.warm hW hnw, by rw [hU]; exact hPc, va_K.moved hW.alike hK, hDc.weaken (fun _ _ _ _ => trivial)⟩⟩ rfl rfl hl.1 rfl (lv_room (Nat.le_of_ble_eq_true rfl)) dX2_compare_2 ⟨Nat.zero_le _, Nat.zero_le _⟩) hS (fun q _ h => hFc q h) hFc (fun r_24 u t H1 locs ht hvm hw hB hz1 hk1 hS => ?_)
  cases u
  obtain ⟨hP1, hK1, hD1⟩ := hB
  rw [ht] at hP1
  have hw : (r_24 = o_22) := hw
  subst hw
  obtain ⟨hP, hD⟩ := va_join (wr := [(rb, .inr (2, [.ref rb1, .ref rb2, .ref rb3, .int (v_rb 0 0)])), (rb1, .inl (cI, rb_n * 20, .inl (v_rb 1))), (rb2, .inl (cI, rb_n, .inl (v_rb 2))), (rb3, .inl (cI, 21, .inl (v_rb 3)))]) (w1 := [(ra, .inr (2, [.ref ra1, .ref ra2, .ref ra3, .int (v_ra 0 0)])), (ra1, .inl (cI, ra_n * 20, .inl (v_ra 1))), (ra2, .inl (cI, ra_n, .inl (v_ra 2))), (ra3, .inl (cI, 21, .inl (v_ra 3)))]) hP hD [0, 1, 2, 3] [4, 5, 6, 7] rfl rfl (by decide) (by decide) hk1 hFc hP1 hD1
  generalize H1 = H at hP hS ⊢
  have hP : va_P (dC, dI) vwCl [(rb, .inr (2, [.ref rb1, .ref rb2, .ref rb3, .int (v_rb 0 0)])), (rb1, .inl (cI, rb_n * 20, .inl (v_rb 1))), (rb2, .inl (cI, rb_n, .inl (v_rb 2))), (rb3, .inl (cI, 21, .inl (v_rb 3))), (ra, .inr (2, [.ref ra1, .ref ra2, .ref ra3, .int (v_ra 0 0)])), (ra1, .inl (cI, ra_n * 20, .inl (v_ra 1))), (ra2, .inl (cI, ra_n, .inl (v_ra 2))), (ra3, .inl (cI, 21, .inl (v_ra 3)))] H := hP
  have hD : va_D (va_A (ww_X2_comparey dC dI cI cJ cB ra ra1 ra2 ra3 rb rb1 rb2 rb3 s.heap.size ra_n v_ra rb_n v_rb p0 p1 n9 r1) s.heap.size) [(rb, .inr (2, [.ref rb1, .ref rb2, .ref rb3, .int (v_rb 0 0)])), (rb1, .inl (cI, rb_n * 20, .inl (v_rb 1))), (rb2, .inl (cI, rb_n, .inl (v_rb 2))), (rb3, .inl (cI, 21, .inl (v_rb 3))), (ra, .inr (2, [.ref ra1, .ref ra2, .ref ra3, .int (v_ra 0 0)])), (ra1, .inl (cI, ra_n * 20, .inl (v_ra 1))), (ra2, .inl (cI, ra_n, .inl (v_ra 2))), (ra3, .inl (cI, 21, .inl (v_ra 3)))] := hD
  clear hPc hDc hFc hP1 hK1 hD1 hk1 hz1 ht hvm g_23
  refine lv_istore (lv' := [(4, .int r_24), (0, .ref ra), (1, .int p0), (2, .ref rb), (3, .int p1)]) hx hb dX2_compare_5 hl (by decide) rfl (fun ls hl => ?_)
  refine lv_aload_n hx hb dX2_compare_7 rfl (lv_at hl 3 rfl) ?_
  refine lv_iload_n hx hb dX2_compare_8 rfl (lv_at hl 4 rfl) ?_
  replace hf := xb1_to hf
  obtain ⟨o_26, g_27, hf⟩ := hf
  have hPc := hP.sub (ws' := [(rb, .inr (2, [.ref rb1, .ref rb2, .ref rb3, .int (v_rb 0 0)])), (rb1, .inl (cI, rb_n * 20, .inl (v_rb 1))), (rb2, .inl (cI, rb_n, .inl (v_rb 2))), (rb3, .inl (cI, 21, .inl (v_rb 3)))]) [0, 1, 2, 3] rfl
  have hDc := hD.sub (ws' := [(rb, .inr (2, [.ref rb1, .ref rb2, .ref rb3, .int (v_rb 0 0)])), (rb1, .inl (cI, rb_n * 20, .inl (v_rb 1))), (rb2, .inl (cI, rb_n, .inl (v_rb 2))), (rb3, .inl (cI, 21, .inl (v_rb 3)))]) [0, 1, 2, 3] (by decide) rfl
  have hFc := va_free (wc := [(rb, .inr (2, [.ref rb1, .ref rb2, .ref rb3, .int (v_rb 0 0)])), (rb1, .inl (cI, rb_n * 20, .inl (v_rb 1))), (rb2, .inl (cI, rb_n, .inl (v_rb 2))), (rb3, .inl (cI, 21, .inl (v_rb 3)))]) hD hS hA [0, 1, 2, 3] rfl
  refine va_calli (va_runV (As := [.int p1]) (rest := []) ⟨hx, hb, hml, hown, hts⟩ (c_X2_lengthOfy l dC dI cI cJ cB rb rb1 rb2 rb3 H.size rb_n v_rb p1 n9 o_26 g_27) (cwV 1 hts go_wo_X2_comparey_2 rfl rfl rfl (by decide +kernel) ⟨Nat.le_of_ble_eq_true rfl, Nat.le_of_ble_eq_true rfl⟩) ⟨fun a U g mk q => by obtain ⟨q0, q1, qN, qP, qK, qD⟩ := q; exact ⟨q0, q1, NW.calling qN, qP, va_K.moved (u := U) (U := U.calling g mk a) (Vm.Alike.refl U.vm) qK, qD⟩, va_recv hK hPc (ci := 2) (q0 := 0) rfl rfl, fun U hU hW => ⟨rfl, by rw [hU], NW.warm hW hnw, by rw [hU]; exact hPc, va_K.moved hW.alike hK, hDc.weaken (fun _ _ _ _ => trivial)⟩⟩ rfl rfl hl.1 rfl (lv_room (Nat.le_of_ble_eq_true rfl)) dX2_compare_9 ⟨Nat.zero_le _, Nat.zero_le _⟩) hS (fun q _ h => hFc q h) hFc (fun r_28 u t H1 locs ht hvm hw hB hz1 hk1 hS => ?_)
  cases u
  obtain ⟨hP1, hK1, hD1⟩ := hB
  rw [ht] at hP1
  have hw : (r_28 = o_26) := hw
  subst hw
  obtain ⟨hP, hD⟩ := va_join (wr := [(ra, .inr (2, [.ref ra1, .ref ra2, .ref ra3, .int (v_ra 0 0)])), (ra1, .inl (cI, ra_n * 20, .inl (v_ra 1))), (ra2, .inl (cI, ra_n, .inl (v_ra 2))), (ra3, .inl (cI, 21, .inl (v_ra 3)))]) (w1 := [(rb, .inr (2, [.ref rb1, .ref rb2, .ref rb3, .int (v_rb 0 0)])), (rb1, .inl (cI, rb_n * 20, .inl (v_rb 1))), (rb2, .inl (cI, rb_n, .inl (v_rb 2))), (rb3, .inl (cI, 21, .inl (v_rb 3)))]) hP hD [0, 1, 2, 3] [4, 5, 6, 7] rfl rfl (by decide) (by decide) hk1 hFc hP1 hD1
  generalize H1 = H at hP hS ⊢
  have hP : va_P (dC, dI) vwCl [(ra, .inr (2, [.ref ra1, .ref ra2, .ref ra3, .int (v_ra 0 0)])), (ra1, .inl (cI, ra_n * 20, .inl (v_ra 1))), (ra2, .inl (cI, ra_n, .inl (v_ra 2))), (ra3, .inl (cI, 21, .inl (v_ra 3))), (rb, .inr (2, [.ref rb1, .ref rb2, .ref rb3, .int (v_rb 0 0)])), (rb1, .inl (cI, rb_n * 20, .inl (v_rb 1))), (rb2, .inl (cI, rb_n, .inl (v_rb 2))), (rb3, .inl (cI, 21, .inl (v_rb 3)))] H := hP
  have hD : va_D (va_A (ww_X2_comparey dC dI cI cJ cB ra ra1 ra2 ra3 rb rb1 rb2 rb3 s.heap.size ra_n v_ra rb_n v_rb p0 p1 n9 r1) s.heap.size) [(ra, .inr (2, [.ref ra1, .ref ra2, .ref ra3, .int (v_ra 0 0)])), (ra1, .inl (cI, ra_n * 20, .inl (v_ra 1))), (ra2, .inl (cI, ra_n, .inl (v_ra 2))), (ra3, .inl (cI, 21, .inl (v_ra 3))), (rb, .inr (2, [.ref rb1, .ref rb2, .ref rb3, .int (v_rb 0 0)])), (rb1, .inl (cI, rb_n * 20, .inl (v_rb 1))), (rb2, .inl (cI, rb_n, .inl (v_rb 2))), (rb3, .inl (cI, 21, .inl (v_rb 3)))] := hD
  clear hPc hDc hFc hP1 hK1 hD1 hk1 hz1 ht hvm g_27
  refine lv_istore (lv' := [(5, .int r_28), (4, .int r_24), (0, .ref ra), (1, .int p0), (2, .ref rb), (3, .int p1)]) hx hb dX2_compare_12 hl (by decide) rfl (fun ls hl => ?_)
  refine lv_iconst (v := 0) hx hb dX2_compare_14 (by decide) ?_
  refine lv_istore (lv' := [(6, .int ((0 : Int32))), (5, .int r_28), (4, .int r_24), (0, .ref ra), (1, .int p0), (2, .ref rb), (3, .int p1)]) hx hb dX2_compare_15 hl (by decide) rfl (fun ls hl => ?_)
  exact L_17 n9 r_24 r_28 ((0 : Int32)) hf _ _ (hP.sub [0, 1, 2, 3, 4, 5, 6, 7] rfl) (hD.sub [0, 1, 2, 3, 4, 5, 6, 7] (by decide) rfl) hS ls (lv_sub hl [3, 4, 5, 6, 2, 1, 0] rfl)
def wo_X2_comparey_s : List Cond := .code yX2_compare cX2_compare 9 (some .int) :: (([] : List Cond) ++ ((va_wsS RX2 53 yJ6_compare_7cf53 wo_J6_compare_7cf53y) ++ ((wsV RX2 46 RX2 yX2_cellAt wo_X2_cellAty) ++ ((wsV RX2 34 RX2 yX2_lengthOf wo_X2_lengthOfy)))))
set_option maxRecDepth 20000 in
theorem go_wo_X2_comparey_s_0 : GoodIn wo_X2_comparey_s (va_wsS RX2 53 yJ6_compare_7cf53 wo_J6_compare_7cf53y) := goodIn_sub (fun _ h => (List.mem_cons_of_mem _ (List.mem_append_right _ (List.mem_append_left _ h)))) (by decide +kernel)
set_option maxRecDepth 20000 in
theorem go_wo_X2_comparey_s_1 : GoodIn wo_X2_comparey_s (wsV RX2 46 RX2 yX2_cellAt wo_X2_cellAty) := goodIn_sub (fun _ h => (List.mem_cons_of_mem _ (List.mem_append_right _ (List.mem_append_right _ (List.mem_append_left _ h))))) (by decide +kernel)
set_option maxRecDepth 20000 in
theorem go_wo_X2_comparey_s_2 : GoodIn wo_X2_comparey_s (wsV RX2 34 RX2 yX2_lengthOf wo_X2_lengthOfy) := goodIn_sub (fun _ h => (List.mem_cons_of_mem _ (List.mem_append_right _ (List.mem_append_right _ (List.mem_append_right _ h))))) (by decide +kernel)
abbrev ww_X2_comparey_s (dC : Nat → ClassId) (dI : Nat → Nat → Nat) (cI cJ cB : ClassId) (ra ra1 ra2 ra3 : Nat) (sz : Nat) (ra_n : Nat) (v_ra : Nat → Nat → Int32) (p0 : Int32) (p1 : Int32) (n9 : Nat) (r1 : Int32) : va_W := [(ra, .inr (2, [.ref ra1, .ref ra2, .ref ra3, .int (v_ra 0 0)])), (ra1, .inl (cI, ra_n * 20, .inl (v_ra 1))), (ra2, .inl (cI, ra_n, .inl (v_ra 2))), (ra3, .inl (cI, 21, .inl (v_ra 3)))]
abbrev at_X2_comparey_s (dC : Nat → ClassId) (dI : Nat → Nat → Nat) (cI cJ cB : ClassId) (ra ra1 ra2 ra3 : Nat) (sz : Nat) (ra_n : Nat) (v_ra : Nat → Nat → Int32) (p0 : Int32) (p1 : Int32) (n9 : Nat) (r1 : Int32) (u : Unit) (t : State) : Prop := match u with
  | () => va_P (dC, dI) vwCl [(ra, .inr (2, [.ref ra1, .ref ra2, .ref ra3, .int (v_ra 0 0)])), (ra1, .inl (cI, ra_n * 20, .inl (v_ra 1))), (ra2, .inl (cI, ra_n, .inl (v_ra 2))), (ra3, .inl (cI, 21, .inl (v_ra 3)))] t.heap ∧ va_K (dC, dI) vwCl (tyL cI cJ cB) t ∧ va_D (va_A (ww_X2_comparey_s dC dI cI cJ cB ra ra1 ra2 ra3 sz ra_n v_ra p0 p1 n9 r1) sz) [(ra, .inr (2, [.ref ra1, .ref ra2, .ref ra3, .int (v_ra 0 0)])), (ra1, .inl (cI, ra_n * 20, .inl (v_ra 1))), (ra2, .inl (cI, ra_n, .inl (v_ra 2))), (ra3, .inl (cI, 21, .inl (v_ra 3)))]
abbrev qc_X2_comparey_s (dC : Nat → ClassId) (dI : Nat → Nat → Nat) (cI cJ cB : ClassId) (ra ra1 ra2 ra3 : Nat) (sz : Nat) (ra_n : Nat) (v_ra : Nat → Nat → Int32) (p0 : Int32) (p1 : Int32) (n9 : Nat) (r1 : Int32) : Array Value → State → Outcome → State → Prop := va_Qi (fun (r : Int32) (u : Unit) => match u with | () => (r = r1)) (at_X2_comparey_s dC dI cI cJ cB ra ra1 ra2 ra3 sz ra_n v_ra p0 p1 n9 r1) (va_A (ww_X2_comparey_s dC dI cI cJ cB ra ra1 ra2 ra3 sz ra_n v_ra p0 p1 n9 r1) sz)
abbrev pc_X2_comparey_s (dC : Nat → ClassId) (dI : Nat → Nat → Nat) (cI cJ cB : ClassId) (ra ra1 ra2 ra3 : Nat) (sz : Nat) (ra_n : Nat) (v_ra : Nat → Nat → Int32) (p0 : Int32) (p1 : Int32) (n9 : Nat) (r1 : Int32) : Array Value → State → Prop := va_Pc [.ref ra, .int p0, .ref ra, .int p1] (fun U => U.heap.size = sz ∧ NW U ∧ va_P (dC, dI) vwCl (ww_X2_comparey_s dC dI cI cJ cB ra ra1 ra2 ra3 sz ra_n v_ra p0 p1 n9 r1) U.heap ∧ va_K (dC, dI) vwCl (tyL cI cJ cB) U ∧ va_D (fun _ => True) (ww_X2_comparey_s dC dI cI cJ cB ra ra1 ra2 ra3 sz ra_n v_ra p0 p1 n9 r1))
abbrev rm_X2_comparey_s : Room := { frames := 1, cells := 0, slots := 0, locals := 23 }
abbrev WW_X2_comparey_s (p : Program) (l : Launch) (e : Env) (s : State) (m : MethodId) (below : List Frame) (meth : Method) (c : Code) (dC : Nat → ClassId) (dI : Nat → Nat → Nat) (cI cJ cB : ClassId) (ra ra1 ra2 ra3 : Nat) (sz : Nat) (ra_n : Nat) (v_ra : Nat → Nat → Int32) (p0 : Int32) (p1 : Int32) (n9 : Nat) (r1 : Int32) (H : Heap) (locs : List Loc) (g : JFrame) : Prop := W p l e rm_X2_comparey_s s m ([.ref ra, .int p0, .ref ra, .int p1] : List Value).toArray below meth c H locs 0 0 (MQ below (qc_X2_comparey_s dC dI cI cJ cB ra ra1 ra2 ra3 sz ra_n v_ra p0 p1 n9 r1) ([.ref ra, .int p0, .ref ra, .int p1] : List Value).toArray s 0 0 (va_A (ww_X2_comparey_s dC dI cI cJ cB ra ra1 ra2 ra3 sz ra_n v_ra p0 p1 n9 r1) sz)) g
set_option maxHeartbeats 4000000 in
set_option maxRecDepth 100000 in
theorem c_X2_comparey_s (l : Launch) (dC : Nat → ClassId) (dI : Nat → Nat → Nat) (cI cJ cB : ClassId) (ra ra1 ra2 ra3 : Nat) (sz : Nat) (ra_n : Nat) (v_ra : Nat → Nat → Int32) (p0 : Int32) (p1 : Int32) (n9 : Nat) (r1 : Int32) (hf : fx_X2_compare_s n9 ra_n v_ra p0 p1 = some (r1)) : Met l yX2_compare wo_X2_comparey_s rm_X2_comparey_s (pc_X2_comparey_s dC dI cI cJ cB ra ra1 ra2 ra3 sz ra_n v_ra p0 p1 n9 r1) (qc_X2_comparey_s dC dI cI cJ cB ra ra1 ra2 ra3 sz ra_n v_ra p0 p1 n9 r1) 0 0 (va_A (ww_X2_comparey_s dC dI cI cJ cB ra ra1 ra2 ra3 sz ra_n v_ra p0 p1 n9 r1) sz) := by
  unfold fx_X2_compare_s at hf
  refine Met.ofW (cc := cX2_compare) (maxL := 9) (ret := (some .int)) (by decide) rfl ?_
  intro p e s m args below meth c s₁ B hml hv
  obtain ⟨rfl, hsz, hnw, hP, hK, hD0⟩ := hv
  have hx := B.exec
  have hb := B.bytes
  have hr := B.returns
  have hts := atoms_spec (ws := wo_X2_comparey_s) B.pre
  have hown : s.vm.findClass RX2 = some m.cls := findClass_of_methodNamed B.named
  have hlocks := B.notSynchronized
  clear B
  subst hsz
  have hD := hD0.self (sz := s.heap.size)
  clear hD0
  have hA : ∀ q : Nat, s.heap.size ≤ q → (va_A (ww_X2_comparey_s dC dI cI cJ cB ra ra1 ra2 ra3 s.heap.size ra_n v_ra p0 p1 n9 r1) s.heap.size) q := fun q h => Or.inr h
  have hS : va_S (va_A (ww_X2_comparey_s dC dI cI cJ cB ra ra1 ra2 ra3 s.heap.size ra_n v_ra p0 p1 n9 r1) s.heap.size) s.heap s.heap [] := va_S.rf
  have hl := lv_entry ([.ref ra, .int p0, .ref ra, .int p1]) (n := 9) (Nat.le_of_ble_eq_true rfl)
  rw [lg_entry_eq]
  generalize (lg_sl ([.ref ra, .int p0, .ref ra, .int p1]) ++ List.replicate (9 - (lg_sl ([.ref ra, .int p0, .ref ra, .int p1])).length) Slot.unset).toArray = ls at hl ⊢
  have hl : lv_has ls 9 [(0, .ref ra), (1, .int p0), (2, .ref ra), (3, .int p1)] := hl
  have hP : va_P (dC, dI) vwCl [(ra, .inr (2, [.ref ra1, .ref ra2, .ref ra3, .int (v_ra 0 0)])), (ra1, .inl (cI, ra_n * 20, .inl (v_ra 1))), (ra2, .inl (cI, ra_n, .inl (v_ra 2))), (ra3, .inl (cI, 21, .inl (v_ra 3)))] s.heap := hP
  have hD : va_D (va_A (ww_X2_comparey_s dC dI cI cJ cB ra ra1 ra2 ra3 s.heap.size ra_n v_ra p0 p1 n9 r1) s.heap.size) [(ra, .inr (2, [.ref ra1, .ref ra2, .ref ra3, .int (v_ra 0 0)])), (ra1, .inl (cI, ra_n * 20, .inl (v_ra 1))), (ra2, .inl (cI, ra_n, .inl (v_ra 2))), (ra3, .inl (cI, 21, .inl (v_ra 3)))] := hD
  obtain ⟨H, hH⟩ : ∃ H, H = s.heap := ⟨_, rfl⟩
  obtain ⟨locs, hlc⟩ : ∃ L : List Loc, L = [] := ⟨_, rfl⟩
  have hS : va_S (va_A (ww_X2_comparey_s dC dI cI cJ cB ra ra1 ra2 ra3 s.heap.size ra_n v_ra p0 p1 n9 r1) s.heap.size) s.heap H locs := by rw [hH, hlc]; exact hS
  have hP : va_P (dC, dI) vwCl [(ra, .inr (2, [.ref ra1, .ref ra2, .ref ra3, .int (v_ra 0 0)])), (ra1, .inl (cI, ra_n * 20, .inl (v_ra 1))), (ra2, .inl (cI, ra_n, .inl (v_ra 2))), (ra3, .inl (cI, 21, .inl (v_ra 3)))] H := by rw [hH]; exact hP
  suffices hgo : WW_X2_comparey_s p l e s m below meth c dC dI cI cJ cB ra ra1 ra2 ra3 s.heap.size ra_n v_ra p0 p1 n9 r1 H locs (F0 m 0 ls []) by rw [hH, hlc] at hgo; exact hgo
  clear hH hlc
  have L_17 : ∀ (N_17 : Nat), ∀ (x4 : Int32) (x5 : Int32) (x6 : Int32), lx_X2_compare_s_17 n9 ra_n v_ra p0 p1 N_17 x4 x5 x6 = some (r1) → ∀ (H : Heap) (locs : List Loc), va_P (dC, dI) vwCl [(ra, .inr (2, [.ref ra1, .ref ra2, .ref ra3, .int (v_ra 0 0)])), (ra1, .inl (cI, ra_n * 20, .inl (v_ra 1))), (ra2, .inl (cI, ra_n, .inl (v_ra 2))), (ra3, .inl (cI, 21, .inl (v_ra 3)))] H → va_D (va_A (ww_X2_comparey_s dC dI cI cJ cB ra ra1 ra2 ra3 s.heap.size ra_n v_ra p0 p1 n9 r1) s.heap.size) [(ra, .inr (2, [.ref ra1, .ref ra2, .ref ra3, .int (v_ra 0 0)])), (ra1, .inl (cI, ra_n * 20, .inl (v_ra 1))), (ra2, .inl (cI, ra_n, .inl (v_ra 2))), (ra3, .inl (cI, 21, .inl (v_ra 3)))] → va_S (va_A (ww_X2_comparey_s dC dI cI cJ cB ra ra1 ra2 ra3 s.heap.size ra_n v_ra p0 p1 n9 r1) s.heap.size) s.heap H locs → ∀ ls : Array Slot, lv_has ls 9 [(0, .ref ra), (1, .int p0), (2, .ref ra), (3, .int p1), (4, .int x4), (5, .int x5), (6, .int x6)] → WW_X2_comparey_s p l e s m below meth c dC dI cI cJ cB ra ra1 ra2 ra3 s.heap.size ra_n v_ra p0 p1 n9 r1 H locs (F0 m 17 ls []) := by
    intro N_17
    induction N_17 with
    | zero => intro x4 x5 x6 hf; exact xn_to hf
    | succ N_17 ih_17 =>
      intro x4 x5 x6 hf H locs hP hD hS ls hl
      replace hf : bx_X2_compare_s_17 n9 ra_n v_ra p0 p1 (lx_X2_compare_s_17 n9 ra_n v_ra p0 p1 N_17) x4 x5 x6 = some (r1) := hf
      generalize lx_X2_compare_s_17 n9 ra_n v_ra p0 p1 N_17 = k_17 at hf ih_17
      unfold bx_X2_compare_s_17 at hf
      refine lv_iload hx hb dX2_compare_17 (lv_at hl 6 rfl) ?_
      refine lv_iload hx hb dX2_compare_19 (lv_at hl 4 rfl) ?_
      refine lv_icmp_ge (tgt := 75) hx hb dX2_compare_21 (by decide) (fun c_1 => ?_) (fun c_1 => ?_)
      · replace hf := xi_t c_1 hf
        refine lv_iload hx hb dX2_compare_75 (lv_at hl 4 rfl) ?_
        refine lv_iload hx hb dX2_compare_77 (lv_at hl 5 rfl) ?_
        replace hf := xb1_to hf
        obtain ⟨o_2, g_3, hf⟩ := hf
        have hPc := hP.sub (ws' := []) [] rfl
        have hDc := hD.sub (ws' := []) [] (by decide) rfl
        have hFc := va_free (wc := []) hD hS hA [] rfl
        refine va_calli (va_runS (As := [.int x4, .int x5]) (rest := []) ⟨hx, hb, hml, hown, hts⟩ (c_J6_compare_7cf53y l dC dI cI cJ cB  H.size x4 x5 n9 o_2 g_3) (va_cwS 2 hts go_wo_X2_comparey_s_0 rfl rfl rfl (by decide +kernel) ⟨Nat.le_of_ble_eq_true rfl, Nat.le_of_ble_eq_true rfl⟩) ⟨fun a U g mk q => by obtain ⟨q0, q1, qN, qP, qK, qD⟩ := q; exact ⟨q0, q1, NW.calling qN, qP, va_K.moved (u := U) (U := U.calling g mk a) (Vm.Alike.refl U.vm) qK, qD⟩, fun U hU hW => ⟨rfl, by rw [hU], NW.warm hW hnw, by rw [hU]; exact hPc, va_K.moved hW.alike hK, hDc.weaken (fun _ _ _ _ => trivial)⟩⟩ rfl rfl hl.1 rfl (lv_room (Nat.le_of_ble_eq_true rfl)) dX2_compare_79 ⟨Nat.zero_le _, Nat.zero_le _⟩) hS (fun q _ h => hFc q h) hFc (fun r_4 u t H1 locs ht hvm hw hB hz1 hk1 hS => ?_)
        cases u
        obtain ⟨hP1, hK1, hD1⟩ := hB
        rw [ht] at hP1
        have hw : (r_4 = o_2) := hw
        subst hw
        obtain ⟨hP, hD⟩ := va_join (wr := [(ra, .inr (2, [.ref ra1, .ref ra2, .ref ra3, .int (v_ra 0 0)])), (ra1, .inl (cI, ra_n * 20, .inl (v_ra 1))), (ra2, .inl (cI, ra_n, .inl (v_ra 2))), (ra3, .inl (cI, 21, .inl (v_ra 3)))]) (w1 := []) hP hD [] [0, 1, 2, 3] rfl rfl (by decide) (by decide) hk1 hFc hP1 hD1
        generalize H1 = H at hP hS ⊢
        have hP : va_P (dC, dI) vwCl [(ra, .inr (2, [.ref ra1, .ref ra2, .ref ra3, .int (v_ra 0 0)])), (ra1, .inl (cI, ra_n * 20, .inl (v_ra 1))), (ra2, .inl (cI, ra_n, .inl (v_ra 2))), (ra3, .inl (cI, 21, .inl (v_ra 3)))] H := hP
        have hD : va_D (va_A (ww_X2_comparey_s dC dI cI cJ cB ra ra1 ra2 ra3 s.heap.size ra_n v_ra p0 p1 n9 r1) s.heap.size) [(ra, .inr (2, [.ref ra1, .ref ra2, .ref ra3, .int (v_ra 0 0)])), (ra1, .inl (cI, ra_n * 20, .inl (v_ra 1))), (ra2, .inl (cI, ra_n, .inl (v_ra 2))), (ra3, .inl (cI, 21, .inl (v_ra 3)))] := hD
        clear hPc hDc hFc hP1 hK1 hD1 hk1 hz1 ht hvm g_3
        have hP9 := hP.sub (ws' := [(ra, .inr (2, [.ref ra1, .ref ra2, .ref ra3, .int (v_ra 0 0)])), (ra1, .inl (cI, ra_n * 20, .inl (v_ra 1))), (ra2, .inl (cI, ra_n, .inl (v_ra 2))), (ra3, .inl (cI, 21, .inl (v_ra 3)))]) [0, 1, 2, 3] rfl
        have hD9 := hD.sub (ws' := [(ra, .inr (2, [.ref ra1, .ref ra2, .ref ra3, .int (v_ra 0 0)])), (ra1, .inl (cI, ra_n * 20, .inl (v_ra 1))), (ra2, .inl (cI, ra_n, .inl (v_ra 2))), (ra3, .inl (cI, 21, .inl (v_ra 3)))]) [0, 1, 2, 3] (by decide) rfl
        have r9_0 : r_4 = r1 := (Option.some.inj hf)
        exact W.iret (v := r_4) hx hb hr (fun t ht hW => ⟨⟨r_4, (), rfl, r9_0, by rw [ht]; exact hP9, va_K.moved hW.alike hK, hD9⟩, hS.F ht⟩) hS.2.2 dX2_compare_82
      · replace hf := xi_f c_1 hf
        refine lv_iload hx hb dX2_compare_24 (lv_at hl 6 rfl) ?_
        refine lv_iload hx hb dX2_compare_26 (lv_at hl 5 rfl) ?_
        refine lv_icmp_ge (tgt := 75) hx hb dX2_compare_28 (by decide) (fun c_6 => ?_) (fun c_6 => ?_)
        · replace hf := xi_t c_6 hf
          refine lv_iload hx hb dX2_compare_75 (lv_at hl 4 rfl) ?_
          refine lv_iload hx hb dX2_compare_77 (lv_at hl 5 rfl) ?_
          replace hf := xb1_to hf
          obtain ⟨o_7, g_8, hf⟩ := hf
          have hPc := hP.sub (ws' := []) [] rfl
          have hDc := hD.sub (ws' := []) [] (by decide) rfl
          have hFc := va_free (wc := []) hD hS hA [] rfl
          refine va_calli (va_runS (As := [.int x4, .int x5]) (rest := []) ⟨hx, hb, hml, hown, hts⟩ (c_J6_compare_7cf53y l dC dI cI cJ cB  H.size x4 x5 n9 o_7 g_8) (va_cwS 2 hts go_wo_X2_comparey_s_0 rfl rfl rfl (by decide +kernel) ⟨Nat.le_of_ble_eq_true rfl, Nat.le_of_ble_eq_true rfl⟩) ⟨fun a U g mk q => by obtain ⟨q0, q1, qN, qP, qK, qD⟩ := q; exact ⟨q0, q1, NW.calling qN, qP, va_K.moved (u := U) (U := U.calling g mk a) (Vm.Alike.refl U.vm) qK, qD⟩, fun U hU hW => ⟨rfl, by rw [hU], NW.warm hW hnw, by rw [hU]; exact hPc, va_K.moved hW.alike hK, hDc.weaken (fun _ _ _ _ => trivial)⟩⟩ rfl rfl hl.1 rfl (lv_room (Nat.le_of_ble_eq_true rfl)) dX2_compare_79 ⟨Nat.zero_le _, Nat.zero_le _⟩) hS (fun q _ h => hFc q h) hFc (fun r_9 u t H1 locs ht hvm hw hB hz1 hk1 hS => ?_)
          cases u
          obtain ⟨hP1, hK1, hD1⟩ := hB
          rw [ht] at hP1
          have hw : (r_9 = o_7) := hw
          subst hw
          obtain ⟨hP, hD⟩ := va_join (wr := [(ra, .inr (2, [.ref ra1, .ref ra2, .ref ra3, .int (v_ra 0 0)])), (ra1, .inl (cI, ra_n * 20, .inl (v_ra 1))), (ra2, .inl (cI, ra_n, .inl (v_ra 2))), (ra3, .inl (cI, 21, .inl (v_ra 3)))]) (w1 := []) hP hD [] [0, 1, 2, 3] rfl rfl (by decide) (by decide) hk1 hFc hP1 hD1
          generalize H1 = H at hP hS ⊢
          have hP : va_P (dC, dI) vwCl [(ra, .inr (2, [.ref ra1, .ref ra2, .ref ra3, .int (v_ra 0 0)])), (ra1, .inl (cI, ra_n * 20, .inl (v_ra 1))), (ra2, .inl (cI, ra_n, .inl (v_ra 2))), (ra3, .inl (cI, 21, .inl (v_ra 3)))] H := hP
          have hD : va_D (va_A (ww_X2_comparey_s dC dI cI cJ cB ra ra1 ra2 ra3 s.heap.size ra_n v_ra p0 p1 n9 r1) s.heap.size) [(ra, .inr (2, [.ref ra1, .ref ra2, .ref ra3, .int (v_ra 0 0)])), (ra1, .inl (cI, ra_n * 20, .inl (v_ra 1))), (ra2, .inl (cI, ra_n, .inl (v_ra 2))), (ra3, .inl (cI, 21, .inl (v_ra 3)))] := hD
          clear hPc hDc hFc hP1 hK1 hD1 hk1 hz1 ht hvm g_8
          have hP9 := hP.sub (ws' := [(ra, .inr (2, [.ref ra1, .ref ra2, .ref ra3, .int (v_ra 0 0)])), (ra1, .inl (cI, ra_n * 20, .inl (v_ra 1))), (ra2, .inl (cI, ra_n, .inl (v_ra 2))), (ra3, .inl (cI, 21, .inl (v_ra 3)))]) [0, 1, 2, 3] rfl
          have hD9 := hD.sub (ws' := [(ra, .inr (2, [.ref ra1, .ref ra2, .ref ra3, .int (v_ra 0 0)])), (ra1, .inl (cI, ra_n * 20, .inl (v_ra 1))), (ra2, .inl (cI, ra_n, .inl (v_ra 2))), (ra3, .inl (cI, 21, .inl (v_ra 3)))]) [0, 1, 2, 3] (by decide) rfl
          have r9_0 : r_9 = r1 := (Option.some.inj hf)
          exact W.iret (v := r_9) hx hb hr (fun t ht hW => ⟨⟨r_9, (), rfl, r9_0, by rw [ht]; exact hP9, va_K.moved hW.alike hK, hD9⟩, hS.F ht⟩) hS.2.2 dX2_compare_82
        · replace hf := xi_f c_6 hf
          refine lv_aload_n hx hb dX2_compare_31 rfl (lv_at hl 0 rfl) ?_
          refine lv_iload_n hx hb dX2_compare_32 rfl (lv_at hl 1 rfl) ?_
          refine lv_iload hx hb dX2_compare_33 (lv_at hl 6 rfl) ?_
          replace hf := xb1_to hf
          obtain ⟨o_11, g_12, hf⟩ := hf
          have hPc := hP.sub (ws' := [(ra, .inr (2, [.ref ra1, .ref ra2, .ref ra3, .int (v_ra 0 0)])), (ra1, .inl (cI, ra_n * 20, .inl (v_ra 1))), (ra2, .inl (cI, ra_n, .inl (v_ra 2))), (ra3, .inl (cI, 21, .inl (v_ra 3)))]) [0, 1, 2, 3] rfl
          have hDc := hD.sub (ws' := [(ra, .inr (2, [.ref ra1, .ref ra2, .ref ra3, .int (v_ra 0 0)])), (ra1, .inl (cI, ra_n * 20, .inl (v_ra 1))), (ra2, .inl (cI, ra_n, .inl (v_ra 2))), (ra3, .inl (cI, 21, .inl (v_ra 3)))]) [0, 1, 2, 3] (by decide) rfl
          have hFc := va_free (wc := [(ra, .inr (2, [.ref ra1, .ref ra2, .ref ra3, .int (v_ra 0 0)])), (ra1, .inl (cI, ra_n * 20, .inl (v_ra 1))), (ra2, .inl (cI, ra_n, .inl (v_ra 2))), (ra3, .inl (cI, 21, .inl (v_ra 3)))]) hD hS hA [0, 1, 2, 3] rfl
          refine va_calli (va_runV (As := [.int p0, .int x6]) (rest := []) ⟨hx, hb, hml, hown, hts⟩ (c_X2_cellAty l dC dI cI cJ cB ra ra1 ra2 ra3 H.size ra_n v_ra p0 x6 n9 o_11 g_12) (cwV 2 hts go_wo_X2_comparey_s_1 rfl rfl rfl (by decide +kernel) ⟨Nat.le_of_ble_eq_true rfl, Nat.le_of_ble_eq_true rfl⟩) ⟨fun a U g mk q => by obtain ⟨q0, q1, qN, qP, qK, qD⟩ := q; exact ⟨q0, q1, NW.calling qN, qP, va_K.moved (u := U) (U := U.calling g mk a) (Vm.Alike.refl U.vm) qK, qD⟩, va_recv hK hPc (ci := 2) (q0 := 0) rfl rfl, fun U hU hW => ⟨rfl, by rw [hU], NW.warm hW hnw, by rw [hU]; exact hPc, va_K.moved hW.alike hK, hDc.weaken (fun _ _ _ _ => trivial)⟩⟩ rfl rfl hl.1 rfl (lv_room (Nat.le_of_ble_eq_true rfl)) dX2_compare_35 ⟨Nat.zero_le _, Nat.zero_le _⟩) hS (fun q _ h => hFc q h) hFc (fun r_13 u t H1 locs ht hvm hw hB hz1 hk1 hS => ?_)
          cases u
          obtain ⟨hP1, hK1, hD1⟩ := hB
          rw [ht] at hP1
          have hw : (r_13 = o_11) := hw
          subst hw
          obtain ⟨hP, hD⟩ := va_join (wr := []) (w1 := [(ra, .inr (2, [.ref ra1, .ref ra2, .ref ra3, .int (v_ra 0 0)])), (ra1, .inl (cI, ra_n * 20, .inl (v_ra 1))), (ra2, .inl (cI, ra_n, .inl (v_ra 2))), (ra3, .inl (cI, 21, .inl (v_ra 3)))]) hP hD [0, 1, 2, 3] [] rfl rfl (by decide) (by decide) hk1 hFc hP1 hD1
          generalize H1 = H at hP hS ⊢
          have hP : va_P (dC, dI) vwCl [(ra, .inr (2, [.ref ra1, .ref ra2, .ref ra3, .int (v_ra 0 0)])), (ra1, .inl (cI, ra_n * 20, .inl (v_ra 1))), (ra2, .inl (cI, ra_n, .inl (v_ra 2))), (ra3, .inl (cI, 21, .inl (v_ra 3)))] H := hP
          have hD : va_D (va_A (ww_X2_comparey_s dC dI cI cJ cB ra ra1 ra2 ra3 s.heap.size ra_n v_ra p0 p1 n9 r1) s.heap.size) [(ra, .inr (2, [.ref ra1, .ref ra2, .ref ra3, .int (v_ra 0 0)])), (ra1, .inl (cI, ra_n * 20, .inl (v_ra 1))), (ra2, .inl (cI, ra_n, .inl (v_ra 2))), (ra3, .inl (cI, 21, .inl (v_ra 3)))] := hD
          clear hPc hDc hFc hP1 hK1 hD1 hk1 hz1 ht hvm g_12
          refine lv_istore (lv' := [(7, .int r_13), (0, .ref ra), (1, .int p0), (2, .ref ra), (3, .int p1), (4, .int x4), (5, .int x5), (6, .int x6)]) hx hb dX2_compare_38 hl (by decide) rfl (fun ls hl => ?_)
          refine lv_aload_n hx hb dX2_compare_40 rfl (lv_at hl 3 rfl) ?_
          refine lv_iload_n hx hb dX2_compare_41 rfl (lv_at hl 4 rfl) ?_
          refine lv_iload hx hb dX2_compare_42 (lv_at hl 7 rfl) ?_
          replace hf := xb1_to hf
          obtain ⟨o_15, g_16, hf⟩ := hf
          have hPc := hP.sub (ws' := [(ra, .inr (2, [.ref ra1, .ref ra2, .ref ra3, .int (v_ra 0 0)])), (ra1, .inl (cI, ra_n * 20, .inl (v_ra 1))), (ra2, .inl (cI, ra_n, .inl (v_ra 2))), (ra3, .inl (cI, 21, .inl (v_ra 3)))]) [0, 1, 2, 3] rfl
          have hDc := hD.sub (ws' := [(ra, .inr (2, [.ref ra1, .ref ra2, .ref ra3, .int (v_ra 0 0)])), (ra1, .inl (cI, ra_n * 20, .inl (v_ra 1))), (ra2, .inl (cI, ra_n, .inl (v_ra 2))), (ra3, .inl (cI, 21, .inl (v_ra 3)))]) [0, 1, 2, 3] (by decide) rfl
          have hFc := va_free (wc := [(ra, .inr (2, [.ref ra1, .ref ra2, .ref ra3, .int (v_ra 0 0)])), (ra1, .inl (cI, ra_n * 20, .inl (v_ra 1))), (ra2, .inl (cI, ra_n, .inl (v_ra 2))), (ra3, .inl (cI, 21, .inl (v_ra 3)))]) hD hS hA [0, 1, 2, 3] rfl
          refine va_calli (va_runV (As := [.int p1, .int x6]) (rest := []) ⟨hx, hb, hml, hown, hts⟩ (c_X2_cellAty l dC dI cI cJ cB ra ra1 ra2 ra3 H.size ra_n v_ra p1 x6 n9 o_15 g_16) (cwV 2 hts go_wo_X2_comparey_s_1 rfl rfl rfl (by decide +kernel) ⟨Nat.le_of_ble_eq_true rfl, Nat.le_of_ble_eq_true rfl⟩) ⟨fun a U g mk q => by obtain ⟨q0, q1, qN, qP, qK, qD⟩ := q; exact ⟨q0, q1, NW.calling qN, qP, va_K.moved (u := U) (U := U.calling g mk a) (Vm.Alike.refl U.vm) qK, qD⟩, va_recv hK hPc (ci := 2) (q0 := 0) rfl rfl, fun U hU hW => ⟨rfl, by rw [hU], NW.warm hW hnw, by rw [hU]; exact hPc, va_K.moved hW.alike hK, hDc.weaken (fun _ _ _ _ => trivial)⟩⟩ rfl rfl hl.1 rfl (lv_room (Nat.le_of_ble_eq_true rfl)) dX2_compare_44 ⟨Nat.zero_le _, Nat.zero_le _⟩) hS (fun q _ h => hFc q h) hFc (fun r_17 u t H1 locs ht hvm hw hB hz1 hk1 hS => ?_)
          cases u
          obtain ⟨hP1, hK1, hD1⟩ := hB
          rw [ht] at hP1
          have hw : (r_17 = o_15) := hw
          subst hw
          obtain ⟨hP, hD⟩ := va_join (wr := []) (w1 := [(ra, .inr (2, [.ref ra1, .ref ra2, .ref ra3, .int (v_ra 0 0)])), (ra1, .inl (cI, ra_n * 20, .inl (v_ra 1))), (ra2, .inl (cI, ra_n, .inl (v_ra 2))), (ra3, .inl (cI, 21, .inl (v_ra 3)))]) hP hD [0, 1, 2, 3] [] rfl rfl (by decide) (by decide) hk1 hFc hP1 hD1
          generalize H1 = H at hP hS ⊢
          have hP : va_P (dC, dI) vwCl [(ra, .inr (2, [.ref ra1, .ref ra2, .ref ra3, .int (v_ra 0 0)])), (ra1, .inl (cI, ra_n * 20, .inl (v_ra 1))), (ra2, .inl (cI, ra_n, .inl (v_ra 2))), (ra3, .inl (cI, 21, .inl (v_ra 3)))] H := hP
          have hD : va_D (va_A (ww_X2_comparey_s dC dI cI cJ cB ra ra1 ra2 ra3 s.heap.size ra_n v_ra p0 p1 n9 r1) s.heap.size) [(ra, .inr (2, [.ref ra1, .ref ra2, .ref ra3, .int (v_ra 0 0)])), (ra1, .inl (cI, ra_n * 20, .inl (v_ra 1))), (ra2, .inl (cI, ra_n, .inl (v_ra 2))), (ra3, .inl (cI, 21, .inl (v_ra 3)))] := hD
          clear hPc hDc hFc hP1 hK1 hD1 hk1 hz1 ht hvm g_16
          refine lv_istore (lv' := [(8, .int r_17), (7, .int r_13), (0, .ref ra), (1, .int p0), (2, .ref ra), (3, .int p1), (4, .int x4), (5, .int x5), (6, .int x6)]) hx hb dX2_compare_47 hl (by decide) rfl (fun ls hl => ?_)
          refine lv_iload hx hb dX2_compare_49 (lv_at hl 1 rfl) ?_
          refine lv_iload hx hb dX2_compare_51 (lv_at hl 0 rfl) ?_
          refine lv_icmp_eq (tgt := 69) hx hb dX2_compare_53 (by decide) (fun c_19 => ?_) (fun c_19 => ?_)
          · replace hf := xi_t c_19 hf
            obtain ⟨x6_20, ex6_20⟩ : ∃ y : Int32, y = x6 + (1) := ⟨_, rfl⟩
            refine lv_iinc (v := x6_20) (lv' := [(6, .int x6_20), (8, .int r_17), (7, .int r_13), (0, .ref ra), (1, .int p0), (2, .ref ra), (3, .int p1), (4, .int x4), (5, .int x5)]) hx hb dX2_compare_69 hl (k := 8) rfl (by rw [ex6_20]; rfl) (by decide) rfl (fun ls hl => ?_)
            replace hf := xl_to ex6_20 hf
            refine lv_goto (tgt := 17) hx hb dX2_compare_72 (by decide) ?_
            exact ih_17 x4 x5 x6_20 hf _ _ (hP.sub [0, 1, 2, 3] rfl) (hD.sub [0, 1, 2, 3] (by decide) rfl) hS ls (lv_sub hl [3, 4, 5, 6, 7, 8, 0] rfl)
          · replace hf := xi_f c_19 hf
            refine lv_iload hx hb dX2_compare_56 (lv_at hl 1 rfl) ?_
            refine lv_iload hx hb dX2_compare_58 (lv_at hl 0 rfl) ?_
            refine lv_icmp_ge (tgt := 67) hx hb dX2_compare_60 (by decide) (fun c_21 => ?_) (fun c_21 => ?_)
            · replace hf := xi_t c_21 hf
              refine lv_iconst (v := 1) hx hb dX2_compare_67 (by decide) ?_
              have hP9 := hP.sub (ws' := [(ra, .inr (2, [.ref ra1, .ref ra2, .ref ra3, .int (v_ra 0 0)])), (ra1, .inl (cI, ra_n * 20, .inl (v_ra 1))), (ra2, .inl (cI, ra_n, .inl (v_ra 2))), (ra3, .inl (cI, 21, .inl (v_ra 3)))]) [0, 1, 2, 3] rfl
              have hD9 := hD.sub (ws' := [(ra, .inr (2, [.ref ra1, .ref ra2, .ref ra3, .int (v_ra 0 0)])), (ra1, .inl (cI, ra_n * 20, .inl (v_ra 1))), (ra2, .inl (cI, ra_n, .inl (v_ra 2))), (ra3, .inl (cI, 21, .inl (v_ra 3)))]) [0, 1, 2, 3] (by decide) rfl
              have r9_0 : (1 : Int32) = r1 := (Option.some.inj hf)
              exact W.iret (v := (1 : Int32)) hx hb hr (fun t ht hW => ⟨⟨(1 : Int32), (), rfl, r9_0, by rw [ht]; exact hP9, va_K.moved hW.alike hK, hD9⟩, hS.F ht⟩) hS.2.2 dX2_compare_68
            · replace hf := xi_f c_21 hf
              refine lv_iconst (v := -1) hx hb dX2_compare_63 (by decide) ?_
              refine lv_goto (tgt := 68) hx hb dX2_compare_64 (by decide) ?_
              have hP9 := hP.sub (ws' := [(ra, .inr (2, [.ref ra1, .ref ra2, .ref ra3, .int (v_ra 0 0)])), (ra1, .inl (cI, ra_n * 20, .inl (v_ra 1))), (ra2, .inl (cI, ra_n, .inl (v_ra 2))), (ra3, .inl (cI, 21, .inl (v_ra 3)))]) [0, 1, 2, 3] rfl
              have hD9 := hD.sub (ws' := [(ra, .inr (2, [.ref ra1, .ref ra2, .ref ra3, .int (v_ra 0 0)])), (ra1, .inl (cI, ra_n * 20, .inl (v_ra 1))), (ra2, .inl (cI, ra_n, .inl (v_ra 2))), (ra3, .inl (cI, 21, .inl (v_ra 3)))]) [0, 1, 2, 3] (by decide) rfl
              have r9_0 : (-1 : Int32) = r1 := (Option.some.inj hf)
              exact W.iret (v := (-1 : Int32)) hx hb hr (fun t ht hW => ⟨⟨(-1 : Int32), (), rfl, r9_0, by rw [ht]; exact hP9, va_K.moved hW.alike hK, hD9⟩, hS.F ht⟩) hS.2.2 dX2_compare_68
  refine lv_aload_n hx hb dX2_compare_0 rfl (lv_at hl 0 rfl) ?_
  refine lv_iload_n hx hb dX2_compare_1 rfl (lv_at hl 1 rfl) ?_
  replace hf := xb1_to hf
  obtain ⟨o_22, g_23, hf⟩ := hf
  have hPc := hP.sub (ws' := [(ra, .inr (2, [.ref ra1, .ref ra2, .ref ra3, .int (v_ra 0 0)])), (ra1, .inl (cI, ra_n * 20, .inl (v_ra 1))), (ra2, .inl (cI, ra_n, .inl (v_ra 2))), (ra3, .inl (cI, 21, .inl (v_ra 3)))]) [0, 1, 2, 3] rfl
  have hDc := hD.sub (ws' := [(ra, .inr (2, [.ref ra1, .ref ra2, .ref ra3, .int (v_ra 0 0)])), (ra1, .inl (cI, ra_n * 20, .inl (v_ra 1))), (ra2, .inl (cI, ra_n, .inl (v_ra 2))), (ra3, .inl (cI, 21, .inl (v_ra 3)))]) [0, 1, 2, 3] (by decide) rfl
  have hFc := va_free (wc := [(ra, .inr (2, [.ref ra1, .ref ra2, .ref ra3, .int (v_ra 0 0)])), (ra1, .inl (cI, ra_n * 20, .inl (v_ra 1))), (ra2, .inl (cI, ra_n, .inl (v_ra 2))), (ra3, .inl (cI, 21, .inl (v_ra 3)))]) hD hS hA [0, 1, 2, 3] rfl
  refine va_calli (va_runV (As := [.int p0]) (rest := []) ⟨hx, hb, hml, hown, hts⟩ (c_X2_lengthOfy l dC dI cI cJ cB ra ra1 ra2 ra3 H.size ra_n v_ra p0 n9 o_22 g_23) (cwV 1 hts go_wo_X2_comparey_s_2 rfl rfl rfl (by decide +kernel) ⟨Nat.le_of_ble_eq_true rfl, Nat.le_of_ble_eq_true rfl⟩) ⟨fun a U g mk q => by obtain ⟨q0, q1, qN, qP, qK, qD⟩ := q; exact ⟨q0, q1, NW.calling qN, qP, va_K.moved (u := U) (U := U.calling g mk a) (Vm.Alike.refl U.vm) qK, qD⟩, va_recv hK hPc (ci := 2) (q0 := 0) rfl rfl, fun U hU hW => ⟨rfl, by rw [hU], NW.warm hW hnw, by rw [hU]; exact hPc, va_K.moved hW.alike hK, hDc.weaken (fun _ _ _ _ => trivial)⟩⟩ rfl rfl hl.1 rfl (lv_room (Nat.le_of_ble_eq_true rfl)) dX2_compare_2 ⟨Nat.zero_le _, Nat.zero_le _⟩) hS (fun q _ h => hFc q h) hFc (fun r_24 u t H1 locs ht hvm hw hB hz1 hk1 hS => ?_)
  cases u
  obtain ⟨hP1, hK1, hD1⟩ := hB
  rw [ht] at hP1
  have hw : (r_24 = o_22) := hw
  subst hw
  obtain ⟨hP, hD⟩ := va_join (wr := []) (w1 := [(ra, .inr (2, [.ref ra1, .ref ra2, .ref ra3, .int (v_ra 0 0)])), (ra1, .inl (cI, ra_n * 20, .inl (v_ra 1))), (ra2, .inl (cI, ra_n, .inl (v_ra 2))), (ra3, .inl (cI, 21, .inl (v_ra 3)))]) hP hD [0, 1, 2, 3] [] rfl rfl (by decide) (by decide) hk1 hFc hP1 hD1
  generalize H1 = H at hP hS ⊢
  have hP : va_P (dC, dI) vwCl [(ra, .inr (2, [.ref ra1, .ref ra2, .ref ra3, .int (v_ra 0 0)])), (ra1, .inl (cI, ra_n * 20, .inl (v_ra 1))), (ra2, .inl (cI, ra_n, .inl (v_ra 2))), (ra3, .inl (cI, 21, .inl (v_ra 3)))] H := hP
  have hD : va_D (va_A (ww_X2_comparey_s dC dI cI cJ cB ra ra1 ra2 ra3 s.heap.size ra_n v_ra p0 p1 n9 r1) s.heap.size) [(ra, .inr (2, [.ref ra1, .ref ra2, .ref ra3, .int (v_ra 0 0)])), (ra1, .inl (cI, ra_n * 20, .inl (v_ra 1))), (ra2, .inl (cI, ra_n, .inl (v_ra 2))), (ra3, .inl (cI, 21, .inl (v_ra 3)))] := hD
  clear hPc hDc hFc hP1 hK1 hD1 hk1 hz1 ht hvm g_23
  refine lv_istore (lv' := [(4, .int r_24), (0, .ref ra), (1, .int p0), (2, .ref ra), (3, .int p1)]) hx hb dX2_compare_5 hl (by decide) rfl (fun ls hl => ?_)
  refine lv_aload_n hx hb dX2_compare_7 rfl (lv_at hl 3 rfl) ?_
  refine lv_iload_n hx hb dX2_compare_8 rfl (lv_at hl 4 rfl) ?_
  replace hf := xb1_to hf
  obtain ⟨o_26, g_27, hf⟩ := hf
  have hPc := hP.sub (ws' := [(ra, .inr (2, [.ref ra1, .ref ra2, .ref ra3, .int (v_ra 0 0)])), (ra1, .inl (cI, ra_n * 20, .inl (v_ra 1))), (ra2, .inl (cI, ra_n, .inl (v_ra 2))), (ra3, .inl (cI, 21, .inl (v_ra 3)))]) [0, 1, 2, 3] rfl
  have hDc := hD.sub (ws' := [(ra, .inr (2, [.ref ra1, .ref ra2, .ref ra3, .int (v_ra 0 0)])), (ra1, .inl (cI, ra_n * 20, .inl (v_ra 1))), (ra2, .inl (cI, ra_n, .inl (v_ra 2))), (ra3, .inl (cI, 21, .inl (v_ra 3)))]) [0, 1, 2, 3] (by decide) rfl
  have hFc := va_free (wc := [(ra, .inr (2, [.ref ra1, .ref ra2, .ref ra3, .int (v_ra 0 0)])), (ra1, .inl (cI, ra_n * 20, .inl (v_ra 1))), (ra2, .inl (cI, ra_n, .inl (v_ra 2))), (ra3, .inl (cI, 21, .inl (v_ra 3)))]) hD hS hA [0, 1, 2, 3] rfl
  refine va_calli (va_runV (As := [.int p1]) (rest := []) ⟨hx, hb, hml, hown, hts⟩ (c_X2_lengthOfy l dC dI cI cJ cB ra ra1 ra2 ra3 H.size ra_n v_ra p1 n9 o_26 g_27) (cwV 1 hts go_wo_X2_comparey_s_2 rfl rfl rfl (by decide +kernel) ⟨Nat.le_of_ble_eq_true rfl, Nat.le_of_ble_eq_true rfl⟩) ⟨fun a U g mk q => by obtain ⟨q0, q1, qN, qP, qK, qD⟩ := q; exact ⟨q0, q1, NW.calling qN, qP, va_K.moved (u := U) (U := U.calling g mk a) (Vm.Alike.refl U.vm) qK, qD⟩, va_recv hK hPc (ci := 2) (q0 := 0) rfl rfl, fun U hU hW => ⟨rfl, by rw [hU], NW.warm hW hnw, by rw [hU]; exact hPc, va_K.moved hW.alike hK, hDc.weaken (fun _ _ _ _ => trivial)⟩⟩ rfl rfl hl.1 rfl (lv_room (Nat.le_of_ble_eq_true rfl)) dX2_compare_9 ⟨Nat.zero_le _, Nat.zero_le _⟩) hS (fun q _ h => hFc q h) hFc (fun r_28 u t H1 locs ht hvm hw hB hz1 hk1 hS => ?_)
  cases u
  obtain ⟨hP1, hK1, hD1⟩ := hB
  rw [ht] at hP1
  have hw : (r_28 = o_26) := hw
  subst hw
  obtain ⟨hP, hD⟩ := va_join (wr := []) (w1 := [(ra, .inr (2, [.ref ra1, .ref ra2, .ref ra3, .int (v_ra 0 0)])), (ra1, .inl (cI, ra_n * 20, .inl (v_ra 1))), (ra2, .inl (cI, ra_n, .inl (v_ra 2))), (ra3, .inl (cI, 21, .inl (v_ra 3)))]) hP hD [0, 1, 2, 3] [] rfl rfl (by decide) (by decide) hk1 hFc hP1 hD1
  generalize H1 = H at hP hS ⊢
  have hP : va_P (dC, dI) vwCl [(ra, .inr (2, [.ref ra1, .ref ra2, .ref ra3, .int (v_ra 0 0)])), (ra1, .inl (cI, ra_n * 20, .inl (v_ra 1))), (ra2, .inl (cI, ra_n, .inl (v_ra 2))), (ra3, .inl (cI, 21, .inl (v_ra 3)))] H := hP
  have hD : va_D (va_A (ww_X2_comparey_s dC dI cI cJ cB ra ra1 ra2 ra3 s.heap.size ra_n v_ra p0 p1 n9 r1) s.heap.size) [(ra, .inr (2, [.ref ra1, .ref ra2, .ref ra3, .int (v_ra 0 0)])), (ra1, .inl (cI, ra_n * 20, .inl (v_ra 1))), (ra2, .inl (cI, ra_n, .inl (v_ra 2))), (ra3, .inl (cI, 21, .inl (v_ra 3)))] := hD
  clear hPc hDc hFc hP1 hK1 hD1 hk1 hz1 ht hvm g_27
  refine lv_istore (lv' := [(5, .int r_28), (4, .int r_24), (0, .ref ra), (1, .int p0), (2, .ref ra), (3, .int p1)]) hx hb dX2_compare_12 hl (by decide) rfl (fun ls hl => ?_)
  refine lv_iconst (v := 0) hx hb dX2_compare_14 (by decide) ?_
  refine lv_istore (lv' := [(6, .int ((0 : Int32))), (5, .int r_28), (4, .int r_24), (0, .ref ra), (1, .int p0), (2, .ref ra), (3, .int p1)]) hx hb dX2_compare_15 hl (by decide) rfl (fun ls hl => ?_)
  exact L_17 n9 r_24 r_28 ((0 : Int32)) hf _ _ (hP.sub [0, 1, 2, 3] rfl) (hD.sub [0, 1, 2, 3] (by decide) rfl) hS ls (lv_sub hl [3, 4, 5, 6, 2, 1, 0] rfl)
def wo_X2_indexOfy : List Cond := .code yX2_indexOf cX2_indexOf 4 (some .int) :: (([.fieldLink RX2 30 "SumRewriter$Rows" "used" "I"] : List Cond) ++ ((wsX20) ++ ((wsV RX2 58 RX2 yX2_compare wo_X2_comparey))))
set_option maxRecDepth 20000 in
theorem go_wo_X2_indexOfy_1 : GoodIn wo_X2_indexOfy (wsV RX2 58 RX2 yX2_compare wo_X2_comparey) := goodIn_sub (fun _ h => (List.mem_cons_of_mem _ (List.mem_append_right _ (List.mem_append_right _ h)))) (by decide +kernel)
abbrev ww_X2_indexOfy (dC : Nat → ClassId) (dI : Nat → Nat → Nat) (cI cJ cB : ClassId) (ra ra1 ra2 ra3 rb rb1 rb2 rb3 : Nat) (sz : Nat) (ra_n : Nat) (v_ra : Nat → Nat → Int32) (rb_n : Nat) (v_rb : Nat → Nat → Int32) (p0 : Int32) (n9 : Nat) (r1 : Int32) : va_W := [(ra, .inr (2, [.ref ra1, .ref ra2, .ref ra3, .int (v_ra 0 0)])), (ra1, .inl (cI, ra_n * 20, .inl (v_ra 1))), (ra2, .inl (cI, ra_n, .inl (v_ra 2))), (ra3, .inl (cI, 21, .inl (v_ra 3))), (rb, .inr (2, [.ref rb1, .ref rb2, .ref rb3, .int (v_rb 0 0)])), (rb1, .inl (cI, rb_n * 20, .inl (v_rb 1))), (rb2, .inl (cI, rb_n, .inl (v_rb 2))), (rb3, .inl (cI, 21, .inl (v_rb 3)))]
abbrev at_X2_indexOfy (dC : Nat → ClassId) (dI : Nat → Nat → Nat) (cI cJ cB : ClassId) (ra ra1 ra2 ra3 rb rb1 rb2 rb3 : Nat) (sz : Nat) (ra_n : Nat) (v_ra : Nat → Nat → Int32) (rb_n : Nat) (v_rb : Nat → Nat → Int32) (p0 : Int32) (n9 : Nat) (r1 : Int32) (u : Unit) (t : State) : Prop := match u with
  | () => va_P (dC, dI) vwCl [(ra, .inr (2, [.ref ra1, .ref ra2, .ref ra3, .int (v_ra 0 0)])), (ra1, .inl (cI, ra_n * 20, .inl (v_ra 1))), (ra2, .inl (cI, ra_n, .inl (v_ra 2))), (ra3, .inl (cI, 21, .inl (v_ra 3))), (rb, .inr (2, [.ref rb1, .ref rb2, .ref rb3, .int (v_rb 0 0)])), (rb1, .inl (cI, rb_n * 20, .inl (v_rb 1))), (rb2, .inl (cI, rb_n, .inl (v_rb 2))), (rb3, .inl (cI, 21, .inl (v_rb 3)))] t.heap ∧ va_K (dC, dI) vwCl (tyL cI cJ cB) t ∧ va_D (va_A (ww_X2_indexOfy dC dI cI cJ cB ra ra1 ra2 ra3 rb rb1 rb2 rb3 sz ra_n v_ra rb_n v_rb p0 n9 r1) sz) [(ra, .inr (2, [.ref ra1, .ref ra2, .ref ra3, .int (v_ra 0 0)])), (ra1, .inl (cI, ra_n * 20, .inl (v_ra 1))), (ra2, .inl (cI, ra_n, .inl (v_ra 2))), (ra3, .inl (cI, 21, .inl (v_ra 3))), (rb, .inr (2, [.ref rb1, .ref rb2, .ref rb3, .int (v_rb 0 0)])), (rb1, .inl (cI, rb_n * 20, .inl (v_rb 1))), (rb2, .inl (cI, rb_n, .inl (v_rb 2))), (rb3, .inl (cI, 21, .inl (v_rb 3)))]
abbrev qc_X2_indexOfy (dC : Nat → ClassId) (dI : Nat → Nat → Nat) (cI cJ cB : ClassId) (ra ra1 ra2 ra3 rb rb1 rb2 rb3 : Nat) (sz : Nat) (ra_n : Nat) (v_ra : Nat → Nat → Int32) (rb_n : Nat) (v_rb : Nat → Nat → Int32) (p0 : Int32) (n9 : Nat) (r1 : Int32) : Array Value → State → Outcome → State → Prop := va_Qi (fun (r : Int32) (u : Unit) => match u with | () => (r = r1)) (at_X2_indexOfy dC dI cI cJ cB ra ra1 ra2 ra3 rb rb1 rb2 rb3 sz ra_n v_ra rb_n v_rb p0 n9 r1) (va_A (ww_X2_indexOfy dC dI cI cJ cB ra ra1 ra2 ra3 rb rb1 rb2 rb3 sz ra_n v_ra rb_n v_rb p0 n9 r1) sz)
abbrev pc_X2_indexOfy (dC : Nat → ClassId) (dI : Nat → Nat → Nat) (cI cJ cB : ClassId) (ra ra1 ra2 ra3 rb rb1 rb2 rb3 : Nat) (sz : Nat) (ra_n : Nat) (v_ra : Nat → Nat → Int32) (rb_n : Nat) (v_rb : Nat → Nat → Int32) (p0 : Int32) (n9 : Nat) (r1 : Int32) : Array Value → State → Prop := va_Pc [.ref ra, .ref rb, .int p0] (fun U => U.heap.size = sz ∧ NW U ∧ va_P (dC, dI) vwCl (ww_X2_indexOfy dC dI cI cJ cB ra ra1 ra2 ra3 rb rb1 rb2 rb3 sz ra_n v_ra rb_n v_rb p0 n9 r1) U.heap ∧ va_K (dC, dI) vwCl (tyL cI cJ cB) U ∧ va_D (fun _ => True) (ww_X2_indexOfy dC dI cI cJ cB ra ra1 ra2 ra3 rb rb1 rb2 rb3 sz ra_n v_ra rb_n v_rb p0 n9 r1))
abbrev rm_X2_indexOfy : Room := { frames := 2, cells := 0, slots := 0, locals := 51 }
abbrev WW_X2_indexOfy (p : Program) (l : Launch) (e : Env) (s : State) (m : MethodId) (below : List Frame) (meth : Method) (c : Code) (dC : Nat → ClassId) (dI : Nat → Nat → Nat) (cI cJ cB : ClassId) (ra ra1 ra2 ra3 rb rb1 rb2 rb3 : Nat) (sz : Nat) (ra_n : Nat) (v_ra : Nat → Nat → Int32) (rb_n : Nat) (v_rb : Nat → Nat → Int32) (p0 : Int32) (n9 : Nat) (r1 : Int32) (H : Heap) (locs : List Loc) (g : JFrame) : Prop := W p l e rm_X2_indexOfy s m ([.ref ra, .ref rb, .int p0] : List Value).toArray below meth c H locs 0 0 (MQ below (qc_X2_indexOfy dC dI cI cJ cB ra ra1 ra2 ra3 rb rb1 rb2 rb3 sz ra_n v_ra rb_n v_rb p0 n9 r1) ([.ref ra, .ref rb, .int p0] : List Value).toArray s 0 0 (va_A (ww_X2_indexOfy dC dI cI cJ cB ra ra1 ra2 ra3 rb rb1 rb2 rb3 sz ra_n v_ra rb_n v_rb p0 n9 r1) sz)) g
set_option maxHeartbeats 4000000 in
set_option maxRecDepth 100000 in
theorem c_X2_indexOfy (l : Launch) (dC : Nat → ClassId) (dI : Nat → Nat → Nat) (cI cJ cB : ClassId) (ra ra1 ra2 ra3 rb rb1 rb2 rb3 : Nat) (sz : Nat) (ra_n : Nat) (v_ra : Nat → Nat → Int32) (rb_n : Nat) (v_rb : Nat → Nat → Int32) (p0 : Int32) (n9 : Nat) (r1 : Int32) (hf : fx_X2_indexOf n9 ra_n v_ra rb_n v_rb p0 = some (r1)) : Met l yX2_indexOf wo_X2_indexOfy rm_X2_indexOfy (pc_X2_indexOfy dC dI cI cJ cB ra ra1 ra2 ra3 rb rb1 rb2 rb3 sz ra_n v_ra rb_n v_rb p0 n9 r1) (qc_X2_indexOfy dC dI cI cJ cB ra ra1 ra2 ra3 rb rb1 rb2 rb3 sz ra_n v_ra rb_n v_rb p0 n9 r1) 0 0 (va_A (ww_X2_indexOfy dC dI cI cJ cB ra ra1 ra2 ra3 rb rb1 rb2 rb3 sz ra_n v_ra rb_n v_rb p0 n9 r1) sz) := by
  unfold fx_X2_indexOf at hf
  refine Met.ofW (cc := cX2_indexOf) (maxL := 4) (ret := (some .int)) (by decide) rfl ?_
  intro p e s m args below meth c s₁ B hml hv
  obtain ⟨rfl, hsz, hnw, hP, hK, hD0⟩ := hv
  have hx := B.exec
  have hb := B.bytes
  have hr := B.returns
  have hts := atoms_spec (ws := wo_X2_indexOfy) B.pre
  have hown : s.vm.findClass RX2 = some m.cls := findClass_of_methodNamed B.named
  have hlocks := B.notSynchronized
  clear B
  subst hsz
  have hD := hD0.self (sz := s.heap.size)
  clear hD0
  have kk0_ := hts (.fieldLink RX2 30 "SumRewriter$Rows" "used" "I") (by decide +kernel)
  have kk1_ : ∀ w ∈ wsX20, w ∈ wo_X2_indexOfy := fun _ h => (List.mem_cons_of_mem _ (List.mem_append_right _ (List.mem_append_left _ h)))
  have hA : ∀ q : Nat, s.heap.size ≤ q → (va_A (ww_X2_indexOfy dC dI cI cJ cB ra ra1 ra2 ra3 rb rb1 rb2 rb3 s.heap.size ra_n v_ra rb_n v_rb p0 n9 r1) s.heap.size) q := fun q h => Or.inr h
  have hS : va_S (va_A (ww_X2_indexOfy dC dI cI cJ cB ra ra1 ra2 ra3 rb rb1 rb2 rb3 s.heap.size ra_n v_ra rb_n v_rb p0 n9 r1) s.heap.size) s.heap s.heap [] := va_S.rf
  have hl := lv_entry ([.ref ra, .ref rb, .int p0]) (n := 4) (Nat.le_of_ble_eq_true rfl)
  rw [lg_entry_eq]
  generalize (lg_sl ([.ref ra, .ref rb, .int p0]) ++ List.replicate (4 - (lg_sl ([.ref ra, .ref rb, .int p0])).length) Slot.unset).toArray = ls at hl ⊢
  have hl : lv_has ls 4 [(0, .ref ra), (1, .ref rb), (2, .int p0)] := hl
  have hP : va_P (dC, dI) vwCl [(ra, .inr (2, [.ref ra1, .ref ra2, .ref ra3, .int (v_ra 0 0)])), (ra1, .inl (cI, ra_n * 20, .inl (v_ra 1))), (ra2, .inl (cI, ra_n, .inl (v_ra 2))), (ra3, .inl (cI, 21, .inl (v_ra 3))), (rb, .inr (2, [.ref rb1, .ref rb2, .ref rb3, .int (v_rb 0 0)])), (rb1, .inl (cI, rb_n * 20, .inl (v_rb 1))), (rb2, .inl (cI, rb_n, .inl (v_rb 2))), (rb3, .inl (cI, 21, .inl (v_rb 3)))] s.heap := hP
  have hD : va_D (va_A (ww_X2_indexOfy dC dI cI cJ cB ra ra1 ra2 ra3 rb rb1 rb2 rb3 s.heap.size ra_n v_ra rb_n v_rb p0 n9 r1) s.heap.size) [(ra, .inr (2, [.ref ra1, .ref ra2, .ref ra3, .int (v_ra 0 0)])), (ra1, .inl (cI, ra_n * 20, .inl (v_ra 1))), (ra2, .inl (cI, ra_n, .inl (v_ra 2))), (ra3, .inl (cI, 21, .inl (v_ra 3))), (rb, .inr (2, [.ref rb1, .ref rb2, .ref rb3, .int (v_rb 0 0)])), (rb1, .inl (cI, rb_n * 20, .inl (v_rb 1))), (rb2, .inl (cI, rb_n, .inl (v_rb 2))), (rb3, .inl (cI, 21, .inl (v_rb 3)))] := hD
  obtain ⟨H, hH⟩ : ∃ H, H = s.heap := ⟨_, rfl⟩
  obtain ⟨locs, hlc⟩ : ∃ L : List Loc, L = [] := ⟨_, rfl⟩
  have hS : va_S (va_A (ww_X2_indexOfy dC dI cI cJ cB ra ra1 ra2 ra3 rb rb1 rb2 rb3 s.heap.size ra_n v_ra rb_n v_rb p0 n9 r1) s.heap.size) s.heap H locs := by rw [hH, hlc]; exact hS
  have hP : va_P (dC, dI) vwCl [(ra, .inr (2, [.ref ra1, .ref ra2, .ref ra3, .int (v_ra 0 0)])), (ra1, .inl (cI, ra_n * 20, .inl (v_ra 1))), (ra2, .inl (cI, ra_n, .inl (v_ra 2))), (ra3, .inl (cI, 21, .inl (v_ra 3))), (rb, .inr (2, [.ref rb1, .ref rb2, .ref rb3, .int (v_rb 0 0)])), (rb1, .inl (cI, rb_n * 20, .inl (v_rb 1))), (rb2, .inl (cI, rb_n, .inl (v_rb 2))), (rb3, .inl (cI, 21, .inl (v_rb 3)))] H := by rw [hH]; exact hP
  suffices hgo : WW_X2_indexOfy p l e s m below meth c dC dI cI cJ cB ra ra1 ra2 ra3 rb rb1 rb2 rb3 s.heap.size ra_n v_ra rb_n v_rb p0 n9 r1 H locs (F0 m 0 ls []) by rw [hH, hlc] at hgo; exact hgo
  clear hH hlc
  have L_2 : ∀ (N_2 : Nat), ∀ (x3 : Int32), lx_X2_indexOf_2 n9 ra_n v_ra rb_n v_rb p0 N_2 x3 = some (r1) → ∀ (H : Heap) (locs : List Loc), va_P (dC, dI) vwCl [(ra, .inr (2, [.ref ra1, .ref ra2, .ref ra3, .int (v_ra 0 0)])), (ra1, .inl (cI, ra_n * 20, .inl (v_ra 1))), (ra2, .inl (cI, ra_n, .inl (v_ra 2))), (ra3, .inl (cI, 21, .inl (v_ra 3))), (rb, .inr (2, [.ref rb1, .ref rb2, .ref rb3, .int (v_rb 0 0)])), (rb1, .inl (cI, rb_n * 20, .inl (v_rb 1))), (rb2, .inl (cI, rb_n, .inl (v_rb 2))), (rb3, .inl (cI, 21, .inl (v_rb 3)))] H → va_D (va_A (ww_X2_indexOfy dC dI cI cJ cB ra ra1 ra2 ra3 rb rb1 rb2 rb3 s.heap.size ra_n v_ra rb_n v_rb p0 n9 r1) s.heap.size) [(ra, .inr (2, [.ref ra1, .ref ra2, .ref ra3, .int (v_ra 0 0)])), (ra1, .inl (cI, ra_n * 20, .inl (v_ra 1))), (ra2, .inl (cI, ra_n, .inl (v_ra 2))), (ra3, .inl (cI, 21, .inl (v_ra 3))), (rb, .inr (2, [.ref rb1, .ref rb2, .ref rb3, .int (v_rb 0 0)])), (rb1, .inl (cI, rb_n * 20, .inl (v_rb 1))), (rb2, .inl (cI, rb_n, .inl (v_rb 2))), (rb3, .inl (cI, 21, .inl (v_rb 3)))] → va_S (va_A (ww_X2_indexOfy dC dI cI cJ cB ra ra1 ra2 ra3 rb rb1 rb2 rb3 s.heap.size ra_n v_ra rb_n v_rb p0 n9 r1) s.heap.size) s.heap H locs → ∀ ls : Array Slot, lv_has ls 4 [(0, .ref ra), (1, .ref rb), (2, .int p0), (3, .int x3)] → WW_X2_indexOfy p l e s m below meth c dC dI cI cJ cB ra ra1 ra2 ra3 rb rb1 rb2 rb3 s.heap.size ra_n v_ra rb_n v_rb p0 n9 r1 H locs (F0 m 2 ls []) := by
    intro N_2
    induction N_2 with
    | zero => intro x3 hf; exact xn_to hf
    | succ N_2 ih_2 =>
      intro x3 hf H locs hP hD hS ls hl
      replace hf : bx_X2_indexOf_2 n9 ra_n v_ra rb_n v_rb p0 (lx_X2_indexOf_2 n9 ra_n v_ra rb_n v_rb p0 N_2) x3 = some (r1) := hf
      generalize lx_X2_indexOf_2 n9 ra_n v_ra rb_n v_rb p0 N_2 = k_2 at hf ih_2
      unfold bx_X2_indexOf_2 at hf
      refine lv_iload_n hx hb dX2_indexOf_2 rfl (lv_at hl 3 rfl) ?_
      refine lv_aload_n hx hb dX2_indexOf_3 rfl (lv_at hl 0 rfl) ?_
      refine va_get (D := (dC, dI)) (ci := 2) (v := .int (v_ra 0 0)) (C := RX2) (T := TX2) (N := 4) hx hb hts kk1_ hown hK hP 0 rfl rfl 3 (by decide) kk0_ (fun _ h9 => h9) rfl dX2_indexOf_4 ?_
      refine lv_icmp_ge (tgt := 28) hx hb dX2_indexOf_7 (by decide) (fun c_1 => ?_) (fun c_1 => ?_)
      · replace hf := xi_t c_1 hf
        refine lv_iconst (v := -1) hx hb dX2_indexOf_28 (by decide) ?_
        have hP9 := hP.sub (ws' := [(ra, .inr (2, [.ref ra1, .ref ra2, .ref ra3, .int (v_ra 0 0)])), (ra1, .inl (cI, ra_n * 20, .inl (v_ra 1))), (ra2, .inl (cI, ra_n, .inl (v_ra 2))), (ra3, .inl (cI, 21, .inl (v_ra 3))), (rb, .inr (2, [.ref rb1, .ref rb2, .ref rb3, .int (v_rb 0 0)])), (rb1, .inl (cI, rb_n * 20, .inl (v_rb 1))), (rb2, .inl (cI, rb_n, .inl (v_rb 2))), (rb3, .inl (cI, 21, .inl (v_rb 3)))]) [0, 1, 2, 3, 4, 5, 6, 7] rfl
        have hD9 := hD.sub (ws' := [(ra, .inr (2, [.ref ra1, .ref ra2, .ref ra3, .int (v_ra 0 0)])), (ra1, .inl (cI, ra_n * 20, .inl (v_ra 1))), (ra2, .inl (cI, ra_n, .inl (v_ra 2))), (ra3, .inl (cI, 21, .inl (v_ra 3))), (rb, .inr (2, [.ref rb1, .ref rb2, .ref rb3, .int (v_rb 0 0)])), (rb1, .inl (cI, rb_n * 20, .inl (v_rb 1))), (rb2, .inl (cI, rb_n, .inl (v_rb 2))), (rb3, .inl (cI, 21, .inl (v_rb 3)))]) [0, 1, 2, 3, 4, 5, 6, 7] (by decide) rfl
        have r9_0 : (-1 : Int32) = r1 := (Option.some.inj hf)
        exact W.iret (v := (-1 : Int32)) hx hb hr (fun t ht hW => ⟨⟨(-1 : Int32), (), rfl, r9_0, by rw [ht]; exact hP9, va_K.moved hW.alike hK, hD9⟩, hS.F ht⟩) hS.2.2 dX2_indexOf_29
      · replace hf := xi_f c_1 hf
        refine lv_aload_n hx hb dX2_indexOf_10 rfl (lv_at hl 0 rfl) ?_
        refine lv_iload_n hx hb dX2_indexOf_11 rfl (lv_at hl 3 rfl) ?_
        refine lv_aload_n hx hb dX2_indexOf_12 rfl (lv_at hl 1 rfl) ?_
        refine lv_iload_n hx hb dX2_indexOf_13 rfl (lv_at hl 2 rfl) ?_
        replace hf := xb1_to hf
        obtain ⟨o_2, g_3, hf⟩ := hf
        have hPc := hP.sub (ws' := [(ra, .inr (2, [.ref ra1, .ref ra2, .ref ra3, .int (v_ra 0 0)])), (ra1, .inl (cI, ra_n * 20, .inl (v_ra 1))), (ra2, .inl (cI, ra_n, .inl (v_ra 2))), (ra3, .inl (cI, 21, .inl (v_ra 3))), (rb, .inr (2, [.ref rb1, .ref rb2, .ref rb3, .int (v_rb 0 0)])), (rb1, .inl (cI, rb_n * 20, .inl (v_rb 1))), (rb2, .inl (cI, rb_n, .inl (v_rb 2))), (rb3, .inl (cI, 21, .inl (v_rb 3)))]) [0, 1, 2, 3, 4, 5, 6, 7] rfl
        have hDc := hD.sub (ws' := [(ra, .inr (2, [.ref ra1, .ref ra2, .ref ra3, .int (v_ra 0 0)])), (ra1, .inl (cI, ra_n * 20, .inl (v_ra 1))), (ra2, .inl (cI, ra_n, .inl (v_ra 2))), (ra3, .inl (cI, 21, .inl (v_ra 3))), (rb, .inr (2, [.ref rb1, .ref rb2, .ref rb3, .int (v_rb 0 0)])), (rb1, .inl (cI, rb_n * 20, .inl (v_rb 1))), (rb2, .inl (cI, rb_n, .inl (v_rb 2))), (rb3, .inl (cI, 21, .inl (v_rb 3)))]) [0, 1, 2, 3, 4, 5, 6, 7] (by decide) rfl
        have hFc := va_free (wc := [(ra, .inr (2, [.ref ra1, .ref ra2, .ref ra3, .int (v_ra 0 0)])), (ra1, .inl (cI, ra_n * 20, .inl (v_ra 1))), (ra2, .inl (cI, ra_n, .inl (v_ra 2))), (ra3, .inl (cI, 21, .inl (v_ra 3))), (rb, .inr (2, [.ref rb1, .ref rb2, .ref rb3, .int (v_rb 0 0)])), (rb1, .inl (cI, rb_n * 20, .inl (v_rb 1))), (rb2, .inl (cI, rb_n, .inl (v_rb 2))), (rb3, .inl (cI, 21, .inl (v_rb 3)))]) hD hS hA [0, 1, 2, 3, 4, 5, 6, 7] rfl
        refine va_calli (va_runV (As := [.int x3, .ref rb, .int p0]) (rest := []) ⟨hx, hb, hml, hown, hts⟩ (c_X2_comparey l dC dI cI cJ cB ra ra1 ra2 ra3 rb rb1 rb2 rb3 H.size ra_n v_ra rb_n v_rb x3 p0 n9 o_2 g_3) (cwV 3 hts go_wo_X2_indexOfy_1 rfl rfl rfl (by decide +kernel) ⟨Nat.le_of_ble_eq_true rfl, Nat.le_of_ble_eq_true rfl⟩) ⟨fun a U g mk q => by obtain ⟨q0, q1, qN, qP, qK, qD⟩ := q; exact ⟨q0, q1, NW.calling qN, qP, va_K.moved (u := U) (U := U.calling g mk a) (Vm.Alike.refl U.vm) qK, qD⟩, va_recv hK hPc (ci := 2) (q0 := 0) rfl rfl, fun U hU hW => ⟨rfl, by rw [hU], NW.warm hW hnw, by rw [hU]; exact hPc, va_K.moved hW.alike hK, hDc.weaken (fun _ _ _ _ => trivial)⟩⟩ rfl rfl hl.1 rfl (lv_room (Nat.le_of_ble_eq_true rfl)) dX2_indexOf_14 ⟨Nat.zero_le _, Nat.zero_le _⟩) hS (fun q _ h => hFc q h) hFc (fun r_4 u t H1 locs ht hvm hw hB hz1 hk1 hS => ?_)
        cases u
        obtain ⟨hP1, hK1, hD1⟩ := hB
        rw [ht] at hP1
        have hw : (r_4 = o_2) := hw
        subst hw
        obtain ⟨hP, hD⟩ := va_join (wr := []) (w1 := [(ra, .inr (2, [.ref ra1, .ref ra2, .ref ra3, .int (v_ra 0 0)])), (ra1, .inl (cI, ra_n * 20, .inl (v_ra 1))), (ra2, .inl (cI, ra_n, .inl (v_ra 2))), (ra3, .inl (cI, 21, .inl (v_ra 3))), (rb, .inr (2, [.ref rb1, .ref rb2, .ref rb3, .int (v_rb 0 0)])), (rb1, .inl (cI, rb_n * 20, .inl (v_rb 1))), (rb2, .inl (cI, rb_n, .inl (v_rb 2))), (rb3, .inl (cI, 21, .inl (v_rb 3)))]) hP hD [0, 1, 2, 3, 4, 5, 6, 7] [] rfl rfl (by decide) (by decide) hk1 hFc hP1 hD1
        generalize H1 = H at hP hS ⊢
        have hP : va_P (dC, dI) vwCl [(ra, .inr (2, [.ref ra1, .ref ra2, .ref ra3, .int (v_ra 0 0)])), (ra1, .inl (cI, ra_n * 20, .inl (v_ra 1))), (ra2, .inl (cI, ra_n, .inl (v_ra 2))), (ra3, .inl (cI, 21, .inl (v_ra 3))), (rb, .inr (2, [.ref rb1, .ref rb2, .ref rb3, .int (v_rb 0 0)])), (rb1, .inl (cI, rb_n * 20, .inl (v_rb 1))), (rb2, .inl (cI, rb_n, .inl (v_rb 2))), (rb3, .inl (cI, 21, .inl (v_rb 3)))] H := hP
        have hD : va_D (va_A (ww_X2_indexOfy dC dI cI cJ cB ra ra1 ra2 ra3 rb rb1 rb2 rb3 s.heap.size ra_n v_ra rb_n v_rb p0 n9 r1) s.heap.size) [(ra, .inr (2, [.ref ra1, .ref ra2, .ref ra3, .int (v_ra 0 0)])), (ra1, .inl (cI, ra_n * 20, .inl (v_ra 1))), (ra2, .inl (cI, ra_n, .inl (v_ra 2))), (ra3, .inl (cI, 21, .inl (v_ra 3))), (rb, .inr (2, [.ref rb1, .ref rb2, .ref rb3, .int (v_rb 0 0)])), (rb1, .inl (cI, rb_n * 20, .inl (v_rb 1))), (rb2, .inl (cI, rb_n, .inl (v_rb 2))), (rb3, .inl (cI, 21, .inl (v_rb 3)))] := hD
        clear hPc hDc hFc hP1 hK1 hD1 hk1 hz1 ht hvm g_3
        refine lv_if_ne (tgt := 22) hx hb dX2_indexOf_17 (by decide) (fun c_6 => ?_) (fun c_6 => ?_)
        · replace hf := xi_f c_6 hf
          obtain ⟨x3_7, ex3_7⟩ : ∃ y : Int32, y = x3 + (1) := ⟨_, rfl⟩
          refine lv_iinc (v := x3_7) (lv' := [(3, .int x3_7), (0, .ref ra), (1, .ref rb), (2, .int p0)]) hx hb dX2_indexOf_22 hl (k := 3) rfl (by rw [ex3_7]; rfl) (by decide) rfl (fun ls hl => ?_)
          replace hf := xl_to ex3_7 hf
          refine lv_goto (tgt := 2) hx hb dX2_indexOf_25 (by decide) ?_
          exact ih_2 x3_7 hf _ _ (hP.sub [0, 1, 2, 3, 4, 5, 6, 7] rfl) (hD.sub [0, 1, 2, 3, 4, 5, 6, 7] (by decide) rfl) hS ls (lv_sub hl [1, 2, 3, 0] rfl)
        · replace hf := xi_t c_6 hf
          refine lv_iload_n hx hb dX2_indexOf_20 rfl (lv_at hl 3 rfl) ?_
          have hP9 := hP.sub (ws' := [(ra, .inr (2, [.ref ra1, .ref ra2, .ref ra3, .int (v_ra 0 0)])), (ra1, .inl (cI, ra_n * 20, .inl (v_ra 1))), (ra2, .inl (cI, ra_n, .inl (v_ra 2))), (ra3, .inl (cI, 21, .inl (v_ra 3))), (rb, .inr (2, [.ref rb1, .ref rb2, .ref rb3, .int (v_rb 0 0)])), (rb1, .inl (cI, rb_n * 20, .inl (v_rb 1))), (rb2, .inl (cI, rb_n, .inl (v_rb 2))), (rb3, .inl (cI, 21, .inl (v_rb 3)))]) [0, 1, 2, 3, 4, 5, 6, 7] rfl
          have hD9 := hD.sub (ws' := [(ra, .inr (2, [.ref ra1, .ref ra2, .ref ra3, .int (v_ra 0 0)])), (ra1, .inl (cI, ra_n * 20, .inl (v_ra 1))), (ra2, .inl (cI, ra_n, .inl (v_ra 2))), (ra3, .inl (cI, 21, .inl (v_ra 3))), (rb, .inr (2, [.ref rb1, .ref rb2, .ref rb3, .int (v_rb 0 0)])), (rb1, .inl (cI, rb_n * 20, .inl (v_rb 1))), (rb2, .inl (cI, rb_n, .inl (v_rb 2))), (rb3, .inl (cI, 21, .inl (v_rb 3)))]) [0, 1, 2, 3, 4, 5, 6, 7] (by decide) rfl
          have r9_0 : x3 = r1 := (Option.some.inj hf)
          exact W.iret (v := x3) hx hb hr (fun t ht hW => ⟨⟨x3, (), rfl, r9_0, by rw [ht]; exact hP9, va_K.moved hW.alike hK, hD9⟩, hS.F ht⟩) hS.2.2 dX2_indexOf_21
  refine lv_iconst (v := 0) hx hb dX2_indexOf_0 (by decide) ?_
  refine lv_istore_n (lv' := [(3, .int ((0 : Int32))), (0, .ref ra), (1, .ref rb), (2, .int p0)]) hx hb dX2_indexOf_1 rfl hl (by decide) rfl (fun ls hl => ?_)
  exact L_2 n9 ((0 : Int32)) hf _ _ (hP.sub [0, 1, 2, 3, 4, 5, 6, 7] rfl) (hD.sub [0, 1, 2, 3, 4, 5, 6, 7] (by decide) rfl) hS ls (lv_sub hl [1, 2, 3, 0] rfl)
def wo_X2_aheady : List Cond := .code yX2_ahead cX2_ahead 6 (some .int) :: (([.fieldLink RX2 30 "SumRewriter$Rows" "used" "I"] : List Cond) ++ ((wsX20) ++ ((wsV RX2 58 RX2 yX2_compare wo_X2_comparey_s))))
set_option maxRecDepth 20000 in
theorem go_wo_X2_aheady_1 : GoodIn wo_X2_aheady (wsV RX2 58 RX2 yX2_compare wo_X2_comparey_s) := goodIn_sub (fun _ h => (List.mem_cons_of_mem _ (List.mem_append_right _ (List.mem_append_right _ h)))) (by decide +kernel)
abbrev ww_X2_aheady (dC : Nat → ClassId) (dI : Nat → Nat → Nat) (cI cJ cB : ClassId) (ra ra1 ra2 ra3 : Nat) (sz : Nat) (ra_n : Nat) (v_ra : Nat → Nat → Int32) (p0 : Int32) (p1 : Int64) (n9 : Nat) (r1 : Int32) : va_W := [(ra, .inr (2, [.ref ra1, .ref ra2, .ref ra3, .int (v_ra 0 0)])), (ra1, .inl (cI, ra_n * 20, .inl (v_ra 1))), (ra2, .inl (cI, ra_n, .inl (v_ra 2))), (ra3, .inl (cI, 21, .inl (v_ra 3)))]
abbrev at_X2_aheady (dC : Nat → ClassId) (dI : Nat → Nat → Nat) (cI cJ cB : ClassId) (ra ra1 ra2 ra3 : Nat) (sz : Nat) (ra_n : Nat) (v_ra : Nat → Nat → Int32) (p0 : Int32) (p1 : Int64) (n9 : Nat) (r1 : Int32) (u : Unit) (t : State) : Prop := match u with
  | () => va_P (dC, dI) vwCl [(ra, .inr (2, [.ref ra1, .ref ra2, .ref ra3, .int (v_ra 0 0)])), (ra1, .inl (cI, ra_n * 20, .inl (v_ra 1))), (ra2, .inl (cI, ra_n, .inl (v_ra 2))), (ra3, .inl (cI, 21, .inl (v_ra 3)))] t.heap ∧ va_K (dC, dI) vwCl (tyL cI cJ cB) t ∧ va_D (va_A (ww_X2_aheady dC dI cI cJ cB ra ra1 ra2 ra3 sz ra_n v_ra p0 p1 n9 r1) sz) [(ra, .inr (2, [.ref ra1, .ref ra2, .ref ra3, .int (v_ra 0 0)])), (ra1, .inl (cI, ra_n * 20, .inl (v_ra 1))), (ra2, .inl (cI, ra_n, .inl (v_ra 2))), (ra3, .inl (cI, 21, .inl (v_ra 3)))]
abbrev qc_X2_aheady (dC : Nat → ClassId) (dI : Nat → Nat → Nat) (cI cJ cB : ClassId) (ra ra1 ra2 ra3 : Nat) (sz : Nat) (ra_n : Nat) (v_ra : Nat → Nat → Int32) (p0 : Int32) (p1 : Int64) (n9 : Nat) (r1 : Int32) : Array Value → State → Outcome → State → Prop := va_Qi (fun (r : Int32) (u : Unit) => match u with | () => (r = r1)) (at_X2_aheady dC dI cI cJ cB ra ra1 ra2 ra3 sz ra_n v_ra p0 p1 n9 r1) (va_A (ww_X2_aheady dC dI cI cJ cB ra ra1 ra2 ra3 sz ra_n v_ra p0 p1 n9 r1) sz)
abbrev pc_X2_aheady (dC : Nat → ClassId) (dI : Nat → Nat → Nat) (cI cJ cB : ClassId) (ra ra1 ra2 ra3 : Nat) (sz : Nat) (ra_n : Nat) (v_ra : Nat → Nat → Int32) (p0 : Int32) (p1 : Int64) (n9 : Nat) (r1 : Int32) : Array Value → State → Prop := va_Pc [.ref ra, .int p0, .long p1] (fun U => U.heap.size = sz ∧ NW U ∧ va_P (dC, dI) vwCl (ww_X2_aheady dC dI cI cJ cB ra ra1 ra2 ra3 sz ra_n v_ra p0 p1 n9 r1) U.heap ∧ va_K (dC, dI) vwCl (tyL cI cJ cB) U ∧ va_D (fun _ => True) (ww_X2_aheady dC dI cI cJ cB ra ra1 ra2 ra3 sz ra_n v_ra p0 p1 n9 r1))
abbrev rm_X2_aheady : Room := { frames := 2, cells := 0, slots := 0, locals := 51 }
abbrev WW_X2_aheady (p : Program) (l : Launch) (e : Env) (s : State) (m : MethodId) (below : List Frame) (meth : Method) (c : Code) (dC : Nat → ClassId) (dI : Nat → Nat → Nat) (cI cJ cB : ClassId) (ra ra1 ra2 ra3 : Nat) (sz : Nat) (ra_n : Nat) (v_ra : Nat → Nat → Int32) (p0 : Int32) (p1 : Int64) (n9 : Nat) (r1 : Int32) (H : Heap) (locs : List Loc) (g : JFrame) : Prop := W p l e rm_X2_aheady s m ([.ref ra, .int p0, .long p1] : List Value).toArray below meth c H locs 0 0 (MQ below (qc_X2_aheady dC dI cI cJ cB ra ra1 ra2 ra3 sz ra_n v_ra p0 p1 n9 r1) ([.ref ra, .int p0, .long p1] : List Value).toArray s 0 0 (va_A (ww_X2_aheady dC dI cI cJ cB ra ra1 ra2 ra3 sz ra_n v_ra p0 p1 n9 r1) sz)) g
set_option maxHeartbeats 4000000 in
set_option maxRecDepth 100000 in
theorem c_X2_aheady (l : Launch) (dC : Nat → ClassId) (dI : Nat → Nat → Nat) (cI cJ cB : ClassId) (ra ra1 ra2 ra3 : Nat) (sz : Nat) (ra_n : Nat) (v_ra : Nat → Nat → Int32) (p0 : Int32) (p1 : Int64) (n9 : Nat) (r1 : Int32) (hf : fx_X2_ahead n9 ra_n v_ra p0 p1 = some (r1)) : Met l yX2_ahead wo_X2_aheady rm_X2_aheady (pc_X2_aheady dC dI cI cJ cB ra ra1 ra2 ra3 sz ra_n v_ra p0 p1 n9 r1) (qc_X2_aheady dC dI cI cJ cB ra ra1 ra2 ra3 sz ra_n v_ra p0 p1 n9 r1) 0 0 (va_A (ww_X2_aheady dC dI cI cJ cB ra ra1 ra2 ra3 sz ra_n v_ra p0 p1 n9 r1) sz) := by
  unfold fx_X2_ahead at hf
  refine Met.ofW (cc := cX2_ahead) (maxL := 6) (ret := (some .int)) (by decide) rfl ?_
  intro p e s m args below meth c s₁ B hml hv
  obtain ⟨rfl, hsz, hnw, hP, hK, hD0⟩ := hv
  have hx := B.exec
  have hb := B.bytes
  have hr := B.returns
  have hts := atoms_spec (ws := wo_X2_aheady) B.pre
  have hown : s.vm.findClass RX2 = some m.cls := findClass_of_methodNamed B.named
  have hlocks := B.notSynchronized
  clear B
  subst hsz
  have hD := hD0.self (sz := s.heap.size)
  clear hD0
  have kk0_ := hts (.fieldLink RX2 30 "SumRewriter$Rows" "used" "I") (by decide +kernel)
  have kk1_ : ∀ w ∈ wsX20, w ∈ wo_X2_aheady := fun _ h => (List.mem_cons_of_mem _ (List.mem_append_right _ (List.mem_append_left _ h)))
  have hA : ∀ q : Nat, s.heap.size ≤ q → (va_A (ww_X2_aheady dC dI cI cJ cB ra ra1 ra2 ra3 s.heap.size ra_n v_ra p0 p1 n9 r1) s.heap.size) q := fun q h => Or.inr h
  have hS : va_S (va_A (ww_X2_aheady dC dI cI cJ cB ra ra1 ra2 ra3 s.heap.size ra_n v_ra p0 p1 n9 r1) s.heap.size) s.heap s.heap [] := va_S.rf
  have hl := lv_entry ([.ref ra, .int p0, .long p1]) (n := 6) (Nat.le_of_ble_eq_true rfl)
  rw [lg_entry_eq]
  generalize (lg_sl ([.ref ra, .int p0, .long p1]) ++ List.replicate (6 - (lg_sl ([.ref ra, .int p0, .long p1])).length) Slot.unset).toArray = ls at hl ⊢
  have hl : lv_has ls 6 [(0, .ref ra), (1, .int p0), (2, .long p1)] := hl
  have hP : va_P (dC, dI) vwCl [(ra, .inr (2, [.ref ra1, .ref ra2, .ref ra3, .int (v_ra 0 0)])), (ra1, .inl (cI, ra_n * 20, .inl (v_ra 1))), (ra2, .inl (cI, ra_n, .inl (v_ra 2))), (ra3, .inl (cI, 21, .inl (v_ra 3)))] s.heap := hP
  have hD : va_D (va_A (ww_X2_aheady dC dI cI cJ cB ra ra1 ra2 ra3 s.heap.size ra_n v_ra p0 p1 n9 r1) s.heap.size) [(ra, .inr (2, [.ref ra1, .ref ra2, .ref ra3, .int (v_ra 0 0)])), (ra1, .inl (cI, ra_n * 20, .inl (v_ra 1))), (ra2, .inl (cI, ra_n, .inl (v_ra 2))), (ra3, .inl (cI, 21, .inl (v_ra 3)))] := hD
  obtain ⟨H, hH⟩ : ∃ H, H = s.heap := ⟨_, rfl⟩
  obtain ⟨locs, hlc⟩ : ∃ L : List Loc, L = [] := ⟨_, rfl⟩
  have hS : va_S (va_A (ww_X2_aheady dC dI cI cJ cB ra ra1 ra2 ra3 s.heap.size ra_n v_ra p0 p1 n9 r1) s.heap.size) s.heap H locs := by rw [hH, hlc]; exact hS
  have hP : va_P (dC, dI) vwCl [(ra, .inr (2, [.ref ra1, .ref ra2, .ref ra3, .int (v_ra 0 0)])), (ra1, .inl (cI, ra_n * 20, .inl (v_ra 1))), (ra2, .inl (cI, ra_n, .inl (v_ra 2))), (ra3, .inl (cI, 21, .inl (v_ra 3)))] H := by rw [hH]; exact hP
  suffices hgo : WW_X2_aheady p l e s m below meth c dC dI cI cJ cB ra ra1 ra2 ra3 s.heap.size ra_n v_ra p0 p1 n9 r1 H locs (F0 m 0 ls []) by rw [hH, hlc] at hgo; exact hgo
  clear hH hlc
  have L_6 : ∀ (N_6 : Nat), ∀ (x4 : Int32) (x5 : Int32), lx_X2_ahead_6 n9 ra_n v_ra p0 p1 N_6 x4 x5 = some (r1) → ∀ (H : Heap) (locs : List Loc), va_P (dC, dI) vwCl [(ra, .inr (2, [.ref ra1, .ref ra2, .ref ra3, .int (v_ra 0 0)])), (ra1, .inl (cI, ra_n * 20, .inl (v_ra 1))), (ra2, .inl (cI, ra_n, .inl (v_ra 2))), (ra3, .inl (cI, 21, .inl (v_ra 3)))] H → va_D (va_A (ww_X2_aheady dC dI cI cJ cB ra ra1 ra2 ra3 s.heap.size ra_n v_ra p0 p1 n9 r1) s.heap.size) [(ra, .inr (2, [.ref ra1, .ref ra2, .ref ra3, .int (v_ra 0 0)])), (ra1, .inl (cI, ra_n * 20, .inl (v_ra 1))), (ra2, .inl (cI, ra_n, .inl (v_ra 2))), (ra3, .inl (cI, 21, .inl (v_ra 3)))] → va_S (va_A (ww_X2_aheady dC dI cI cJ cB ra ra1 ra2 ra3 s.heap.size ra_n v_ra p0 p1 n9 r1) s.heap.size) s.heap H locs → ∀ ls : Array Slot, lv_has ls 6 [(0, .ref ra), (1, .int p0), (2, .long p1), (4, .int x4), (5, .int x5)] → WW_X2_aheady p l e s m below meth c dC dI cI cJ cB ra ra1 ra2 ra3 s.heap.size ra_n v_ra p0 p1 n9 r1 H locs (F0 m 6 ls []) := by
    intro N_6
    induction N_6 with
    | zero => intro x4 x5 hf; exact xn_to hf
    | succ N_6 ih_6 =>
      intro x4 x5 hf H locs hP hD hS ls hl
      replace hf : bx_X2_ahead_6 n9 ra_n v_ra p0 p1 (lx_X2_ahead_6 n9 ra_n v_ra p0 p1 N_6) x4 x5 = some (r1) := hf
      generalize lx_X2_ahead_6 n9 ra_n v_ra p0 p1 N_6 = k_6 at hf ih_6
      unfold bx_X2_ahead_6 at hf
      refine lv_iload hx hb dX2_ahead_6 (lv_at hl 4 rfl) ?_
      refine lv_aload_n hx hb dX2_ahead_8 rfl (lv_at hl 0 rfl) ?_
      refine va_get (D := (dC, dI)) (ci := 2) (v := .int (v_ra 0 0)) (C := RX2) (T := TX2) (N := 4) hx hb hts kk1_ hown hK hP 0 rfl rfl 3 (by decide) kk0_ (fun _ h9 => h9) rfl dX2_ahead_9 ?_
      refine lv_icmp_ge (tgt := 46) hx hb dX2_ahead_12 (by decide) (fun c_1 => ?_) (fun c_1 => ?_)
      · replace hf := xi_t c_1 hf
        refine lv_iload hx hb dX2_ahead_46 (lv_at hl 3 rfl) ?_
        have hP9 := hP.sub (ws' := [(ra, .inr (2, [.ref ra1, .ref ra2, .ref ra3, .int (v_ra 0 0)])), (ra1, .inl (cI, ra_n * 20, .inl (v_ra 1))), (ra2, .inl (cI, ra_n, .inl (v_ra 2))), (ra3, .inl (cI, 21, .inl (v_ra 3)))]) [0, 1, 2, 3] rfl
        have hD9 := hD.sub (ws' := [(ra, .inr (2, [.ref ra1, .ref ra2, .ref ra3, .int (v_ra 0 0)])), (ra1, .inl (cI, ra_n * 20, .inl (v_ra 1))), (ra2, .inl (cI, ra_n, .inl (v_ra 2))), (ra3, .inl (cI, 21, .inl (v_ra 3)))]) [0, 1, 2, 3] (by decide) rfl
        have r9_0 : x4 = r1 := (Option.some.inj hf)
        exact W.iret (v := x4) hx hb hr (fun t ht hW => ⟨⟨x4, (), rfl, r9_0, by rw [ht]; exact hP9, va_K.moved hW.alike hK, hD9⟩, hS.F ht⟩) hS.2.2 dX2_ahead_48
      · replace hf := xi_f c_1 hf
        refine lv_lload_n hx hb dX2_ahead_15 rfl (lv_at hl 2 rfl) ?_
        refine lv_iload hx hb dX2_ahead_16 (lv_at hl 4 rfl) ?_
        refine lv_lshr hx hb dX2_ahead_18 rfl ?_
        refine lv_topl (fun y_2 ey_2 => ?_)
        replace hf := xl_to (v := p1 >>> (x5.toInt64 &&& 63)) ey_2 hf
        refine lv_lconst (v := 1) hx hb dX2_ahead_19 (by decide) ?_
        refine lv_land hx hb dX2_ahead_20 ?_
        refine lv_topl (fun y_3 ey_3 => ?_)
        replace hf := xl_to (v := y_2 &&& ((1 : Int64))) ey_3 hf
        refine lv_lconst (v := 0) hx hb dX2_ahead_21 (by decide) ?_
        refine W.lcmp hx hb dX2_ahead_22 ?_
        refine lv_topi (fun y_4 ey_4 => ?_)
        replace hf := xl_to (v := xcmp y_3 ((0 : Int64))) (ey_4.trans (lg_x _ _)) hf
        refine lv_if_eq (tgt := 40) hx hb dX2_ahead_23 (by decide) (fun c_5 => ?_) (fun c_5 => ?_)
        · replace hf := xi_t c_5 hf
          obtain ⟨x5_6, ex5_6⟩ : ∃ y : Int32, y = x5 + (1) := ⟨_, rfl⟩
          refine lv_iinc (v := x5_6) (lv' := [(5, .int x5_6), (0, .ref ra), (1, .int p0), (2, .long p1), (4, .int x4)]) hx hb dX2_ahead_40 hl (k := 4) rfl (by rw [ex5_6]; rfl) (by decide) rfl (fun ls hl => ?_)
          replace hf := xl_to ex5_6 hf
          refine lv_goto (tgt := 6) hx hb dX2_ahead_43 (by decide) ?_
          exact ih_6 x4 x5_6 hf _ _ (hP.sub [0, 1, 2, 3] rfl) (hD.sub [0, 1, 2, 3] (by decide) rfl) hS ls (lv_sub hl [1, 2, 3, 4, 0] rfl)
        · replace hf := xi_f c_5 hf
          refine lv_aload_n hx hb dX2_ahead_26 rfl (lv_at hl 0 rfl) ?_
          refine lv_iload hx hb dX2_ahead_27 (lv_at hl 4 rfl) ?_
          refine lv_aload_n hx hb dX2_ahead_29 rfl (lv_at hl 0 rfl) ?_
          refine lv_iload_n hx hb dX2_ahead_30 rfl (lv_at hl 1 rfl) ?_
          replace hf := xb1_to hf
          obtain ⟨o_7, g_8, hf⟩ := hf
          have hPc := hP.sub (ws' := [(ra, .inr (2, [.ref ra1, .ref ra2, .ref ra3, .int (v_ra 0 0)])), (ra1, .inl (cI, ra_n * 20, .inl (v_ra 1))), (ra2, .inl (cI, ra_n, .inl (v_ra 2))), (ra3, .inl (cI, 21, .inl (v_ra 3)))]) [0, 1, 2, 3] rfl
          have hDc := hD.sub (ws' := [(ra, .inr (2, [.ref ra1, .ref ra2, .ref ra3, .int (v_ra 0 0)])), (ra1, .inl (cI, ra_n * 20, .inl (v_ra 1))), (ra2, .inl (cI, ra_n, .inl (v_ra 2))), (ra3, .inl (cI, 21, .inl (v_ra 3)))]) [0, 1, 2, 3] (by decide) rfl
          have hFc := va_free (wc := [(ra, .inr (2, [.ref ra1, .ref ra2, .ref ra3, .int (v_ra 0 0)])), (ra1, .inl (cI, ra_n * 20, .inl (v_ra 1))), (ra2, .inl (cI, ra_n, .inl (v_ra 2))), (ra3, .inl (cI, 21, .inl (v_ra 3)))]) hD hS hA [0, 1, 2, 3] rfl
          refine va_calli (va_runV (As := [.int x5, .ref ra, .int p0]) (rest := []) ⟨hx, hb, hml, hown, hts⟩ (c_X2_comparey_s l dC dI cI cJ cB ra ra1 ra2 ra3 H.size ra_n v_ra x5 p0 n9 o_7 g_8) (cwV 3 hts go_wo_X2_aheady_1 rfl rfl rfl (by decide +kernel) ⟨Nat.le_of_ble_eq_true rfl, Nat.le_of_ble_eq_true rfl⟩) ⟨fun a U g mk q => by obtain ⟨q0, q1, qN, qP, qK, qD⟩ := q; exact ⟨q0, q1, NW.calling qN, qP, va_K.moved (u := U) (U := U.calling g mk a) (Vm.Alike.refl U.vm) qK, qD⟩, va_recv hK hPc (ci := 2) (q0 := 0) rfl rfl, fun U hU hW => ⟨rfl, by rw [hU], NW.warm hW hnw, by rw [hU]; exact hPc, va_K.moved hW.alike hK, hDc.weaken (fun _ _ _ _ => trivial)⟩⟩ rfl rfl hl.1 rfl (lv_room (Nat.le_of_ble_eq_true rfl)) dX2_ahead_31 ⟨Nat.zero_le _, Nat.zero_le _⟩) hS (fun q _ h => hFc q h) hFc (fun r_9 u t H1 locs ht hvm hw hB hz1 hk1 hS => ?_)
          cases u
          obtain ⟨hP1, hK1, hD1⟩ := hB
          rw [ht] at hP1
          have hw : (r_9 = o_7) := hw
          subst hw
          obtain ⟨hP, hD⟩ := va_join (wr := []) (w1 := [(ra, .inr (2, [.ref ra1, .ref ra2, .ref ra3, .int (v_ra 0 0)])), (ra1, .inl (cI, ra_n * 20, .inl (v_ra 1))), (ra2, .inl (cI, ra_n, .inl (v_ra 2))), (ra3, .inl (cI, 21, .inl (v_ra 3)))]) hP hD [0, 1, 2, 3] [] rfl rfl (by decide) (by decide) hk1 hFc hP1 hD1
          generalize H1 = H at hP hS ⊢
          have hP : va_P (dC, dI) vwCl [(ra, .inr (2, [.ref ra1, .ref ra2, .ref ra3, .int (v_ra 0 0)])), (ra1, .inl (cI, ra_n * 20, .inl (v_ra 1))), (ra2, .inl (cI, ra_n, .inl (v_ra 2))), (ra3, .inl (cI, 21, .inl (v_ra 3)))] H := hP
          have hD : va_D (va_A (ww_X2_aheady dC dI cI cJ cB ra ra1 ra2 ra3 s.heap.size ra_n v_ra p0 p1 n9 r1) s.heap.size) [(ra, .inr (2, [.ref ra1, .ref ra2, .ref ra3, .int (v_ra 0 0)])), (ra1, .inl (cI, ra_n * 20, .inl (v_ra 1))), (ra2, .inl (cI, ra_n, .inl (v_ra 2))), (ra3, .inl (cI, 21, .inl (v_ra 3)))] := hD
          clear hPc hDc hFc hP1 hK1 hD1 hk1 hz1 ht hvm g_8
          refine lv_if_ge (tgt := 40) hx hb dX2_ahead_34 (by decide) (fun c_11 => ?_) (fun c_11 => ?_)
          · replace hf := xi_t c_11 hf
            obtain ⟨x5_12, ex5_12⟩ : ∃ y : Int32, y = x5 + (1) := ⟨_, rfl⟩
            refine lv_iinc (v := x5_12) (lv' := [(5, .int x5_12), (0, .ref ra), (1, .int p0), (2, .long p1), (4, .int x4)]) hx hb dX2_ahead_40 hl (k := 4) rfl (by rw [ex5_12]; rfl) (by decide) rfl (fun ls hl => ?_)
            replace hf := xl_to ex5_12 hf
            refine lv_goto (tgt := 6) hx hb dX2_ahead_43 (by decide) ?_
            exact ih_6 x4 x5_12 hf _ _ (hP.sub [0, 1, 2, 3] rfl) (hD.sub [0, 1, 2, 3] (by decide) rfl) hS ls (lv_sub hl [1, 2, 3, 4, 0] rfl)
          · replace hf := xi_f c_11 hf
            obtain ⟨x4_13, ex4_13⟩ : ∃ y : Int32, y = x4 + (1) := ⟨_, rfl⟩
            refine lv_iinc (v := x4_13) (lv' := [(4, .int x4_13), (0, .ref ra), (1, .int p0), (2, .long p1), (5, .int x5)]) hx hb dX2_ahead_37 hl (k := 3) rfl (by rw [ex4_13]; rfl) (by decide) rfl (fun ls hl => ?_)
            replace hf := xl_to ex4_13 hf
            obtain ⟨x5_14, ex5_14⟩ : ∃ y : Int32, y = x5 + (1) := ⟨_, rfl⟩
            refine lv_iinc (v := x5_14) (lv' := [(5, .int x5_14), (4, .int x4_13), (0, .ref ra), (1, .int p0), (2, .long p1)]) hx hb dX2_ahead_40 hl (k := 4) rfl (by rw [ex5_14]; rfl) (by decide) rfl (fun ls hl => ?_)
            replace hf := xl_to ex5_14 hf
            refine lv_goto (tgt := 6) hx hb dX2_ahead_43 (by decide) ?_
            exact ih_6 x4_13 x5_14 hf _ _ (hP.sub [0, 1, 2, 3] rfl) (hD.sub [0, 1, 2, 3] (by decide) rfl) hS ls (lv_sub hl [2, 3, 4, 1, 0] rfl)
  refine lv_iconst (v := 0) hx hb dX2_ahead_0 (by decide) ?_
  refine lv_istore (lv' := [(4, .int ((0 : Int32))), (0, .ref ra), (1, .int p0), (2, .long p1)]) hx hb dX2_ahead_1 hl (by decide) rfl (fun ls hl => ?_)
  refine lv_iconst (v := 0) hx hb dX2_ahead_3 (by decide) ?_
  refine lv_istore (lv' := [(5, .int ((0 : Int32))), (4, .int ((0 : Int32))), (0, .ref ra), (1, .int p0), (2, .long p1)]) hx hb dX2_ahead_4 hl (by decide) rfl (fun ls hl => ?_)
  exact L_6 n9 ((0 : Int32)) ((0 : Int32)) hf _ _ (hP.sub [0, 1, 2, 3] rfl) (hD.sub [0, 1, 2, 3] (by decide) rfl) hS ls (lv_sub hl [2, 3, 4, 1, 0] rfl)
def wo_X2_nthy : List Cond := .code yX2_nth cX2_nth 5 (some .int) :: (([.fieldLink RX2 30 "SumRewriter$Rows" "used" "I"] : List Cond) ++ ((wsX20) ++ ((wsV RX2 61 RX2 yX2_ahead wo_X2_aheady))))
set_option maxRecDepth 20000 in
theorem go_wo_X2_nthy_1 : GoodIn wo_X2_nthy (wsV RX2 61 RX2 yX2_ahead wo_X2_aheady) := goodIn_sub (fun _ h => (List.mem_cons_of_mem _ (List.mem_append_right _ (List.mem_append_right _ h)))) (by decide +kernel)
abbrev ww_X2_nthy (dC : Nat → ClassId) (dI : Nat → Nat → Nat) (cI cJ cB : ClassId) (ra ra1 ra2 ra3 : Nat) (sz : Nat) (ra_n : Nat) (v_ra : Nat → Nat → Int32) (p0 : Int32) (p1 : Int64) (n9 : Nat) (r1 : Int32) : va_W := [(ra, .inr (2, [.ref ra1, .ref ra2, .ref ra3, .int (v_ra 0 0)])), (ra1, .inl (cI, ra_n * 20, .inl (v_ra 1))), (ra2, .inl (cI, ra_n, .inl (v_ra 2))), (ra3, .inl (cI, 21, .inl (v_ra 3)))]
abbrev at_X2_nthy (dC : Nat → ClassId) (dI : Nat → Nat → Nat) (cI cJ cB : ClassId) (ra ra1 ra2 ra3 : Nat) (sz : Nat) (ra_n : Nat) (v_ra : Nat → Nat → Int32) (p0 : Int32) (p1 : Int64) (n9 : Nat) (r1 : Int32) (u : Unit) (t : State) : Prop := match u with
  | () => va_P (dC, dI) vwCl [(ra, .inr (2, [.ref ra1, .ref ra2, .ref ra3, .int (v_ra 0 0)])), (ra1, .inl (cI, ra_n * 20, .inl (v_ra 1))), (ra2, .inl (cI, ra_n, .inl (v_ra 2))), (ra3, .inl (cI, 21, .inl (v_ra 3)))] t.heap ∧ va_K (dC, dI) vwCl (tyL cI cJ cB) t ∧ va_D (va_A (ww_X2_nthy dC dI cI cJ cB ra ra1 ra2 ra3 sz ra_n v_ra p0 p1 n9 r1) sz) [(ra, .inr (2, [.ref ra1, .ref ra2, .ref ra3, .int (v_ra 0 0)])), (ra1, .inl (cI, ra_n * 20, .inl (v_ra 1))), (ra2, .inl (cI, ra_n, .inl (v_ra 2))), (ra3, .inl (cI, 21, .inl (v_ra 3)))]
abbrev qc_X2_nthy (dC : Nat → ClassId) (dI : Nat → Nat → Nat) (cI cJ cB : ClassId) (ra ra1 ra2 ra3 : Nat) (sz : Nat) (ra_n : Nat) (v_ra : Nat → Nat → Int32) (p0 : Int32) (p1 : Int64) (n9 : Nat) (r1 : Int32) : Array Value → State → Outcome → State → Prop := va_Qi (fun (r : Int32) (u : Unit) => match u with | () => (r = r1)) (at_X2_nthy dC dI cI cJ cB ra ra1 ra2 ra3 sz ra_n v_ra p0 p1 n9 r1) (va_A (ww_X2_nthy dC dI cI cJ cB ra ra1 ra2 ra3 sz ra_n v_ra p0 p1 n9 r1) sz)
abbrev pc_X2_nthy (dC : Nat → ClassId) (dI : Nat → Nat → Nat) (cI cJ cB : ClassId) (ra ra1 ra2 ra3 : Nat) (sz : Nat) (ra_n : Nat) (v_ra : Nat → Nat → Int32) (p0 : Int32) (p1 : Int64) (n9 : Nat) (r1 : Int32) : Array Value → State → Prop := va_Pc [.ref ra, .int p0, .long p1] (fun U => U.heap.size = sz ∧ NW U ∧ va_P (dC, dI) vwCl (ww_X2_nthy dC dI cI cJ cB ra ra1 ra2 ra3 sz ra_n v_ra p0 p1 n9 r1) U.heap ∧ va_K (dC, dI) vwCl (tyL cI cJ cB) U ∧ va_D (fun _ => True) (ww_X2_nthy dC dI cI cJ cB ra ra1 ra2 ra3 sz ra_n v_ra p0 p1 n9 r1))
abbrev rm_X2_nthy : Room := { frames := 3, cells := 0, slots := 0, locals := 76 }
abbrev WW_X2_nthy (p : Program) (l : Launch) (e : Env) (s : State) (m : MethodId) (below : List Frame) (meth : Method) (c : Code) (dC : Nat → ClassId) (dI : Nat → Nat → Nat) (cI cJ cB : ClassId) (ra ra1 ra2 ra3 : Nat) (sz : Nat) (ra_n : Nat) (v_ra : Nat → Nat → Int32) (p0 : Int32) (p1 : Int64) (n9 : Nat) (r1 : Int32) (H : Heap) (locs : List Loc) (g : JFrame) : Prop := W p l e rm_X2_nthy s m ([.ref ra, .int p0, .long p1] : List Value).toArray below meth c H locs 0 0 (MQ below (qc_X2_nthy dC dI cI cJ cB ra ra1 ra2 ra3 sz ra_n v_ra p0 p1 n9 r1) ([.ref ra, .int p0, .long p1] : List Value).toArray s 0 0 (va_A (ww_X2_nthy dC dI cI cJ cB ra ra1 ra2 ra3 sz ra_n v_ra p0 p1 n9 r1) sz)) g
set_option maxHeartbeats 4000000 in
set_option maxRecDepth 100000 in
theorem c_X2_nthy (l : Launch) (dC : Nat → ClassId) (dI : Nat → Nat → Nat) (cI cJ cB : ClassId) (ra ra1 ra2 ra3 : Nat) (sz : Nat) (ra_n : Nat) (v_ra : Nat → Nat → Int32) (p0 : Int32) (p1 : Int64) (n9 : Nat) (r1 : Int32) (hf : fx_X2_nth n9 ra_n v_ra p0 p1 = some (r1)) : Met l yX2_nth wo_X2_nthy rm_X2_nthy (pc_X2_nthy dC dI cI cJ cB ra ra1 ra2 ra3 sz ra_n v_ra p0 p1 n9 r1) (qc_X2_nthy dC dI cI cJ cB ra ra1 ra2 ra3 sz ra_n v_ra p0 p1 n9 r1) 0 0 (va_A (ww_X2_nthy dC dI cI cJ cB ra ra1 ra2 ra3 sz ra_n v_ra p0 p1 n9 r1) sz) := by
  unfold fx_X2_nth at hf
  refine Met.ofW (cc := cX2_nth) (maxL := 5) (ret := (some .int)) (by decide) rfl ?_
  intro p e s m args below meth c s₁ B hml hv
  obtain ⟨rfl, hsz, hnw, hP, hK, hD0⟩ := hv
  have hx := B.exec
  have hb := B.bytes
  have hr := B.returns
  have hts := atoms_spec (ws := wo_X2_nthy) B.pre
  have hown : s.vm.findClass RX2 = some m.cls := findClass_of_methodNamed B.named
  have hlocks := B.notSynchronized
  clear B
  subst hsz
  have hD := hD0.self (sz := s.heap.size)
  clear hD0
  have kk0_ := hts (.fieldLink RX2 30 "SumRewriter$Rows" "used" "I") (by decide +kernel)
  have kk1_ : ∀ w ∈ wsX20, w ∈ wo_X2_nthy := fun _ h => (List.mem_cons_of_mem _ (List.mem_append_right _ (List.mem_append_left _ h)))
  have hA : ∀ q : Nat, s.heap.size ≤ q → (va_A (ww_X2_nthy dC dI cI cJ cB ra ra1 ra2 ra3 s.heap.size ra_n v_ra p0 p1 n9 r1) s.heap.size) q := fun q h => Or.inr h
  have hS : va_S (va_A (ww_X2_nthy dC dI cI cJ cB ra ra1 ra2 ra3 s.heap.size ra_n v_ra p0 p1 n9 r1) s.heap.size) s.heap s.heap [] := va_S.rf
  have hl := lv_entry ([.ref ra, .int p0, .long p1]) (n := 5) (Nat.le_of_ble_eq_true rfl)
  rw [lg_entry_eq]
  generalize (lg_sl ([.ref ra, .int p0, .long p1]) ++ List.replicate (5 - (lg_sl ([.ref ra, .int p0, .long p1])).length) Slot.unset).toArray = ls at hl ⊢
  have hl : lv_has ls 5 [(0, .ref ra), (1, .int p0), (2, .long p1)] := hl
  have hP : va_P (dC, dI) vwCl [(ra, .inr (2, [.ref ra1, .ref ra2, .ref ra3, .int (v_ra 0 0)])), (ra1, .inl (cI, ra_n * 20, .inl (v_ra 1))), (ra2, .inl (cI, ra_n, .inl (v_ra 2))), (ra3, .inl (cI, 21, .inl (v_ra 3)))] s.heap := hP
  have hD : va_D (va_A (ww_X2_nthy dC dI cI cJ cB ra ra1 ra2 ra3 s.heap.size ra_n v_ra p0 p1 n9 r1) s.heap.size) [(ra, .inr (2, [.ref ra1, .ref ra2, .ref ra3, .int (v_ra 0 0)])), (ra1, .inl (cI, ra_n * 20, .inl (v_ra 1))), (ra2, .inl (cI, ra_n, .inl (v_ra 2))), (ra3, .inl (cI, 21, .inl (v_ra 3)))] := hD
  obtain ⟨H, hH⟩ : ∃ H, H = s.heap := ⟨_, rfl⟩
  obtain ⟨locs, hlc⟩ : ∃ L : List Loc, L = [] := ⟨_, rfl⟩
  have hS : va_S (va_A (ww_X2_nthy dC dI cI cJ cB ra ra1 ra2 ra3 s.heap.size ra_n v_ra p0 p1 n9 r1) s.heap.size) s.heap H locs := by rw [hH, hlc]; exact hS
  have hP : va_P (dC, dI) vwCl [(ra, .inr (2, [.ref ra1, .ref ra2, .ref ra3, .int (v_ra 0 0)])), (ra1, .inl (cI, ra_n * 20, .inl (v_ra 1))), (ra2, .inl (cI, ra_n, .inl (v_ra 2))), (ra3, .inl (cI, 21, .inl (v_ra 3)))] H := by rw [hH]; exact hP
  suffices hgo : WW_X2_nthy p l e s m below meth c dC dI cI cJ cB ra ra1 ra2 ra3 s.heap.size ra_n v_ra p0 p1 n9 r1 H locs (F0 m 0 ls []) by rw [hH, hlc] at hgo; exact hgo
  clear hH hlc
  have L_3 : ∀ (N_3 : Nat), ∀ (x4 : Int32), lx_X2_nth_3 n9 ra_n v_ra p0 p1 N_3 x4 = some (r1) → ∀ (H : Heap) (locs : List Loc), va_P (dC, dI) vwCl [(ra, .inr (2, [.ref ra1, .ref ra2, .ref ra3, .int (v_ra 0 0)])), (ra1, .inl (cI, ra_n * 20, .inl (v_ra 1))), (ra2, .inl (cI, ra_n, .inl (v_ra 2))), (ra3, .inl (cI, 21, .inl (v_ra 3)))] H → va_D (va_A (ww_X2_nthy dC dI cI cJ cB ra ra1 ra2 ra3 s.heap.size ra_n v_ra p0 p1 n9 r1) s.heap.size) [(ra, .inr (2, [.ref ra1, .ref ra2, .ref ra3, .int (v_ra 0 0)])), (ra1, .inl (cI, ra_n * 20, .inl (v_ra 1))), (ra2, .inl (cI, ra_n, .inl (v_ra 2))), (ra3, .inl (cI, 21, .inl (v_ra 3)))] → va_S (va_A (ww_X2_nthy dC dI cI cJ cB ra ra1 ra2 ra3 s.heap.size ra_n v_ra p0 p1 n9 r1) s.heap.size) s.heap H locs → ∀ ls : Array Slot, lv_has ls 5 [(0, .ref ra), (1, .int p0), (2, .long p1), (4, .int x4)] → WW_X2_nthy p l e s m below meth c dC dI cI cJ cB ra ra1 ra2 ra3 s.heap.size ra_n v_ra p0 p1 n9 r1 H locs (F0 m 3 ls []) := by
    intro N_3
    induction N_3 with
    | zero => intro x4 hf; exact xn_to hf
    | succ N_3 ih_3 =>
      intro x4 hf H locs hP hD hS ls hl
      replace hf : bx_X2_nth_3 n9 ra_n v_ra p0 p1 (lx_X2_nth_3 n9 ra_n v_ra p0 p1 N_3) x4 = some (r1) := hf
      generalize lx_X2_nth_3 n9 ra_n v_ra p0 p1 N_3 = k_3 at hf ih_3
      unfold bx_X2_nth_3 at hf
      refine lv_iload hx hb dX2_nth_3 (lv_at hl 3 rfl) ?_
      refine lv_aload_n hx hb dX2_nth_5 rfl (lv_at hl 0 rfl) ?_
      refine va_get (D := (dC, dI)) (ci := 2) (v := .int (v_ra 0 0)) (C := RX2) (T := TX2) (N := 4) hx hb hts kk1_ hown hK hP 0 rfl rfl 3 (by decide) kk0_ (fun _ h9 => h9) rfl dX2_nth_6 ?_
      refine lv_icmp_ge (tgt := 43) hx hb dX2_nth_9 (by decide) (fun c_1 => ?_) (fun c_1 => ?_)
      · replace hf := xi_t c_1 hf
        refine lv_iconst (v := -1) hx hb dX2_nth_43 (by decide) ?_
        have hP9 := hP.sub (ws' := [(ra, .inr (2, [.ref ra1, .ref ra2, .ref ra3, .int (v_ra 0 0)])), (ra1, .inl (cI, ra_n * 20, .inl (v_ra 1))), (ra2, .inl (cI, ra_n, .inl (v_ra 2))), (ra3, .inl (cI, 21, .inl (v_ra 3)))]) [0, 1, 2, 3] rfl
        have hD9 := hD.sub (ws' := [(ra, .inr (2, [.ref ra1, .ref ra2, .ref ra3, .int (v_ra 0 0)])), (ra1, .inl (cI, ra_n * 20, .inl (v_ra 1))), (ra2, .inl (cI, ra_n, .inl (v_ra 2))), (ra3, .inl (cI, 21, .inl (v_ra 3)))]) [0, 1, 2, 3] (by decide) rfl
        have r9_0 : (-1 : Int32) = r1 := (Option.some.inj hf)
        exact W.iret (v := (-1 : Int32)) hx hb hr (fun t ht hW => ⟨⟨(-1 : Int32), (), rfl, r9_0, by rw [ht]; exact hP9, va_K.moved hW.alike hK, hD9⟩, hS.F ht⟩) hS.2.2 dX2_nth_44
      · replace hf := xi_f c_1 hf
        refine lv_lload_n hx hb dX2_nth_12 rfl (lv_at hl 2 rfl) ?_
        refine lv_iload hx hb dX2_nth_13 (lv_at hl 3 rfl) ?_
        refine lv_lshr hx hb dX2_nth_15 rfl ?_
        refine lv_topl (fun y_2 ey_2 => ?_)
        replace hf := xl_to (v := p1 >>> (x4.toInt64 &&& 63)) ey_2 hf
        refine lv_lconst (v := 1) hx hb dX2_nth_16 (by decide) ?_
        refine lv_land hx hb dX2_nth_17 ?_
        refine lv_topl (fun y_3 ey_3 => ?_)
        replace hf := xl_to (v := y_2 &&& ((1 : Int64))) ey_3 hf
        refine lv_lconst (v := 0) hx hb dX2_nth_18 (by decide) ?_
        refine W.lcmp hx hb dX2_nth_19 ?_
        refine lv_topi (fun y_4 ey_4 => ?_)
        replace hf := xl_to (v := xcmp y_3 ((0 : Int64))) (ey_4.trans (lg_x _ _)) hf
        refine lv_if_eq (tgt := 37) hx hb dX2_nth_20 (by decide) (fun c_5 => ?_) (fun c_5 => ?_)
        · replace hf := xi_t c_5 hf
          obtain ⟨x4_6, ex4_6⟩ : ∃ y : Int32, y = x4 + (1) := ⟨_, rfl⟩
          refine lv_iinc (v := x4_6) (lv' := [(4, .int x4_6), (0, .ref ra), (1, .int p0), (2, .long p1)]) hx hb dX2_nth_37 hl (k := 3) rfl (by rw [ex4_6]; rfl) (by decide) rfl (fun ls hl => ?_)
          replace hf := xl_to ex4_6 hf
          refine lv_goto (tgt := 3) hx hb dX2_nth_40 (by decide) ?_
          exact ih_3 x4_6 hf _ _ (hP.sub [0, 1, 2, 3] rfl) (hD.sub [0, 1, 2, 3] (by decide) rfl) hS ls (lv_sub hl [1, 2, 3, 0] rfl)
        · replace hf := xi_f c_5 hf
          refine lv_aload_n hx hb dX2_nth_23 rfl (lv_at hl 0 rfl) ?_
          refine lv_iload hx hb dX2_nth_24 (lv_at hl 3 rfl) ?_
          refine lv_lload_n hx hb dX2_nth_26 rfl (lv_at hl 2 rfl) ?_
          replace hf := xb1_to hf
          obtain ⟨o_7, g_8, hf⟩ := hf
          have hPc := hP.sub (ws' := [(ra, .inr (2, [.ref ra1, .ref ra2, .ref ra3, .int (v_ra 0 0)])), (ra1, .inl (cI, ra_n * 20, .inl (v_ra 1))), (ra2, .inl (cI, ra_n, .inl (v_ra 2))), (ra3, .inl (cI, 21, .inl (v_ra 3)))]) [0, 1, 2, 3] rfl
          have hDc := hD.sub (ws' := [(ra, .inr (2, [.ref ra1, .ref ra2, .ref ra3, .int (v_ra 0 0)])), (ra1, .inl (cI, ra_n * 20, .inl (v_ra 1))), (ra2, .inl (cI, ra_n, .inl (v_ra 2))), (ra3, .inl (cI, 21, .inl (v_ra 3)))]) [0, 1, 2, 3] (by decide) rfl
          have hFc := va_free (wc := [(ra, .inr (2, [.ref ra1, .ref ra2, .ref ra3, .int (v_ra 0 0)])), (ra1, .inl (cI, ra_n * 20, .inl (v_ra 1))), (ra2, .inl (cI, ra_n, .inl (v_ra 2))), (ra3, .inl (cI, 21, .inl (v_ra 3)))]) hD hS hA [0, 1, 2, 3] rfl
          refine va_calli (va_runV (As := [.int x4, .long p1]) (rest := []) ⟨hx, hb, hml, hown, hts⟩ (c_X2_aheady l dC dI cI cJ cB ra ra1 ra2 ra3 H.size ra_n v_ra x4 p1 n9 o_7 g_8) (cwV 2 hts go_wo_X2_nthy_1 rfl rfl rfl (by decide +kernel) ⟨Nat.le_of_ble_eq_true rfl, Nat.le_of_ble_eq_true rfl⟩) ⟨fun a U g mk q => by obtain ⟨q0, q1, qN, qP, qK, qD⟩ := q; exact ⟨q0, q1, NW.calling qN, qP, va_K.moved (u := U) (U := U.calling g mk a) (Vm.Alike.refl U.vm) qK, qD⟩, va_recv hK hPc (ci := 2) (q0 := 0) rfl rfl, fun U hU hW => ⟨rfl, by rw [hU], NW.warm hW hnw, by rw [hU]; exact hPc, va_K.moved hW.alike hK, hDc.weaken (fun _ _ _ _ => trivial)⟩⟩ rfl rfl hl.1 rfl (lv_room (Nat.le_of_ble_eq_true rfl)) dX2_nth_27 ⟨Nat.zero_le _, Nat.zero_le _⟩) hS (fun q _ h => hFc q h) hFc (fun r_9 u t H1 locs ht hvm hw hB hz1 hk1 hS => ?_)
          cases u
          obtain ⟨hP1, hK1, hD1⟩ := hB
          rw [ht] at hP1
          have hw : (r_9 = o_7) := hw
          subst hw
          obtain ⟨hP, hD⟩ := va_join (wr := []) (w1 := [(ra, .inr (2, [.ref ra1, .ref ra2, .ref ra3, .int (v_ra 0 0)])), (ra1, .inl (cI, ra_n * 20, .inl (v_ra 1))), (ra2, .inl (cI, ra_n, .inl (v_ra 2))), (ra3, .inl (cI, 21, .inl (v_ra 3)))]) hP hD [0, 1, 2, 3] [] rfl rfl (by decide) (by decide) hk1 hFc hP1 hD1
          generalize H1 = H at hP hS ⊢
          have hP : va_P (dC, dI) vwCl [(ra, .inr (2, [.ref ra1, .ref ra2, .ref ra3, .int (v_ra 0 0)])), (ra1, .inl (cI, ra_n * 20, .inl (v_ra 1))), (ra2, .inl (cI, ra_n, .inl (v_ra 2))), (ra3, .inl (cI, 21, .inl (v_ra 3)))] H := hP
          have hD : va_D (va_A (ww_X2_nthy dC dI cI cJ cB ra ra1 ra2 ra3 s.heap.size ra_n v_ra p0 p1 n9 r1) s.heap.size) [(ra, .inr (2, [.ref ra1, .ref ra2, .ref ra3, .int (v_ra 0 0)])), (ra1, .inl (cI, ra_n * 20, .inl (v_ra 1))), (ra2, .inl (cI, ra_n, .inl (v_ra 2))), (ra3, .inl (cI, 21, .inl (v_ra 3)))] := hD
          clear hPc hDc hFc hP1 hK1 hD1 hk1 hz1 ht hvm g_8
          refine lv_iload_n hx hb dX2_nth_30 rfl (lv_at hl 1 rfl) ?_
          refine lv_icmp_ne (tgt := 37) hx hb dX2_nth_31 (by decide) (fun c_11 => ?_) (fun c_11 => ?_)
          · replace hf := xi_f c_11 hf
            obtain ⟨x4_12, ex4_12⟩ : ∃ y : Int32, y = x4 + (1) := ⟨_, rfl⟩
            refine lv_iinc (v := x4_12) (lv' := [(4, .int x4_12), (0, .ref ra), (1, .int p0), (2, .long p1)]) hx hb dX2_nth_37 hl (k := 3) rfl (by rw [ex4_12]; rfl) (by decide) rfl (fun ls hl => ?_)
            replace hf := xl_to ex4_12 hf
            refine lv_goto (tgt := 3) hx hb dX2_nth_40 (by decide) ?_
            exact ih_3 x4_12 hf _ _ (hP.sub [0, 1, 2, 3] rfl) (hD.sub [0, 1, 2, 3] (by decide) rfl) hS ls (lv_sub hl [1, 2, 3, 0] rfl)
          · replace hf := xi_t c_11 hf
            refine lv_iload hx hb dX2_nth_34 (lv_at hl 3 rfl) ?_
            have hP9 := hP.sub (ws' := [(ra, .inr (2, [.ref ra1, .ref ra2, .ref ra3, .int (v_ra 0 0)])), (ra1, .inl (cI, ra_n * 20, .inl (v_ra 1))), (ra2, .inl (cI, ra_n, .inl (v_ra 2))), (ra3, .inl (cI, 21, .inl (v_ra 3)))]) [0, 1, 2, 3] rfl
            have hD9 := hD.sub (ws' := [(ra, .inr (2, [.ref ra1, .ref ra2, .ref ra3, .int (v_ra 0 0)])), (ra1, .inl (cI, ra_n * 20, .inl (v_ra 1))), (ra2, .inl (cI, ra_n, .inl (v_ra 2))), (ra3, .inl (cI, 21, .inl (v_ra 3)))]) [0, 1, 2, 3] (by decide) rfl
            have r9_0 : x4 = r1 := (Option.some.inj hf)
            exact W.iret (v := x4) hx hb hr (fun t ht hW => ⟨⟨x4, (), rfl, r9_0, by rw [ht]; exact hP9, va_K.moved hW.alike hK, hD9⟩, hS.F ht⟩) hS.2.2 dX2_nth_36
  refine lv_iconst (v := 0) hx hb dX2_nth_0 (by decide) ?_
  refine lv_istore (lv' := [(4, .int ((0 : Int32))), (0, .ref ra), (1, .int p0), (2, .long p1)]) hx hb dX2_nth_1 hl (by decide) rfl (fun ls hl => ?_)
  exact L_3 n9 ((0 : Int32)) hf _ _ (hP.sub [0, 1, 2, 3] rfl) (hD.sub [0, 1, 2, 3] (by decide) rfl) hS ls (lv_sub hl [1, 2, 3, 0] rfl)
def wo_X2_spanAty : List Cond := .code yX2_spanAt cX2_spanAt 6 (some .int) :: (([.initialized RX9, .static yX9_partsIn] : List Cond) ++ ((wsV RX2 46 RX2 yX2_cellAt wo_X2_cellAty) ++ ((wo_X9_partsIny) ++ ((wsV RX2 34 RX2 yX2_lengthOf wo_X2_lengthOfy)))))
set_option maxRecDepth 20000 in
theorem go_wo_X2_spanAty_0 : GoodIn wo_X2_spanAty (wsV RX2 46 RX2 yX2_cellAt wo_X2_cellAty) := goodIn_sub (fun _ h => (List.mem_cons_of_mem _ (List.mem_append_right _ (List.mem_append_left _ h)))) (by decide +kernel)
set_option maxRecDepth 20000 in
theorem go_wo_X2_spanAty_1 : GoodIn wo_X2_spanAty (wo_X9_partsIny) := goodIn_sub (fun _ h => (List.mem_cons_of_mem _ (List.mem_append_right _ (List.mem_append_right _ (List.mem_append_left _ h))))) (by decide +kernel)
set_option maxRecDepth 20000 in
theorem go_wo_X2_spanAty_2 : GoodIn wo_X2_spanAty (wsV RX2 34 RX2 yX2_lengthOf wo_X2_lengthOfy) := goodIn_sub (fun _ h => (List.mem_cons_of_mem _ (List.mem_append_right _ (List.mem_append_right _ (List.mem_append_right _ h))))) (by decide +kernel)
abbrev ww_X2_spanAty (dC : Nat → ClassId) (dI : Nat → Nat → Nat) (cI cJ cB : ClassId) (ra ra1 ra2 ra3 : Nat) (sz : Nat) (ra_n : Nat) (v_ra : Nat → Nat → Int32) (p0 : Int32) (p1 : Int32) (n9 : Nat) (r1 : Int32) : va_W := [(ra, .inr (2, [.ref ra1, .ref ra2, .ref ra3, .int (v_ra 0 0)])), (ra1, .inl (cI, ra_n * 20, .inl (v_ra 1))), (ra2, .inl (cI, ra_n, .inl (v_ra 2))), (ra3, .inl (cI, 21, .inl (v_ra 3)))]
abbrev at_X2_spanAty (dC : Nat → ClassId) (dI : Nat → Nat → Nat) (cI cJ cB : ClassId) (ra ra1 ra2 ra3 : Nat) (sz : Nat) (ra_n : Nat) (v_ra : Nat → Nat → Int32) (p0 : Int32) (p1 : Int32) (n9 : Nat) (r1 : Int32) (u : Unit) (t : State) : Prop := match u with
  | () => va_P (dC, dI) vwCl [(ra, .inr (2, [.ref ra1, .ref ra2, .ref ra3, .int (v_ra 0 0)])), (ra1, .inl (cI, ra_n * 20, .inl (v_ra 1))), (ra2, .inl (cI, ra_n, .inl (v_ra 2))), (ra3, .inl (cI, 21, .inl (v_ra 3)))] t.heap ∧ va_K (dC, dI) vwCl (tyL cI cJ cB) t ∧ va_D (va_A (ww_X2_spanAty dC dI cI cJ cB ra ra1 ra2 ra3 sz ra_n v_ra p0 p1 n9 r1) sz) [(ra, .inr (2, [.ref ra1, .ref ra2, .ref ra3, .int (v_ra 0 0)])), (ra1, .inl (cI, ra_n * 20, .inl (v_ra 1))), (ra2, .inl (cI, ra_n, .inl (v_ra 2))), (ra3, .inl (cI, 21, .inl (v_ra 3)))]
abbrev qc_X2_spanAty (dC : Nat → ClassId) (dI : Nat → Nat → Nat) (cI cJ cB : ClassId) (ra ra1 ra2 ra3 : Nat) (sz : Nat) (ra_n : Nat) (v_ra : Nat → Nat → Int32) (p0 : Int32) (p1 : Int32) (n9 : Nat) (r1 : Int32) : Array Value → State → Outcome → State → Prop := va_Qi (fun (r : Int32) (u : Unit) => match u with | () => (r = r1)) (at_X2_spanAty dC dI cI cJ cB ra ra1 ra2 ra3 sz ra_n v_ra p0 p1 n9 r1) (va_A (ww_X2_spanAty dC dI cI cJ cB ra ra1 ra2 ra3 sz ra_n v_ra p0 p1 n9 r1) sz)
abbrev pc_X2_spanAty (dC : Nat → ClassId) (dI : Nat → Nat → Nat) (cI cJ cB : ClassId) (ra ra1 ra2 ra3 : Nat) (sz : Nat) (ra_n : Nat) (v_ra : Nat → Nat → Int32) (p0 : Int32) (p1 : Int32) (n9 : Nat) (r1 : Int32) : Array Value → State → Prop := va_Pc [.ref ra, .int p0, .int p1] (fun U => U.heap.size = sz ∧ NW U ∧ va_P (dC, dI) vwCl (ww_X2_spanAty dC dI cI cJ cB ra ra1 ra2 ra3 sz ra_n v_ra p0 p1 n9 r1) U.heap ∧ va_K (dC, dI) vwCl (tyL cI cJ cB) U ∧ va_D (fun _ => True) (ww_X2_spanAty dC dI cI cJ cB ra ra1 ra2 ra3 sz ra_n v_ra p0 p1 n9 r1))
abbrev rm_X2_spanAty : Room := { frames := 1, cells := 0, slots := 0, locals := 23 }
abbrev WW_X2_spanAty (p : Program) (l : Launch) (e : Env) (s : State) (m : MethodId) (below : List Frame) (meth : Method) (c : Code) (dC : Nat → ClassId) (dI : Nat → Nat → Nat) (cI cJ cB : ClassId) (ra ra1 ra2 ra3 : Nat) (sz : Nat) (ra_n : Nat) (v_ra : Nat → Nat → Int32) (p0 : Int32) (p1 : Int32) (n9 : Nat) (r1 : Int32) (H : Heap) (locs : List Loc) (g : JFrame) : Prop := W p l e rm_X2_spanAty s m ([.ref ra, .int p0, .int p1] : List Value).toArray below meth c H locs 0 0 (MQ below (qc_X2_spanAty dC dI cI cJ cB ra ra1 ra2 ra3 sz ra_n v_ra p0 p1 n9 r1) ([.ref ra, .int p0, .int p1] : List Value).toArray s 0 0 (va_A (ww_X2_spanAty dC dI cI cJ cB ra ra1 ra2 ra3 sz ra_n v_ra p0 p1 n9 r1) sz)) g
set_option maxHeartbeats 4000000 in
set_option maxRecDepth 100000 in
theorem c_X2_spanAty (l : Launch) (dC : Nat → ClassId) (dI : Nat → Nat → Nat) (cI cJ cB : ClassId) (ra ra1 ra2 ra3 : Nat) (sz : Nat) (ra_n : Nat) (v_ra : Nat → Nat → Int32) (p0 : Int32) (p1 : Int32) (n9 : Nat) (r1 : Int32) (hf : fx_X2_spanAt n9 ra_n v_ra p0 p1 = some (r1)) : Met l yX2_spanAt wo_X2_spanAty rm_X2_spanAty (pc_X2_spanAty dC dI cI cJ cB ra ra1 ra2 ra3 sz ra_n v_ra p0 p1 n9 r1) (qc_X2_spanAty dC dI cI cJ cB ra ra1 ra2 ra3 sz ra_n v_ra p0 p1 n9 r1) 0 0 (va_A (ww_X2_spanAty dC dI cI cJ cB ra ra1 ra2 ra3 sz ra_n v_ra p0 p1 n9 r1) sz) := by
  unfold fx_X2_spanAt at hf
  refine Met.ofW (cc := cX2_spanAt) (maxL := 6) (ret := (some .int)) (by decide) rfl ?_
  intro p e s m args below meth c s₁ B hml hv
  obtain ⟨rfl, hsz, hnw, hP, hK, hD0⟩ := hv
  have hx := B.exec
  have hb := B.bytes
  have hr := B.returns
  have hts := atoms_spec (ws := wo_X2_spanAty) B.pre
  have hown : s.vm.findClass RX2 = some m.cls := findClass_of_methodNamed B.named
  have hlocks := B.notSynchronized
  clear B
  subst hsz
  have hD := hD0.self (sz := s.heap.size)
  clear hD0
  have hA : ∀ q : Nat, s.heap.size ≤ q → (va_A (ww_X2_spanAty dC dI cI cJ cB ra ra1 ra2 ra3 s.heap.size ra_n v_ra p0 p1 n9 r1) s.heap.size) q := fun q h => Or.inr h
  have hS : va_S (va_A (ww_X2_spanAty dC dI cI cJ cB ra ra1 ra2 ra3 s.heap.size ra_n v_ra p0 p1 n9 r1) s.heap.size) s.heap s.heap [] := va_S.rf
  have hl := lv_entry ([.ref ra, .int p0, .int p1]) (n := 6) (Nat.le_of_ble_eq_true rfl)
  rw [lg_entry_eq]
  generalize (lg_sl ([.ref ra, .int p0, .int p1]) ++ List.replicate (6 - (lg_sl ([.ref ra, .int p0, .int p1])).length) Slot.unset).toArray = ls at hl ⊢
  have hl : lv_has ls 6 [(0, .ref ra), (1, .int p0), (2, .int p1)] := hl
  have hP : va_P (dC, dI) vwCl [(ra, .inr (2, [.ref ra1, .ref ra2, .ref ra3, .int (v_ra 0 0)])), (ra1, .inl (cI, ra_n * 20, .inl (v_ra 1))), (ra2, .inl (cI, ra_n, .inl (v_ra 2))), (ra3, .inl (cI, 21, .inl (v_ra 3)))] s.heap := hP
  have hD : va_D (va_A (ww_X2_spanAty dC dI cI cJ cB ra ra1 ra2 ra3 s.heap.size ra_n v_ra p0 p1 n9 r1) s.heap.size) [(ra, .inr (2, [.ref ra1, .ref ra2, .ref ra3, .int (v_ra 0 0)])), (ra1, .inl (cI, ra_n * 20, .inl (v_ra 1))), (ra2, .inl (cI, ra_n, .inl (v_ra 2))), (ra3, .inl (cI, 21, .inl (v_ra 3)))] := hD
  obtain ⟨H, hH⟩ : ∃ H, H = s.heap := ⟨_, rfl⟩
  obtain ⟨locs, hlc⟩ : ∃ L : List Loc, L = [] := ⟨_, rfl⟩
  have hS : va_S (va_A (ww_X2_spanAty dC dI cI cJ cB ra ra1 ra2 ra3 s.heap.size ra_n v_ra p0 p1 n9 r1) s.heap.size) s.heap H locs := by rw [hH, hlc]; exact hS
  have hP : va_P (dC, dI) vwCl [(ra, .inr (2, [.ref ra1, .ref ra2, .ref ra3, .int (v_ra 0 0)])), (ra1, .inl (cI, ra_n * 20, .inl (v_ra 1))), (ra2, .inl (cI, ra_n, .inl (v_ra 2))), (ra3, .inl (cI, 21, .inl (v_ra 3)))] H := by rw [hH]; exact hP
  suffices hgo : WW_X2_spanAty p l e s m below meth c dC dI cI cJ cB ra ra1 ra2 ra3 s.heap.size ra_n v_ra p0 p1 n9 r1 H locs (F0 m 0 ls []) by rw [hH, hlc] at hgo; exact hgo
  clear hH hlc
  have L_12 : ∀ (N_12 : Nat), ∀ (x3 : Int32) (x4 : Int32) (x5 : Int32), lx_X2_spanAt_12 n9 ra_n v_ra p0 p1 N_12 x3 x4 x5 = some (r1) → ∀ (H : Heap) (locs : List Loc), va_P (dC, dI) vwCl [(ra, .inr (2, [.ref ra1, .ref ra2, .ref ra3, .int (v_ra 0 0)])), (ra1, .inl (cI, ra_n * 20, .inl (v_ra 1))), (ra2, .inl (cI, ra_n, .inl (v_ra 2))), (ra3, .inl (cI, 21, .inl (v_ra 3)))] H → va_D (va_A (ww_X2_spanAty dC dI cI cJ cB ra ra1 ra2 ra3 s.heap.size ra_n v_ra p0 p1 n9 r1) s.heap.size) [(ra, .inr (2, [.ref ra1, .ref ra2, .ref ra3, .int (v_ra 0 0)])), (ra1, .inl (cI, ra_n * 20, .inl (v_ra 1))), (ra2, .inl (cI, ra_n, .inl (v_ra 2))), (ra3, .inl (cI, 21, .inl (v_ra 3)))] → va_S (va_A (ww_X2_spanAty dC dI cI cJ cB ra ra1 ra2 ra3 s.heap.size ra_n v_ra p0 p1 n9 r1) s.heap.size) s.heap H locs → ∀ ls : Array Slot, lv_has ls 6 [(0, .ref ra), (1, .int p0), (2, .int p1), (3, .int x3), (4, .int x4), (5, .int x5)] → WW_X2_spanAty p l e s m below meth c dC dI cI cJ cB ra ra1 ra2 ra3 s.heap.size ra_n v_ra p0 p1 n9 r1 H locs (F0 m 12 ls []) := by
    intro N_12
    induction N_12 with
    | zero => intro x3 x4 x5 hf; exact xn_to hf
    | succ N_12 ih_12 =>
      intro x3 x4 x5 hf H locs hP hD hS ls hl
      replace hf : bx_X2_spanAt_12 n9 ra_n v_ra p0 p1 (lx_X2_spanAt_12 n9 ra_n v_ra p0 p1 N_12) x3 x4 x5 = some (r1) := hf
      generalize lx_X2_spanAt_12 n9 ra_n v_ra p0 p1 N_12 = k_12 at hf ih_12
      unfold bx_X2_spanAt_12 at hf
      refine lv_iload_n hx hb dX2_spanAt_12 rfl (lv_at hl 3 rfl) ?_
      refine lv_if_le (tgt := 44) hx hb dX2_spanAt_13 (by decide) (fun c_1 => ?_) (fun c_1 => ?_)
      · replace hf := xi_t c_1 hf
        refine lv_iload hx hb dX2_spanAt_44 (lv_at hl 4 rfl) ?_
        refine lv_iload_n hx hb dX2_spanAt_46 rfl (lv_at hl 2 rfl) ?_
        refine lv_isub hx hb dX2_spanAt_47 ?_
        refine lv_topi (fun y_2 ey_2 => ?_)
        replace hf := xl_to (v := x4 - p1) ey_2 hf
        have hP9 := hP.sub (ws' := [(ra, .inr (2, [.ref ra1, .ref ra2, .ref ra3, .int (v_ra 0 0)])), (ra1, .inl (cI, ra_n * 20, .inl (v_ra 1))), (ra2, .inl (cI, ra_n, .inl (v_ra 2))), (ra3, .inl (cI, 21, .inl (v_ra 3)))]) [0, 1, 2, 3] rfl
        have hD9 := hD.sub (ws' := [(ra, .inr (2, [.ref ra1, .ref ra2, .ref ra3, .int (v_ra 0 0)])), (ra1, .inl (cI, ra_n * 20, .inl (v_ra 1))), (ra2, .inl (cI, ra_n, .inl (v_ra 2))), (ra3, .inl (cI, 21, .inl (v_ra 3)))]) [0, 1, 2, 3] (by decide) rfl
        have r9_0 : y_2 = r1 := (Option.some.inj hf)
        exact W.iret (v := y_2) hx hb hr (fun t ht hW => ⟨⟨y_2, (), rfl, r9_0, by rw [ht]; exact hP9, va_K.moved hW.alike hK, hD9⟩, hS.F ht⟩) hS.2.2 dX2_spanAt_48
      · replace hf := xi_f c_1 hf
        refine lv_iload hx hb dX2_spanAt_16 (lv_at hl 4 rfl) ?_
        refine lv_iload hx hb dX2_spanAt_18 (lv_at hl 5 rfl) ?_
        refine lv_icmp_ge (tgt := 44) hx hb dX2_spanAt_20 (by decide) (fun c_3 => ?_) (fun c_3 => ?_)
        · replace hf := xi_t c_3 hf
          refine lv_iload hx hb dX2_spanAt_44 (lv_at hl 4 rfl) ?_
          refine lv_iload_n hx hb dX2_spanAt_46 rfl (lv_at hl 2 rfl) ?_
          refine lv_isub hx hb dX2_spanAt_47 ?_
          refine lv_topi (fun y_4 ey_4 => ?_)
          replace hf := xl_to (v := x4 - p1) ey_4 hf
          have hP9 := hP.sub (ws' := [(ra, .inr (2, [.ref ra1, .ref ra2, .ref ra3, .int (v_ra 0 0)])), (ra1, .inl (cI, ra_n * 20, .inl (v_ra 1))), (ra2, .inl (cI, ra_n, .inl (v_ra 2))), (ra3, .inl (cI, 21, .inl (v_ra 3)))]) [0, 1, 2, 3] rfl
          have hD9 := hD.sub (ws' := [(ra, .inr (2, [.ref ra1, .ref ra2, .ref ra3, .int (v_ra 0 0)])), (ra1, .inl (cI, ra_n * 20, .inl (v_ra 1))), (ra2, .inl (cI, ra_n, .inl (v_ra 2))), (ra3, .inl (cI, 21, .inl (v_ra 3)))]) [0, 1, 2, 3] (by decide) rfl
          have r9_0 : y_4 = r1 := (Option.some.inj hf)
          exact W.iret (v := y_4) hx hb hr (fun t ht hW => ⟨⟨y_4, (), rfl, r9_0, by rw [ht]; exact hP9, va_K.moved hW.alike hK, hD9⟩, hS.F ht⟩) hS.2.2 dX2_spanAt_48
        · replace hf := xi_f c_3 hf
          refine lv_iload_n hx hb dX2_spanAt_23 rfl (lv_at hl 3 rfl) ?_
          refine lv_aload_n hx hb dX2_spanAt_24 rfl (lv_at hl 0 rfl) ?_
          refine lv_iload_n hx hb dX2_spanAt_25 rfl (lv_at hl 1 rfl) ?_
          refine lv_iload hx hb dX2_spanAt_26 (lv_at hl 4 rfl) ?_
          replace hf := xb1_to hf
          obtain ⟨o_5, g_6, hf⟩ := hf
          have hPc := hP.sub (ws' := [(ra, .inr (2, [.ref ra1, .ref ra2, .ref ra3, .int (v_ra 0 0)])), (ra1, .inl (cI, ra_n * 20, .inl (v_ra 1))), (ra2, .inl (cI, ra_n, .inl (v_ra 2))), (ra3, .inl (cI, 21, .inl (v_ra 3)))]) [0, 1, 2, 3] rfl
          have hDc := hD.sub (ws' := [(ra, .inr (2, [.ref ra1, .ref ra2, .ref ra3, .int (v_ra 0 0)])), (ra1, .inl (cI, ra_n * 20, .inl (v_ra 1))), (ra2, .inl (cI, ra_n, .inl (v_ra 2))), (ra3, .inl (cI, 21, .inl (v_ra 3)))]) [0, 1, 2, 3] (by decide) rfl
          have hFc := va_free (wc := [(ra, .inr (2, [.ref ra1, .ref ra2, .ref ra3, .int (v_ra 0 0)])), (ra1, .inl (cI, ra_n * 20, .inl (v_ra 1))), (ra2, .inl (cI, ra_n, .inl (v_ra 2))), (ra3, .inl (cI, 21, .inl (v_ra 3)))]) hD hS hA [0, 1, 2, 3] rfl
          refine va_calli (va_runV (As := [.int p0, .int x4]) (rest := [.int x3]) ⟨hx, hb, hml, hown, hts⟩ (c_X2_cellAty l dC dI cI cJ cB ra ra1 ra2 ra3 H.size ra_n v_ra p0 x4 n9 o_5 g_6) (cwV 2 hts go_wo_X2_spanAty_0 rfl rfl rfl (by decide +kernel) ⟨Nat.le_of_ble_eq_true rfl, Nat.le_of_ble_eq_true rfl⟩) ⟨fun a U g mk q => by obtain ⟨q0, q1, qN, qP, qK, qD⟩ := q; exact ⟨q0, q1, NW.calling qN, qP, va_K.moved (u := U) (U := U.calling g mk a) (Vm.Alike.refl U.vm) qK, qD⟩, va_recv hK hPc (ci := 2) (q0 := 0) rfl rfl, fun U hU hW => ⟨rfl, by rw [hU], NW.warm hW hnw, by rw [hU]; exact hPc, va_K.moved hW.alike hK, hDc.weaken (fun _ _ _ _ => trivial)⟩⟩ rfl rfl hl.1 rfl (lv_room (Nat.le_of_ble_eq_true rfl)) dX2_spanAt_28 ⟨Nat.zero_le _, Nat.zero_le _⟩) hS (fun q _ h => hFc q h) hFc (fun r_7 u t H1 locs ht hvm hw hB hz1 hk1 hS => ?_)
          cases u
          obtain ⟨hP1, hK1, hD1⟩ := hB
          rw [ht] at hP1
          have hw : (r_7 = o_5) := hw
          subst hw
          obtain ⟨hP, hD⟩ := va_join (wr := []) (w1 := [(ra, .inr (2, [.ref ra1, .ref ra2, .ref ra3, .int (v_ra 0 0)])), (ra1, .inl (cI, ra_n * 20, .inl (v_ra 1))), (ra2, .inl (cI, ra_n, .inl (v_ra 2))), (ra3, .inl (cI, 21, .inl (v_ra 3)))]) hP hD [0, 1, 2, 3] [] rfl rfl (by decide) (by decide) hk1 hFc hP1 hD1
          generalize H1 = H at hP hS ⊢
          have hP : va_P (dC, dI) vwCl [(ra, .inr (2, [.ref ra1, .ref ra2, .ref ra3, .int (v_ra 0 0)])), (ra1, .inl (cI, ra_n * 20, .inl (v_ra 1))), (ra2, .inl (cI, ra_n, .inl (v_ra 2))), (ra3, .inl (cI, 21, .inl (v_ra 3)))] H := hP
          have hD : va_D (va_A (ww_X2_spanAty dC dI cI cJ cB ra ra1 ra2 ra3 s.heap.size ra_n v_ra p0 p1 n9 r1) s.heap.size) [(ra, .inr (2, [.ref ra1, .ref ra2, .ref ra3, .int (v_ra 0 0)])), (ra1, .inl (cI, ra_n * 20, .inl (v_ra 1))), (ra2, .inl (cI, ra_n, .inl (v_ra 2))), (ra3, .inl (cI, 21, .inl (v_ra 3)))] := hD
          clear hPc hDc hFc hP1 hK1 hD1 hk1 hz1 ht hvm g_6
          replace hf := xb1_to hf
          obtain ⟨o_9, g_10, hf⟩ := hf
          have hPc := hP.sub (ws' := []) [] rfl
          have hDc := hD.sub (ws' := []) [] (by decide) rfl
          have hFc := va_free (wc := []) hD hS hA [] rfl
          refine va_calli (va_runSN (host := "SumRewriter") (As := [.int r_7]) (rest := [.int x3]) ⟨hx, hb, hml, hown, hts⟩ (c_X9_partsIny l dC dI cI cJ cB  H.size r_7 n9 o_9 g_10) ⟨va_cnB 1 hts go_wo_X2_spanAty_1 rfl rfl rfl (hnw _ (by decide +kernel) : va_Nw (.methodLinkNest RX2 65 yX9_partsIn "SumRewriter") s) (hts (.initialized RX9) (by decide +kernel)) (by decide +kernel) ⟨Nat.le_of_ble_eq_true rfl, Nat.le_of_ble_eq_true rfl⟩, hts (.static yX9_partsIn) (by decide +kernel), trivial⟩ ⟨fun a U g mk q => by obtain ⟨q0, q1, qN, qP, qK, qD⟩ := q; exact ⟨q0, q1, NW.calling qN, qP, va_K.moved (u := U) (U := U.calling g mk a) (Vm.Alike.refl U.vm) qK, qD⟩, fun U hU hW => ⟨rfl, by rw [hU], NW.warm hW hnw, by rw [hU]; exact hPc, va_K.moved hW.alike hK, hDc.weaken (fun _ _ _ _ => trivial)⟩⟩ rfl rfl hl.1 rfl (lv_room (Nat.le_of_ble_eq_true rfl)) dX2_spanAt_31 ⟨Nat.zero_le _, Nat.zero_le _⟩) hS (fun q _ h => hFc q h) hFc (fun r_11 u t H1 locs ht hvm hw hB hz1 hk1 hS => ?_)
          cases u
          obtain ⟨hP1, hK1, hD1⟩ := hB
          rw [ht] at hP1
          have hw : (r_11 = o_9) := hw
          subst hw
          obtain ⟨hP, hD⟩ := va_join (wr := [(ra, .inr (2, [.ref ra1, .ref ra2, .ref ra3, .int (v_ra 0 0)])), (ra1, .inl (cI, ra_n * 20, .inl (v_ra 1))), (ra2, .inl (cI, ra_n, .inl (v_ra 2))), (ra3, .inl (cI, 21, .inl (v_ra 3)))]) (w1 := []) hP hD [] [0, 1, 2, 3] rfl rfl (by decide) (by decide) hk1 hFc hP1 hD1
          generalize H1 = H at hP hS ⊢
          have hP : va_P (dC, dI) vwCl [(ra, .inr (2, [.ref ra1, .ref ra2, .ref ra3, .int (v_ra 0 0)])), (ra1, .inl (cI, ra_n * 20, .inl (v_ra 1))), (ra2, .inl (cI, ra_n, .inl (v_ra 2))), (ra3, .inl (cI, 21, .inl (v_ra 3)))] H := hP
          have hD : va_D (va_A (ww_X2_spanAty dC dI cI cJ cB ra ra1 ra2 ra3 s.heap.size ra_n v_ra p0 p1 n9 r1) s.heap.size) [(ra, .inr (2, [.ref ra1, .ref ra2, .ref ra3, .int (v_ra 0 0)])), (ra1, .inl (cI, ra_n * 20, .inl (v_ra 1))), (ra2, .inl (cI, ra_n, .inl (v_ra 2))), (ra3, .inl (cI, 21, .inl (v_ra 3)))] := hD
          clear hPc hDc hFc hP1 hK1 hD1 hk1 hz1 ht hvm g_10
          refine lv_iconst (v := 1) hx hb dX2_spanAt_34 (by decide) ?_
          refine lv_isub hx hb dX2_spanAt_35 ?_
          refine lv_topi (fun y_13 ey_13 => ?_)
          replace hf := xl_to (v := r_11 - ((1 : Int32))) ey_13 hf
          refine lv_iadd hx hb dX2_spanAt_36 ?_
          refine lv_topi (fun y_14 ey_14 => ?_)
          replace hf := xl_to (v := x3 + y_13) ey_14 hf
          refine lv_istore_n (lv' := [(3, .int y_14), (0, .ref ra), (1, .int p0), (2, .int p1), (4, .int x4), (5, .int x5)]) hx hb dX2_spanAt_37 rfl hl (by decide) rfl (fun ls hl => ?_)
          obtain ⟨x4_15, ex4_15⟩ : ∃ y : Int32, y = x4 + (1) := ⟨_, rfl⟩
          refine lv_iinc (v := x4_15) (lv' := [(4, .int x4_15), (3, .int y_14), (0, .ref ra), (1, .int p0), (2, .int p1), (5, .int x5)]) hx hb dX2_spanAt_38 hl (k := 4) rfl (by rw [ex4_15]; rfl) (by decide) rfl (fun ls hl => ?_)
          replace hf := xl_to ex4_15 hf
          refine lv_goto (tgt := 12) hx hb dX2_spanAt_41 (by decide) ?_
          exact ih_12 y_14 x4_15 x5 hf _ _ (hP.sub [0, 1, 2, 3] rfl) (hD.sub [0, 1, 2, 3] (by decide) rfl) hS ls (lv_sub hl [2, 3, 4, 1, 0, 5] rfl)
  refine lv_iconst (v := 1) hx hb dX2_spanAt_0 (by decide) ?_
  refine lv_istore_n (lv' := [(3, .int ((1 : Int32))), (0, .ref ra), (1, .int p0), (2, .int p1)]) hx hb dX2_spanAt_1 rfl hl (by decide) rfl (fun ls hl => ?_)
  refine lv_iload_n hx hb dX2_spanAt_2 rfl (lv_at hl 3 rfl) ?_
  refine lv_istore (lv' := [(4, .int p1), (3, .int ((1 : Int32))), (0, .ref ra), (1, .int p0), (2, .int p1)]) hx hb dX2_spanAt_3 hl (by decide) rfl (fun ls hl => ?_)
  refine lv_aload_n hx hb dX2_spanAt_5 rfl (lv_at hl 2 rfl) ?_
  refine lv_iload_n hx hb dX2_spanAt_6 rfl (lv_at hl 3 rfl) ?_
  replace hf := xb1_to hf
  obtain ⟨o_16, g_17, hf⟩ := hf
  have hPc := hP.sub (ws' := [(ra, .inr (2, [.ref ra1, .ref ra2, .ref ra3, .int (v_ra 0 0)])), (ra1, .inl (cI, ra_n * 20, .inl (v_ra 1))), (ra2, .inl (cI, ra_n, .inl (v_ra 2))), (ra3, .inl (cI, 21, .inl (v_ra 3)))]) [0, 1, 2, 3] rfl
  have hDc := hD.sub (ws' := [(ra, .inr (2, [.ref ra1, .ref ra2, .ref ra3, .int (v_ra 0 0)])), (ra1, .inl (cI, ra_n * 20, .inl (v_ra 1))), (ra2, .inl (cI, ra_n, .inl (v_ra 2))), (ra3, .inl (cI, 21, .inl (v_ra 3)))]) [0, 1, 2, 3] (by decide) rfl
  have hFc := va_free (wc := [(ra, .inr (2, [.ref ra1, .ref ra2, .ref ra3, .int (v_ra 0 0)])), (ra1, .inl (cI, ra_n * 20, .inl (v_ra 1))), (ra2, .inl (cI, ra_n, .inl (v_ra 2))), (ra3, .inl (cI, 21, .inl (v_ra 3)))]) hD hS hA [0, 1, 2, 3] rfl
  refine va_calli (va_runV (As := [.int p0]) (rest := []) ⟨hx, hb, hml, hown, hts⟩ (c_X2_lengthOfy l dC dI cI cJ cB ra ra1 ra2 ra3 H.size ra_n v_ra p0 n9 o_16 g_17) (cwV 1 hts go_wo_X2_spanAty_2 rfl rfl rfl (by decide +kernel) ⟨Nat.le_of_ble_eq_true rfl, Nat.le_of_ble_eq_true rfl⟩) ⟨fun a U g mk q => by obtain ⟨q0, q1, qN, qP, qK, qD⟩ := q; exact ⟨q0, q1, NW.calling qN, qP, va_K.moved (u := U) (U := U.calling g mk a) (Vm.Alike.refl U.vm) qK, qD⟩, va_recv hK hPc (ci := 2) (q0 := 0) rfl rfl, fun U hU hW => ⟨rfl, by rw [hU], NW.warm hW hnw, by rw [hU]; exact hPc, va_K.moved hW.alike hK, hDc.weaken (fun _ _ _ _ => trivial)⟩⟩ rfl rfl hl.1 rfl (lv_room (Nat.le_of_ble_eq_true rfl)) dX2_spanAt_7 ⟨Nat.zero_le _, Nat.zero_le _⟩) hS (fun q _ h => hFc q h) hFc (fun r_18 u t H1 locs ht hvm hw hB hz1 hk1 hS => ?_)
  cases u
  obtain ⟨hP1, hK1, hD1⟩ := hB
  rw [ht] at hP1
  have hw : (r_18 = o_16) := hw
  subst hw
  obtain ⟨hP, hD⟩ := va_join (wr := []) (w1 := [(ra, .inr (2, [.ref ra1, .ref ra2, .ref ra3, .int (v_ra 0 0)])), (ra1, .inl (cI, ra_n * 20, .inl (v_ra 1))), (ra2, .inl (cI, ra_n, .inl (v_ra 2))), (ra3, .inl (cI, 21, .inl (v_ra 3)))]) hP hD [0, 1, 2, 3] [] rfl rfl (by decide) (by decide) hk1 hFc hP1 hD1
  generalize H1 = H at hP hS ⊢
  have hP : va_P (dC, dI) vwCl [(ra, .inr (2, [.ref ra1, .ref ra2, .ref ra3, .int (v_ra 0 0)])), (ra1, .inl (cI, ra_n * 20, .inl (v_ra 1))), (ra2, .inl (cI, ra_n, .inl (v_ra 2))), (ra3, .inl (cI, 21, .inl (v_ra 3)))] H := hP
  have hD : va_D (va_A (ww_X2_spanAty dC dI cI cJ cB ra ra1 ra2 ra3 s.heap.size ra_n v_ra p0 p1 n9 r1) s.heap.size) [(ra, .inr (2, [.ref ra1, .ref ra2, .ref ra3, .int (v_ra 0 0)])), (ra1, .inl (cI, ra_n * 20, .inl (v_ra 1))), (ra2, .inl (cI, ra_n, .inl (v_ra 2))), (ra3, .inl (cI, 21, .inl (v_ra 3)))] := hD
  clear hPc hDc hFc hP1 hK1 hD1 hk1 hz1 ht hvm g_17
  refine lv_istore (lv' := [(5, .int r_18), (4, .int p1), (3, .int ((1 : Int32))), (0, .ref ra), (1, .int p0), (2, .int p1)]) hx hb dX2_spanAt_10 hl (by decide) rfl (fun ls hl => ?_)
  exact L_12 n9 ((1 : Int32)) p1 r_18 hf _ _ (hP.sub [0, 1, 2, 3] rfl) (hD.sub [0, 1, 2, 3] (by decide) rfl) hS ls (lv_sub hl [3, 4, 5, 2, 1, 0] rfl)
def wo_X2_leavey : List Cond := .code yX2_leave cX2_leave 3 (some .int) :: (([.fieldLink RX2 27 "SumRewriter$Rows" "open" "[I"] : List Cond) ++ ((wsX20)))
abbrev ww_X2_leavey (dC : Nat → ClassId) (dI : Nat → Nat → Nat) (cI cJ cB : ClassId) (ra ra1 ra2 ra3 : Nat) (sz : Nat) (ra_n : Nat) (v_ra0 : Nat → Nat → Int32) (p0 : Int32) (n9 : Nat) (r1 : Int32) (v_ra1 : Nat → Nat → Int32) : va_W := [(ra, .inr (2, [.ref ra1, .ref ra2, .ref ra3, .int (v_ra0 0 0)])), (ra1, .inl (cI, ra_n * 20, .inl (v_ra0 1))), (ra2, .inl (cI, ra_n, .inl (v_ra0 2))), (ra3, .inl (cI, 21, .inl (v_ra0 3)))]
abbrev at_X2_leavey (dC : Nat → ClassId) (dI : Nat → Nat → Nat) (cI cJ cB : ClassId) (ra ra1 ra2 ra3 : Nat) (sz : Nat) (ra_n : Nat) (v_ra0 : Nat → Nat → Int32) (p0 : Int32) (n9 : Nat) (r1 : Int32) (v_ra1 : Nat → Nat → Int32) (u : (Nat → Nat → Int32)) (t : State) : Prop := match u with
  | v_ra => va_P (dC, dI) vwCl [(ra, .inr (2, [.ref ra1, .ref ra2, .ref ra3, .int (v_ra 0 0)])), (ra1, .inl (cI, ra_n * 20, .inl (v_ra 1))), (ra2, .inl (cI, ra_n, .inl (v_ra 2))), (ra3, .inl (cI, 21, .inl (v_ra 3)))] t.heap ∧ va_K (dC, dI) vwCl (tyL cI cJ cB) t ∧ va_D (va_A (ww_X2_leavey dC dI cI cJ cB ra ra1 ra2 ra3 sz ra_n v_ra0 p0 n9 r1 v_ra1) sz) [(ra, .inr (2, [.ref ra1, .ref ra2, .ref ra3, .int (v_ra 0 0)])), (ra1, .inl (cI, ra_n * 20, .inl (v_ra 1))), (ra2, .inl (cI, ra_n, .inl (v_ra 2))), (ra3, .inl (cI, 21, .inl (v_ra 3)))]
abbrev qc_X2_leavey (dC : Nat → ClassId) (dI : Nat → Nat → Nat) (cI cJ cB : ClassId) (ra ra1 ra2 ra3 : Nat) (sz : Nat) (ra_n : Nat) (v_ra0 : Nat → Nat → Int32) (p0 : Int32) (n9 : Nat) (r1 : Int32) (v_ra1 : Nat → Nat → Int32) : Array Value → State → Outcome → State → Prop := va_Qi (fun (r : Int32) (u : (Nat → Nat → Int32)) => match u with | v_ra => (r = r1) ∧ (v_ra = v_ra1)) (at_X2_leavey dC dI cI cJ cB ra ra1 ra2 ra3 sz ra_n v_ra0 p0 n9 r1 v_ra1) (va_A (ww_X2_leavey dC dI cI cJ cB ra ra1 ra2 ra3 sz ra_n v_ra0 p0 n9 r1 v_ra1) sz)
abbrev pc_X2_leavey (dC : Nat → ClassId) (dI : Nat → Nat → Nat) (cI cJ cB : ClassId) (ra ra1 ra2 ra3 : Nat) (sz : Nat) (ra_n : Nat) (v_ra0 : Nat → Nat → Int32) (p0 : Int32) (n9 : Nat) (r1 : Int32) (v_ra1 : Nat → Nat → Int32) : Array Value → State → Prop := va_Pc [.ref ra, .int p0] (fun U => U.heap.size = sz ∧ NW U ∧ va_P (dC, dI) vwCl (ww_X2_leavey dC dI cI cJ cB ra ra1 ra2 ra3 sz ra_n v_ra0 p0 n9 r1 v_ra1) U.heap ∧ va_K (dC, dI) vwCl (tyL cI cJ cB) U ∧ va_D (fun _ => True) (ww_X2_leavey dC dI cI cJ cB ra ra1 ra2 ra3 sz ra_n v_ra0 p0 n9 r1 v_ra1))
abbrev rm_X2_leavey : Room := { frames := 0, cells := 0, slots := 0, locals := 0 }
abbrev WW_X2_leavey (p : Program) (l : Launch) (e : Env) (s : State) (m : MethodId) (below : List Frame) (meth : Method) (c : Code) (dC : Nat → ClassId) (dI : Nat → Nat → Nat) (cI cJ cB : ClassId) (ra ra1 ra2 ra3 : Nat) (sz : Nat) (ra_n : Nat) (v_ra0 : Nat → Nat → Int32) (p0 : Int32) (n9 : Nat) (r1 : Int32) (v_ra1 : Nat → Nat → Int32) (H : Heap) (locs : List Loc) (g : JFrame) : Prop := W p l e rm_X2_leavey s m ([.ref ra, .int p0] : List Value).toArray below meth c H locs 0 0 (MQ below (qc_X2_leavey dC dI cI cJ cB ra ra1 ra2 ra3 sz ra_n v_ra0 p0 n9 r1 v_ra1) ([.ref ra, .int p0] : List Value).toArray s 0 0 (va_A (ww_X2_leavey dC dI cI cJ cB ra ra1 ra2 ra3 sz ra_n v_ra0 p0 n9 r1 v_ra1) sz)) g
set_option maxHeartbeats 4000000 in
set_option maxRecDepth 100000 in
theorem c_X2_leavey (l : Launch) (dC : Nat → ClassId) (dI : Nat → Nat → Nat) (cI cJ cB : ClassId) (ra ra1 ra2 ra3 : Nat) (sz : Nat) (ra_n : Nat) (v_ra0 : Nat → Nat → Int32) (p0 : Int32) (n9 : Nat) (r1 : Int32) (v_ra1 : Nat → Nat → Int32) (hf : fx_X2_leave n9 v_ra0 p0 = some (r1, v_ra1)) : Met l yX2_leave wo_X2_leavey rm_X2_leavey (pc_X2_leavey dC dI cI cJ cB ra ra1 ra2 ra3 sz ra_n v_ra0 p0 n9 r1 v_ra1) (qc_X2_leavey dC dI cI cJ cB ra ra1 ra2 ra3 sz ra_n v_ra0 p0 n9 r1 v_ra1) 0 0 (va_A (ww_X2_leavey dC dI cI cJ cB ra ra1 ra2 ra3 sz ra_n v_ra0 p0 n9 r1 v_ra1) sz) := by
  unfold fx_X2_leave at hf
  refine Met.ofW (cc := cX2_leave) (maxL := 3) (ret := (some .int)) (by decide) rfl ?_
  intro p e s m args below meth c s₁ B hml hv
  obtain ⟨rfl, hsz, hnw, hP, hK, hD0⟩ := hv
  have hx := B.exec
  have hb := B.bytes
  have hr := B.returns
  have hts := atoms_spec (ws := wo_X2_leavey) B.pre
  have hown : s.vm.findClass RX2 = some m.cls := findClass_of_methodNamed B.named
  have hlocks := B.notSynchronized
  clear B
  subst hsz
  have hD := hD0.self (sz := s.heap.size)
  clear hD0
  have kk0_ := hts (.fieldLink RX2 27 "SumRewriter$Rows" "open" "[I") (by decide +kernel)
  have kk1_ : ∀ w ∈ wsX20, w ∈ wo_X2_leavey := fun _ h => (List.mem_cons_of_mem _ (List.mem_append_right _ h))
  have hA : ∀ q : Nat, s.heap.size ≤ q → (va_A (ww_X2_leavey dC dI cI cJ cB ra ra1 ra2 ra3 s.heap.size ra_n v_ra0 p0 n9 r1 v_ra1) s.heap.size) q := fun q h => Or.inr h
  have hS : va_S (va_A (ww_X2_leavey dC dI cI cJ cB ra ra1 ra2 ra3 s.heap.size ra_n v_ra0 p0 n9 r1 v_ra1) s.heap.size) s.heap s.heap [] := va_S.rf
  have hl := lv_entry ([.ref ra, .int p0]) (n := 3) (Nat.le_of_ble_eq_true rfl)
  rw [lg_entry_eq]
  generalize (lg_sl ([.ref ra, .int p0]) ++ List.replicate (3 - (lg_sl ([.ref ra, .int p0])).length) Slot.unset).toArray = ls at hl ⊢
  have hl : lv_has ls 3 [(0, .ref ra), (1, .int p0)] := hl
  have hP : va_P (dC, dI) vwCl [(ra, .inr (2, [.ref ra1, .ref ra2, .ref ra3, .int (v_ra0 0 0)])), (ra1, .inl (cI, ra_n * 20, .inl (v_ra0 1))), (ra2, .inl (cI, ra_n, .inl (v_ra0 2))), (ra3, .inl (cI, 21, .inl (v_ra0 3)))] s.heap := hP
  have hD : va_D (va_A (ww_X2_leavey dC dI cI cJ cB ra ra1 ra2 ra3 s.heap.size ra_n v_ra0 p0 n9 r1 v_ra1) s.heap.size) [(ra, .inr (2, [.ref ra1, .ref ra2, .ref ra3, .int (v_ra0 0 0)])), (ra1, .inl (cI, ra_n * 20, .inl (v_ra0 1))), (ra2, .inl (cI, ra_n, .inl (v_ra0 2))), (ra3, .inl (cI, 21, .inl (v_ra0 3)))] := hD
  obtain ⟨H, hH⟩ : ∃ H, H = s.heap := ⟨_, rfl⟩
  obtain ⟨locs, hlc⟩ : ∃ L : List Loc, L = [] := ⟨_, rfl⟩
  have hS : va_S (va_A (ww_X2_leavey dC dI cI cJ cB ra ra1 ra2 ra3 s.heap.size ra_n v_ra0 p0 n9 r1 v_ra1) s.heap.size) s.heap H locs := by rw [hH, hlc]; exact hS
  have hP : va_P (dC, dI) vwCl [(ra, .inr (2, [.ref ra1, .ref ra2, .ref ra3, .int (v_ra0 0 0)])), (ra1, .inl (cI, ra_n * 20, .inl (v_ra0 1))), (ra2, .inl (cI, ra_n, .inl (v_ra0 2))), (ra3, .inl (cI, 21, .inl (v_ra0 3)))] H := by rw [hH]; exact hP
  suffices hgo : WW_X2_leavey p l e s m below meth c dC dI cI cJ cB ra ra1 ra2 ra3 s.heap.size ra_n v_ra0 p0 n9 r1 v_ra1 H locs (F0 m 0 ls []) by rw [hH, hlc] at hgo; exact hgo
  clear hH hlc
  have L_2 : ∀ (N_2 : Nat), ∀ (x2 : Int32) (v_ra : Nat → Nat → Int32), lx_X2_leave_2 n9 p0 N_2 x2 v_ra = some (r1, v_ra1) → ∀ (H : Heap) (locs : List Loc), va_P (dC, dI) vwCl [(ra, .inr (2, [.ref ra1, .ref ra2, .ref ra3, .int (v_ra 0 0)])), (ra1, .inl (cI, ra_n * 20, .inl (v_ra 1))), (ra2, .inl (cI, ra_n, .inl (v_ra 2))), (ra3, .inl (cI, 21, .inl (v_ra 3)))] H → va_D (va_A (ww_X2_leavey dC dI cI cJ cB ra ra1 ra2 ra3 s.heap.size ra_n v_ra0 p0 n9 r1 v_ra1) s.heap.size) [(ra, .inr (2, [.ref ra1, .ref ra2, .ref ra3, .int (v_ra 0 0)])), (ra1, .inl (cI, ra_n * 20, .inl (v_ra 1))), (ra2, .inl (cI, ra_n, .inl (v_ra 2))), (ra3, .inl (cI, 21, .inl (v_ra 3)))] → va_S (va_A (ww_X2_leavey dC dI cI cJ cB ra ra1 ra2 ra3 s.heap.size ra_n v_ra0 p0 n9 r1 v_ra1) s.heap.size) s.heap H locs → ∀ ls : Array Slot, lv_has ls 3 [(0, .ref ra), (1, .int p0), (2, .int x2)] → WW_X2_leavey p l e s m below meth c dC dI cI cJ cB ra ra1 ra2 ra3 s.heap.size ra_n v_ra0 p0 n9 r1 v_ra1 H locs (F0 m 2 ls []) := by
    intro N_2
    induction N_2 with
    | zero => intro x2 v_ra hf; exact xn_to hf
    | succ N_2 ih_2 =>
      intro x2 v_ra hf H locs hP hD hS ls hl
      replace hf : bx_X2_leave_2 n9 p0 (lx_X2_leave_2 n9 p0 N_2) x2 v_ra = some (r1, v_ra1) := hf
      generalize lx_X2_leave_2 n9 p0 N_2 = k_2 at hf ih_2
      unfold bx_X2_leave_2 at hf
      refine lv_iload_n hx hb dX2_leave_2 rfl (lv_at hl 2 rfl) ?_
      refine lv_if_le (tgt := 40) hx hb dX2_leave_3 (by decide) (fun c_1 => ?_) (fun c_1 => ?_)
      · replace hf := xi_t c_1 hf
        refine lv_iload_n hx hb dX2_leave_40 rfl (lv_at hl 2 rfl) ?_
        have hP9 := hP.sub (ws' := [(ra, .inr (2, [.ref ra1, .ref ra2, .ref ra3, .int (v_ra 0 0)])), (ra1, .inl (cI, ra_n * 20, .inl (v_ra 1))), (ra2, .inl (cI, ra_n, .inl (v_ra 2))), (ra3, .inl (cI, 21, .inl (v_ra 3)))]) [0, 1, 2, 3] rfl
        have hD9 := hD.sub (ws' := [(ra, .inr (2, [.ref ra1, .ref ra2, .ref ra3, .int (v_ra 0 0)])), (ra1, .inl (cI, ra_n * 20, .inl (v_ra 1))), (ra2, .inl (cI, ra_n, .inl (v_ra 2))), (ra3, .inl (cI, 21, .inl (v_ra 3)))]) [0, 1, 2, 3] (by decide) rfl
        have r9_0 : x2 = r1 := (Prod.mk.inj (Option.some.inj hf)).1
        have r9_1 : v_ra = v_ra1 := (Prod.mk.inj (Option.some.inj hf)).2
        exact W.iret (v := x2) hx hb hr (fun t ht hW => ⟨⟨x2, v_ra, rfl, ⟨r9_0, r9_1⟩, by rw [ht]; exact hP9, va_K.moved hW.alike hK, hD9⟩, hS.F ht⟩) hS.2.2 dX2_leave_41
      · replace hf := xi_f c_1 hf
        refine lv_iload_n hx hb dX2_leave_6 rfl (lv_at hl 2 rfl) ?_
        refine lv_bipush (v := 20) hx hb dX2_leave_7 (by decide) ?_
        refine lv_icmp_gt (tgt := 40) hx hb dX2_leave_9 (by decide) (fun c_2 => ?_) (fun c_2 => ?_)
        · replace hf := xi_t c_2 hf
          refine lv_iload_n hx hb dX2_leave_40 rfl (lv_at hl 2 rfl) ?_
          have hP9 := hP.sub (ws' := [(ra, .inr (2, [.ref ra1, .ref ra2, .ref ra3, .int (v_ra 0 0)])), (ra1, .inl (cI, ra_n * 20, .inl (v_ra 1))), (ra2, .inl (cI, ra_n, .inl (v_ra 2))), (ra3, .inl (cI, 21, .inl (v_ra 3)))]) [0, 1, 2, 3] rfl
          have hD9 := hD.sub (ws' := [(ra, .inr (2, [.ref ra1, .ref ra2, .ref ra3, .int (v_ra 0 0)])), (ra1, .inl (cI, ra_n * 20, .inl (v_ra 1))), (ra2, .inl (cI, ra_n, .inl (v_ra 2))), (ra3, .inl (cI, 21, .inl (v_ra 3)))]) [0, 1, 2, 3] (by decide) rfl
          have r9_0 : x2 = r1 := (Prod.mk.inj (Option.some.inj hf)).1
          have r9_1 : v_ra = v_ra1 := (Prod.mk.inj (Option.some.inj hf)).2
          exact W.iret (v := x2) hx hb hr (fun t ht hW => ⟨⟨x2, v_ra, rfl, ⟨r9_0, r9_1⟩, by rw [ht]; exact hP9, va_K.moved hW.alike hK, hD9⟩, hS.F ht⟩) hS.2.2 dX2_leave_41
        · replace hf := xi_f c_2 hf
          refine lv_aload_n hx hb dX2_leave_12 rfl (lv_at hl 0 rfl) ?_
          refine va_get (D := (dC, dI)) (ci := 2) (v := .ref ra3) (C := RX2) (T := TX2) (N := 4) hx hb hts kk1_ hown hK hP 0 rfl rfl 2 (by decide) kk0_ (fun _ h9 => h9) rfl dX2_leave_13 ?_
          refine lv_iload_n hx hb dX2_leave_16 rfl (lv_at hl 2 rfl) ?_
          refine lv_dup2_11 hx hb dX2_leave_17 rfl rfl ?_
          refine va_iald hx hb hK hP 3 0 rfl rfl (vp_in_iff.mpr (xr_in hf)) dX2_leave_18 ?_
          refine lv_topi (fun y_3 ey_3 => ?_)
          replace hf := xr_to ey_3 hf
          refine lv_iconst (v := 1) hx hb dX2_leave_19 (by decide) ?_
          refine lv_isub hx hb dX2_leave_20 ?_
          refine lv_topi (fun y_4 ey_4 => ?_)
          replace hf := xl_to (v := y_3 - ((1 : Int32))) ey_4 hf
          refine va_iast hx hb hK hP hD hS 3 0 rfl rfl (vp_in_iff.mpr (xwp_in hf)) dX2_leave_21 (fun H locs hP hD hS => ?_)
          obtain ⟨v_ra_5, ev_ra_5⟩ : ∃ z, z = mu v_ra 3 (x2).toNatClampNeg y_4 := ⟨_, rfl⟩
          have hP : va_P (dC, dI) vwCl [(ra, .inr (2, [.ref ra1, .ref ra2, .ref ra3, .int (v_ra_5 0 0)])), (ra1, .inl (cI, ra_n * 20, .inl (v_ra_5 1))), (ra2, .inl (cI, ra_n, .inl (v_ra_5 2))), (ra3, .inl (cI, 21, .inl (v_ra_5 3)))] H := by rw [ev_ra_5]; exact hP
          have hD : va_D (va_A (ww_X2_leavey dC dI cI cJ cB ra ra1 ra2 ra3 s.heap.size ra_n v_ra0 p0 n9 r1 v_ra1) s.heap.size) [(ra, .inr (2, [.ref ra1, .ref ra2, .ref ra3, .int (v_ra_5 0 0)])), (ra1, .inl (cI, ra_n * 20, .inl (v_ra_5 1))), (ra2, .inl (cI, ra_n, .inl (v_ra_5 2))), (ra3, .inl (cI, 21, .inl (v_ra_5 3)))] := by rw [ev_ra_5]; exact hD
          replace hf := xwp_to ev_ra_5 hf
          refine lv_aload_n hx hb dX2_leave_22 rfl (lv_at hl 0 rfl) ?_
          refine va_get (D := (dC, dI)) (ci := 2) (v := .ref ra3) (C := RX2) (T := TX2) (N := 4) hx hb hts kk1_ hown hK hP 0 rfl rfl 2 (by decide) kk0_ (fun _ h9 => h9) rfl dX2_leave_23 ?_
          refine lv_iload_n hx hb dX2_leave_26 rfl (lv_at hl 2 rfl) ?_
          refine va_iald hx hb hK hP 3 0 rfl rfl (vp_in_iff.mpr (xr_in hf)) dX2_leave_27 ?_
          refine lv_topi (fun y_6 ey_6 => ?_)
          replace hf := xr_to ey_6 hf
          refine lv_if_le (tgt := 34) hx hb dX2_leave_28 (by decide) (fun c_7 => ?_) (fun c_7 => ?_)
          · replace hf := xi_t c_7 hf
            obtain ⟨x2_8, ex2_8⟩ : ∃ y : Int32, y = x2 + (-1) := ⟨_, rfl⟩
            refine lv_iinc (v := x2_8) (lv' := [(2, .int x2_8), (0, .ref ra), (1, .int p0)]) hx hb dX2_leave_34 hl (k := 2) rfl (by rw [ex2_8]; rfl) (by decide) rfl (fun ls hl => ?_)
            replace hf := xl_to ex2_8 hf
            refine lv_goto (tgt := 2) hx hb dX2_leave_37 (by decide) ?_
            exact ih_2 x2_8 v_ra_5 hf _ _ (hP.sub [0, 1, 2, 3] rfl) (hD.sub [0, 1, 2, 3] (by decide) rfl) hS ls (lv_sub hl [1, 2, 0] rfl)
          · replace hf := xi_f c_7 hf
            refine lv_goto (tgt := 40) hx hb dX2_leave_31 (by decide) ?_
            refine lv_iload_n hx hb dX2_leave_40 rfl (lv_at hl 2 rfl) ?_
            have hP9 := hP.sub (ws' := [(ra, .inr (2, [.ref ra1, .ref ra2, .ref ra3, .int (v_ra_5 0 0)])), (ra1, .inl (cI, ra_n * 20, .inl (v_ra_5 1))), (ra2, .inl (cI, ra_n, .inl (v_ra_5 2))), (ra3, .inl (cI, 21, .inl (v_ra_5 3)))]) [0, 1, 2, 3] rfl
            have hD9 := hD.sub (ws' := [(ra, .inr (2, [.ref ra1, .ref ra2, .ref ra3, .int (v_ra_5 0 0)])), (ra1, .inl (cI, ra_n * 20, .inl (v_ra_5 1))), (ra2, .inl (cI, ra_n, .inl (v_ra_5 2))), (ra3, .inl (cI, 21, .inl (v_ra_5 3)))]) [0, 1, 2, 3] (by decide) rfl
            have r9_0 : x2 = r1 := (Prod.mk.inj (Option.some.inj hf)).1
            have r9_1 : v_ra_5 = v_ra1 := (Prod.mk.inj (Option.some.inj hf)).2
            exact W.iret (v := x2) hx hb hr (fun t ht hW => ⟨⟨x2, v_ra_5, rfl, ⟨r9_0, r9_1⟩, by rw [ht]; exact hP9, va_K.moved hW.alike hK, hD9⟩, hS.F ht⟩) hS.2.2 dX2_leave_41
  refine lv_iload_n hx hb dX2_leave_0 rfl (lv_at hl 1 rfl) ?_
  refine lv_istore_n (lv' := [(2, .int p0), (0, .ref ra), (1, .int p0)]) hx hb dX2_leave_1 rfl hl (by decide) rfl (fun ls hl => ?_)
  exact L_2 n9 p0 v_ra0 hf _ _ (hP.sub [0, 1, 2, 3] rfl) (hD.sub [0, 1, 2, 3] (by decide) rfl) hS ls (lv_sub hl [1, 2, 0] rfl)
def wo_X2_depthOfy : List Cond := .code yX2_depthOf cX2_depthOf 7 (some .int) :: (([.methodLink RX2 15 Lib.Math.max.name, .static Lib.Math.max.name, .initialized "java/lang/Math", .code Lib.Math.max.name Lib.Math.max.code 2 (some .int), .fieldLink RX2 27 "SumRewriter$Rows" "open" "[I", .initialized RX9, .static yX9_partsIn] : List Cond) ++ ((wsX20) ++ ((wsV RX2 46 RX2 yX2_cellAt wo_X2_cellAty) ++ ((wo_X9_partsIny) ++ ((wsV RX2 68 RX2 yX2_leave wo_X2_leavey) ++ ((wsV RX2 34 RX2 yX2_lengthOf wo_X2_lengthOfy)))))))
set_option maxRecDepth 20000 in
theorem go_wo_X2_depthOfy_1 : GoodIn wo_X2_depthOfy (wsV RX2 46 RX2 yX2_cellAt wo_X2_cellAty) := goodIn_sub (fun _ h => (List.mem_cons_of_mem _ (List.mem_append_right _ (List.mem_append_right _ (List.mem_append_left _ h))))) (by decide +kernel)
set_option maxRecDepth 20000 in
theorem go_wo_X2_depthOfy_2 : GoodIn wo_X2_depthOfy (wo_X9_partsIny) := goodIn_sub (fun _ h => (List.mem_cons_of_mem _ (List.mem_append_right _ (List.mem_append_right _ (List.mem_append_right _ (List.mem_append_left _ h)))))) (by decide +kernel)
set_option maxRecDepth 20000 in
theorem go_wo_X2_depthOfy_3 : GoodIn wo_X2_depthOfy (wsV RX2 68 RX2 yX2_leave wo_X2_leavey) := goodIn_sub (fun _ h => (List.mem_cons_of_mem _ (List.mem_append_right _ (List.mem_append_right _ (List.mem_append_right _ (List.mem_append_right _ (List.mem_append_left _ h))))))) (by decide +kernel)
set_option maxRecDepth 20000 in
theorem go_wo_X2_depthOfy_4 : GoodIn wo_X2_depthOfy (wsV RX2 34 RX2 yX2_lengthOf wo_X2_lengthOfy) := goodIn_sub (fun _ h => (List.mem_cons_of_mem _ (List.mem_append_right _ (List.mem_append_right _ (List.mem_append_right _ (List.mem_append_right _ (List.mem_append_right _ h))))))) (by decide +kernel)
abbrev ww_X2_depthOfy (dC : Nat → ClassId) (dI : Nat → Nat → Nat) (cI cJ cB : ClassId) (ra ra1 ra2 ra3 : Nat) (sz : Nat) (ra_n : Nat) (v_ra0 : Nat → Nat → Int32) (p0 : Int32) (n9 : Nat) (r1 : Int32) (v_ra1 : Nat → Nat → Int32) : va_W := [(ra, .inr (2, [.ref ra1, .ref ra2, .ref ra3, .int (v_ra0 0 0)])), (ra1, .inl (cI, ra_n * 20, .inl (v_ra0 1))), (ra2, .inl (cI, ra_n, .inl (v_ra0 2))), (ra3, .inl (cI, 21, .inl (v_ra0 3)))]
abbrev at_X2_depthOfy (dC : Nat → ClassId) (dI : Nat → Nat → Nat) (cI cJ cB : ClassId) (ra ra1 ra2 ra3 : Nat) (sz : Nat) (ra_n : Nat) (v_ra0 : Nat → Nat → Int32) (p0 : Int32) (n9 : Nat) (r1 : Int32) (v_ra1 : Nat → Nat → Int32) (u : (Nat → Nat → Int32)) (t : State) : Prop := match u with
  | v_ra => va_P (dC, dI) vwCl [(ra, .inr (2, [.ref ra1, .ref ra2, .ref ra3, .int (v_ra 0 0)])), (ra1, .inl (cI, ra_n * 20, .inl (v_ra 1))), (ra2, .inl (cI, ra_n, .inl (v_ra 2))), (ra3, .inl (cI, 21, .inl (v_ra 3)))] t.heap ∧ va_K (dC, dI) vwCl (tyL cI cJ cB) t ∧ va_D (va_A (ww_X2_depthOfy dC dI cI cJ cB ra ra1 ra2 ra3 sz ra_n v_ra0 p0 n9 r1 v_ra1) sz) [(ra, .inr (2, [.ref ra1, .ref ra2, .ref ra3, .int (v_ra 0 0)])), (ra1, .inl (cI, ra_n * 20, .inl (v_ra 1))), (ra2, .inl (cI, ra_n, .inl (v_ra 2))), (ra3, .inl (cI, 21, .inl (v_ra 3)))]
abbrev qc_X2_depthOfy (dC : Nat → ClassId) (dI : Nat → Nat → Nat) (cI cJ cB : ClassId) (ra ra1 ra2 ra3 : Nat) (sz : Nat) (ra_n : Nat) (v_ra0 : Nat → Nat → Int32) (p0 : Int32) (n9 : Nat) (r1 : Int32) (v_ra1 : Nat → Nat → Int32) : Array Value → State → Outcome → State → Prop := va_Qi (fun (r : Int32) (u : (Nat → Nat → Int32)) => match u with | v_ra => (r = r1) ∧ (v_ra = v_ra1)) (at_X2_depthOfy dC dI cI cJ cB ra ra1 ra2 ra3 sz ra_n v_ra0 p0 n9 r1 v_ra1) (va_A (ww_X2_depthOfy dC dI cI cJ cB ra ra1 ra2 ra3 sz ra_n v_ra0 p0 n9 r1 v_ra1) sz)
abbrev pc_X2_depthOfy (dC : Nat → ClassId) (dI : Nat → Nat → Nat) (cI cJ cB : ClassId) (ra ra1 ra2 ra3 : Nat) (sz : Nat) (ra_n : Nat) (v_ra0 : Nat → Nat → Int32) (p0 : Int32) (n9 : Nat) (r1 : Int32) (v_ra1 : Nat → Nat → Int32) : Array Value → State → Prop := va_Pc [.ref ra, .int p0] (fun U => U.heap.size = sz ∧ NW U ∧ va_P (dC, dI) vwCl (ww_X2_depthOfy dC dI cI cJ cB ra ra1 ra2 ra3 sz ra_n v_ra0 p0 n9 r1 v_ra1) U.heap ∧ va_K (dC, dI) vwCl (tyL cI cJ cB) U ∧ va_D (fun _ => True) (ww_X2_depthOfy dC dI cI cJ cB ra ra1 ra2 ra3 sz ra_n v_ra0 p0 n9 r1 v_ra1))
abbrev rm_X2_depthOfy : Room := { frames := 2, cells := 0, slots := 0, locals := 60 }
abbrev WW_X2_depthOfy (p : Program) (l : Launch) (e : Env) (s : State) (m : MethodId) (below : List Frame) (meth : Method) (c : Code) (dC : Nat → ClassId) (dI : Nat → Nat → Nat) (cI cJ cB : ClassId) (ra ra1 ra2 ra3 : Nat) (sz : Nat) (ra_n : Nat) (v_ra0 : Nat → Nat → Int32) (p0 : Int32) (n9 : Nat) (r1 : Int32) (v_ra1 : Nat → Nat → Int32) (H : Heap) (locs : List Loc) (g : JFrame) : Prop := W p l e rm_X2_depthOfy s m ([.ref ra, .int p0] : List Value).toArray below meth c H locs 0 0 (MQ below (qc_X2_depthOfy dC dI cI cJ cB ra ra1 ra2 ra3 sz ra_n v_ra0 p0 n9 r1 v_ra1) ([.ref ra, .int p0] : List Value).toArray s 0 0 (va_A (ww_X2_depthOfy dC dI cI cJ cB ra ra1 ra2 ra3 sz ra_n v_ra0 p0 n9 r1 v_ra1) sz)) g
set_option maxHeartbeats 4000000 in
set_option maxRecDepth 100000 in
theorem c_X2_depthOfy (l : Launch) (dC : Nat → ClassId) (dI : Nat → Nat → Nat) (cI cJ cB : ClassId) (ra ra1 ra2 ra3 : Nat) (sz : Nat) (ra_n : Nat) (v_ra0 : Nat → Nat → Int32) (p0 : Int32) (n9 : Nat) (r1 : Int32) (v_ra1 : Nat → Nat → Int32) (hf : fx_X2_depthOf n9 ra_n v_ra0 p0 = some (r1, v_ra1)) : Met l yX2_depthOf wo_X2_depthOfy rm_X2_depthOfy (pc_X2_depthOfy dC dI cI cJ cB ra ra1 ra2 ra3 sz ra_n v_ra0 p0 n9 r1 v_ra1) (qc_X2_depthOfy dC dI cI cJ cB ra ra1 ra2 ra3 sz ra_n v_ra0 p0 n9 r1 v_ra1) 0 0 (va_A (ww_X2_depthOfy dC dI cI cJ cB ra ra1 ra2 ra3 sz ra_n v_ra0 p0 n9 r1 v_ra1) sz) := by
  unfold fx_X2_depthOf at hf
  refine Met.ofW (cc := cX2_depthOf) (maxL := 7) (ret := (some .int)) (by decide) rfl ?_
  intro p e s m args below meth c s₁ B hml hv
  obtain ⟨rfl, hsz, hnw, hP, hK, hD0⟩ := hv
  have hx := B.exec
  have hb := B.bytes
  have hr := B.returns
  have hts := atoms_spec (ws := wo_X2_depthOfy) B.pre
  have hown : s.vm.findClass RX2 = some m.cls := findClass_of_methodNamed B.named
  have hlocks := B.notSynchronized
  clear B
  subst hsz
  have hD := hD0.self (sz := s.heap.size)
  clear hD0
  have kk0_ := hts (.methodLink RX2 15 Lib.Math.max.name) (by decide +kernel)
  have kk1_ := hts (.static Lib.Math.max.name) (by decide +kernel)
  have kk2_ := hts (.initialized "java/lang/Math") (by decide +kernel)
  have kk3_ := hts (.code Lib.Math.max.name Lib.Math.max.code 2 (some .int)) (by decide +kernel)
  have kk4_ := hts (.fieldLink RX2 27 "SumRewriter$Rows" "open" "[I") (by decide +kernel)
  have kk5_ : ∀ w ∈ wsX20, w ∈ wo_X2_depthOfy := fun _ h => (List.mem_cons_of_mem _ (List.mem_append_right _ (List.mem_append_left _ h)))
  have hA : ∀ q : Nat, s.heap.size ≤ q → (va_A (ww_X2_depthOfy dC dI cI cJ cB ra ra1 ra2 ra3 s.heap.size ra_n v_ra0 p0 n9 r1 v_ra1) s.heap.size) q := fun q h => Or.inr h
  have hS : va_S (va_A (ww_X2_depthOfy dC dI cI cJ cB ra ra1 ra2 ra3 s.heap.size ra_n v_ra0 p0 n9 r1 v_ra1) s.heap.size) s.heap s.heap [] := va_S.rf
  have hl := lv_entry ([.ref ra, .int p0]) (n := 7) (Nat.le_of_ble_eq_true rfl)
  rw [lg_entry_eq]
  generalize (lg_sl ([.ref ra, .int p0]) ++ List.replicate (7 - (lg_sl ([.ref ra, .int p0])).length) Slot.unset).toArray = ls at hl ⊢
  have hl : lv_has ls 7 [(0, .ref ra), (1, .int p0)] := hl
  have hP : va_P (dC, dI) vwCl [(ra, .inr (2, [.ref ra1, .ref ra2, .ref ra3, .int (v_ra0 0 0)])), (ra1, .inl (cI, ra_n * 20, .inl (v_ra0 1))), (ra2, .inl (cI, ra_n, .inl (v_ra0 2))), (ra3, .inl (cI, 21, .inl (v_ra0 3)))] s.heap := hP
  have hD : va_D (va_A (ww_X2_depthOfy dC dI cI cJ cB ra ra1 ra2 ra3 s.heap.size ra_n v_ra0 p0 n9 r1 v_ra1) s.heap.size) [(ra, .inr (2, [.ref ra1, .ref ra2, .ref ra3, .int (v_ra0 0 0)])), (ra1, .inl (cI, ra_n * 20, .inl (v_ra0 1))), (ra2, .inl (cI, ra_n, .inl (v_ra0 2))), (ra3, .inl (cI, 21, .inl (v_ra0 3)))] := hD
  obtain ⟨H, hH⟩ : ∃ H, H = s.heap := ⟨_, rfl⟩
  obtain ⟨locs, hlc⟩ : ∃ L : List Loc, L = [] := ⟨_, rfl⟩
  have hS : va_S (va_A (ww_X2_depthOfy dC dI cI cJ cB ra ra1 ra2 ra3 s.heap.size ra_n v_ra0 p0 n9 r1 v_ra1) s.heap.size) s.heap H locs := by rw [hH, hlc]; exact hS
  have hP : va_P (dC, dI) vwCl [(ra, .inr (2, [.ref ra1, .ref ra2, .ref ra3, .int (v_ra0 0 0)])), (ra1, .inl (cI, ra_n * 20, .inl (v_ra0 1))), (ra2, .inl (cI, ra_n, .inl (v_ra0 2))), (ra3, .inl (cI, 21, .inl (v_ra0 3)))] H := by rw [hH]; exact hP
  suffices hgo : WW_X2_depthOfy p l e s m below meth c dC dI cI cJ cB ra ra1 ra2 ra3 s.heap.size ra_n v_ra0 p0 n9 r1 v_ra1 H locs (F0 m 0 ls []) by rw [hH, hlc] at hgo; exact hgo
  clear hH hlc
  have L_14 : ∀ (N_14 : Nat), ∀ (x2 : Int32) (x3 : Int32) (x4 : Int32) (x5 : Int32) (v_ra : Nat → Nat → Int32), lx_X2_depthOf_14 n9 ra_n p0 N_14 x2 x3 x4 x5 v_ra = some (r1, v_ra1) → ∀ (H : Heap) (locs : List Loc), va_P (dC, dI) vwCl [(ra, .inr (2, [.ref ra1, .ref ra2, .ref ra3, .int (v_ra 0 0)])), (ra1, .inl (cI, ra_n * 20, .inl (v_ra 1))), (ra2, .inl (cI, ra_n, .inl (v_ra 2))), (ra3, .inl (cI, 21, .inl (v_ra 3)))] H → va_D (va_A (ww_X2_depthOfy dC dI cI cJ cB ra ra1 ra2 ra3 s.heap.size ra_n v_ra0 p0 n9 r1 v_ra1) s.heap.size) [(ra, .inr (2, [.ref ra1, .ref ra2, .ref ra3, .int (v_ra 0 0)])), (ra1, .inl (cI, ra_n * 20, .inl (v_ra 1))), (ra2, .inl (cI, ra_n, .inl (v_ra 2))), (ra3, .inl (cI, 21, .inl (v_ra 3)))] → va_S (va_A (ww_X2_depthOfy dC dI cI cJ cB ra ra1 ra2 ra3 s.heap.size ra_n v_ra0 p0 n9 r1 v_ra1) s.heap.size) s.heap H locs → ∀ ls : Array Slot, lv_has ls 7 [(0, .ref ra), (1, .int p0), (2, .int x2), (3, .int x3), (4, .int x4), (5, .int x5)] → WW_X2_depthOfy p l e s m below meth c dC dI cI cJ cB ra ra1 ra2 ra3 s.heap.size ra_n v_ra0 p0 n9 r1 v_ra1 H locs (F0 m 14 ls []) := by
    intro N_14
    induction N_14 with
    | zero => intro x2 x3 x4 x5 v_ra hf; exact xn_to hf
    | succ N_14 ih_14 =>
      intro x2 x3 x4 x5 v_ra hf H locs hP hD hS ls hl
      replace hf : bx_X2_depthOf_14 n9 ra_n p0 (lx_X2_depthOf_14 n9 ra_n p0 N_14) x2 x3 x4 x5 v_ra = some (r1, v_ra1) := hf
      generalize lx_X2_depthOf_14 n9 ra_n p0 N_14 = k_14 at hf ih_14
      unfold bx_X2_depthOf_14 at hf
      refine lv_iload hx hb dX2_depthOf_14 (lv_at hl 5 rfl) ?_
      refine lv_iload hx hb dX2_depthOf_16 (lv_at hl 4 rfl) ?_
      refine lv_icmp_ge (tgt := 76) hx hb dX2_depthOf_18 (by decide) (fun c_1 => ?_) (fun c_1 => ?_)
      · replace hf := xi_t c_1 hf
        refine lv_iload_n hx hb dX2_depthOf_76 rfl (lv_at hl 2 rfl) ?_
        have hP9 := hP.sub (ws' := [(ra, .inr (2, [.ref ra1, .ref ra2, .ref ra3, .int (v_ra 0 0)])), (ra1, .inl (cI, ra_n * 20, .inl (v_ra 1))), (ra2, .inl (cI, ra_n, .inl (v_ra 2))), (ra3, .inl (cI, 21, .inl (v_ra 3)))]) [0, 1, 2, 3] rfl
        have hD9 := hD.sub (ws' := [(ra, .inr (2, [.ref ra1, .ref ra2, .ref ra3, .int (v_ra 0 0)])), (ra1, .inl (cI, ra_n * 20, .inl (v_ra 1))), (ra2, .inl (cI, ra_n, .inl (v_ra 2))), (ra3, .inl (cI, 21, .inl (v_ra 3)))]) [0, 1, 2, 3] (by decide) rfl
        have r9_0 : x2 = r1 := (Prod.mk.inj (Option.some.inj hf)).1
        have r9_1 : v_ra = v_ra1 := (Prod.mk.inj (Option.some.inj hf)).2
        exact W.iret (v := x2) hx hb hr (fun t ht hW => ⟨⟨x2, v_ra, rfl, ⟨r9_0, r9_1⟩, by rw [ht]; exact hP9, va_K.moved hW.alike hK, hD9⟩, hS.F ht⟩) hS.2.2 dX2_depthOf_77
      · replace hf := xi_f c_1 hf
        refine lv_iload_n hx hb dX2_depthOf_21 rfl (lv_at hl 2 rfl) ?_
        refine lv_iload_n hx hb dX2_depthOf_22 rfl (lv_at hl 3 rfl) ?_
        refine va_mmax hx hb (by rw [hml]; exact hl.1.symm) hown kk0_ kk1_ kk2_ kk3_ (Nat.le_of_ble_eq_true rfl) (Nat.le_of_ble_eq_true rfl) (Nat.zero_le _) (Nat.zero_le _) dX2_depthOf_23 ?_
        refine lv_topi (fun y_2 ey_2 => ?_)
        replace hf := xl_to (v := if x2 < x3 then x3 else x2) ey_2 hf
        refine lv_istore_n (lv' := [(2, .int y_2), (0, .ref ra), (1, .int p0), (3, .int x3), (4, .int x4), (5, .int x5)]) hx hb dX2_depthOf_26 rfl hl (by decide) rfl (fun ls hl => ?_)
        refine lv_aload_n hx hb dX2_depthOf_27 rfl (lv_at hl 1 rfl) ?_
        refine lv_iload_n hx hb dX2_depthOf_28 rfl (lv_at hl 2 rfl) ?_
        refine lv_iload hx hb dX2_depthOf_29 (lv_at hl 5 rfl) ?_
        replace hf := xb1_to hf
        obtain ⟨o_3, g_4, hf⟩ := hf
        have hPc := hP.sub (ws' := [(ra, .inr (2, [.ref ra1, .ref ra2, .ref ra3, .int (v_ra 0 0)])), (ra1, .inl (cI, ra_n * 20, .inl (v_ra 1))), (ra2, .inl (cI, ra_n, .inl (v_ra 2))), (ra3, .inl (cI, 21, .inl (v_ra 3)))]) [0, 1, 2, 3] rfl
        have hDc := hD.sub (ws' := [(ra, .inr (2, [.ref ra1, .ref ra2, .ref ra3, .int (v_ra 0 0)])), (ra1, .inl (cI, ra_n * 20, .inl (v_ra 1))), (ra2, .inl (cI, ra_n, .inl (v_ra 2))), (ra3, .inl (cI, 21, .inl (v_ra 3)))]) [0, 1, 2, 3] (by decide) rfl
        have hFc := va_free (wc := [(ra, .inr (2, [.ref ra1, .ref ra2, .ref ra3, .int (v_ra 0 0)])), (ra1, .inl (cI, ra_n * 20, .inl (v_ra 1))), (ra2, .inl (cI, ra_n, .inl (v_ra 2))), (ra3, .inl (cI, 21, .inl (v_ra 3)))]) hD hS hA [0, 1, 2, 3] rfl
        refine va_calli (va_runV (As := [.int p0, .int x5]) (rest := []) ⟨hx, hb, hml, hown, hts⟩ (c_X2_cellAty l dC dI cI cJ cB ra ra1 ra2 ra3 H.size ra_n v_ra p0 x5 n9 o_3 g_4) (cwV 2 hts go_wo_X2_depthOfy_1 rfl rfl rfl (by decide +kernel) ⟨Nat.le_of_ble_eq_true rfl, Nat.le_of_ble_eq_true rfl⟩) ⟨fun a U g mk q => by obtain ⟨q0, q1, qN, qP, qK, qD⟩ := q; exact ⟨q0, q1, NW.calling qN, qP, va_K.moved (u := U) (U := U.calling g mk a) (Vm.Alike.refl U.vm) qK, qD⟩, va_recv hK hPc (ci := 2) (q0 := 0) rfl rfl, fun U hU hW => ⟨rfl, by rw [hU], NW.warm hW hnw, by rw [hU]; exact hPc, va_K.moved hW.alike hK, hDc.weaken (fun _ _ _ _ => trivial)⟩⟩ rfl rfl hl.1 rfl (lv_room (Nat.le_of_ble_eq_true rfl)) dX2_depthOf_31 ⟨Nat.zero_le _, Nat.zero_le _⟩) hS (fun q _ h => hFc q h) hFc (fun r_5 u t H1 locs ht hvm hw hB hz1 hk1 hS => ?_)
        cases u
        obtain ⟨hP1, hK1, hD1⟩ := hB
        rw [ht] at hP1
        have hw : (r_5 = o_3) := hw
        subst hw
        obtain ⟨hP, hD⟩ := va_join (wr := []) (w1 := [(ra, .inr (2, [.ref ra1, .ref ra2, .ref ra3, .int (v_ra 0 0)])), (ra1, .inl (cI, ra_n * 20, .inl (v_ra 1))), (ra2, .inl (cI, ra_n, .inl (v_ra 2))), (ra3, .inl (cI, 21, .inl (v_ra 3)))]) hP hD [0, 1, 2, 3] [] rfl rfl (by decide) (by decide) hk1 hFc hP1 hD1
        generalize H1 = H at hP hS ⊢
        have hP : va_P (dC, dI) vwCl [(ra, .inr (2, [.ref ra1, .ref ra2, .ref ra3, .int (v_ra 0 0)])), (ra1, .inl (cI, ra_n * 20, .inl (v_ra 1))), (ra2, .inl (cI, ra_n, .inl (v_ra 2))), (ra3, .inl (cI, 21, .inl (v_ra 3)))] H := hP
        have hD : va_D (va_A (ww_X2_depthOfy dC dI cI cJ cB ra ra1 ra2 ra3 s.heap.size ra_n v_ra0 p0 n9 r1 v_ra1) s.heap.size) [(ra, .inr (2, [.ref ra1, .ref ra2, .ref ra3, .int (v_ra 0 0)])), (ra1, .inl (cI, ra_n * 20, .inl (v_ra 1))), (ra2, .inl (cI, ra_n, .inl (v_ra 2))), (ra3, .inl (cI, 21, .inl (v_ra 3)))] := hD
        clear hPc hDc hFc hP1 hK1 hD1 hk1 hz1 ht hvm g_4
        replace hf := xb1_to hf
        obtain ⟨o_7, g_8, hf⟩ := hf
        have hPc := hP.sub (ws' := []) [] rfl
        have hDc := hD.sub (ws' := []) [] (by decide) rfl
        have hFc := va_free (wc := []) hD hS hA [] rfl
        refine va_calli (va_runSN (host := "SumRewriter") (As := [.int r_5]) (rest := []) ⟨hx, hb, hml, hown, hts⟩ (c_X9_partsIny l dC dI cI cJ cB  H.size r_5 n9 o_7 g_8) ⟨va_cnB 1 hts go_wo_X2_depthOfy_2 rfl rfl rfl (hnw _ (by decide +kernel) : va_Nw (.methodLinkNest RX2 65 yX9_partsIn "SumRewriter") s) (hts (.initialized RX9) (by decide +kernel)) (by decide +kernel) ⟨Nat.le_of_ble_eq_true rfl, Nat.le_of_ble_eq_true rfl⟩, hts (.static yX9_partsIn) (by decide +kernel), trivial⟩ ⟨fun a U g mk q => by obtain ⟨q0, q1, qN, qP, qK, qD⟩ := q; exact ⟨q0, q1, NW.calling qN, qP, va_K.moved (u := U) (U := U.calling g mk a) (Vm.Alike.refl U.vm) qK, qD⟩, fun U hU hW => ⟨rfl, by rw [hU], NW.warm hW hnw, by rw [hU]; exact hPc, va_K.moved hW.alike hK, hDc.weaken (fun _ _ _ _ => trivial)⟩⟩ rfl rfl hl.1 rfl (lv_room (Nat.le_of_ble_eq_true rfl)) dX2_depthOf_34 ⟨Nat.zero_le _, Nat.zero_le _⟩) hS (fun q _ h => hFc q h) hFc (fun r_9 u t H1 locs ht hvm hw hB hz1 hk1 hS => ?_)
        cases u
        obtain ⟨hP1, hK1, hD1⟩ := hB
        rw [ht] at hP1
        have hw : (r_9 = o_7) := hw
        subst hw
        obtain ⟨hP, hD⟩ := va_join (wr := [(ra, .inr (2, [.ref ra1, .ref ra2, .ref ra3, .int (v_ra 0 0)])), (ra1, .inl (cI, ra_n * 20, .inl (v_ra 1))), (ra2, .inl (cI, ra_n, .inl (v_ra 2))), (ra3, .inl (cI, 21, .inl (v_ra 3)))]) (w1 := []) hP hD [] [0, 1, 2, 3] rfl rfl (by decide) (by decide) hk1 hFc hP1 hD1
        generalize H1 = H at hP hS ⊢
        have hP : va_P (dC, dI) vwCl [(ra, .inr (2, [.ref ra1, .ref ra2, .ref ra3, .int (v_ra 0 0)])), (ra1, .inl (cI, ra_n * 20, .inl (v_ra 1))), (ra2, .inl (cI, ra_n, .inl (v_ra 2))), (ra3, .inl (cI, 21, .inl (v_ra 3)))] H := hP
        have hD : va_D (va_A (ww_X2_depthOfy dC dI cI cJ cB ra ra1 ra2 ra3 s.heap.size ra_n v_ra0 p0 n9 r1 v_ra1) s.heap.size) [(ra, .inr (2, [.ref ra1, .ref ra2, .ref ra3, .int (v_ra 0 0)])), (ra1, .inl (cI, ra_n * 20, .inl (v_ra 1))), (ra2, .inl (cI, ra_n, .inl (v_ra 2))), (ra3, .inl (cI, 21, .inl (v_ra 3)))] := hD
        clear hPc hDc hFc hP1 hK1 hD1 hk1 hz1 ht hvm g_8
        refine lv_istore (lv' := [(6, .int r_9), (2, .int y_2), (0, .ref ra), (1, .int p0), (3, .int x3), (4, .int x4), (5, .int x5)]) hx hb dX2_depthOf_37 hl (by decide) rfl (fun ls hl => ?_)
        refine lv_iload hx hb dX2_depthOf_39 (lv_at hl 0 rfl) ?_
        refine lv_if_le (tgt := 64) hx hb dX2_depthOf_41 (by decide) (fun c_11 => ?_) (fun c_11 => ?_)
        · replace hf := xi_t c_11 hf
          refine lv_aload_n hx hb dX2_depthOf_64 rfl (lv_at hl 2 rfl) ?_
          refine lv_iload_n hx hb dX2_depthOf_65 rfl (lv_at hl 4 rfl) ?_
          replace hf := xb2_to hf
          obtain ⟨o_12, o_13, g_14, hf⟩ := hf
          have hPc := hP.sub (ws' := [(ra, .inr (2, [.ref ra1, .ref ra2, .ref ra3, .int (v_ra 0 0)])), (ra1, .inl (cI, ra_n * 20, .inl (v_ra 1))), (ra2, .inl (cI, ra_n, .inl (v_ra 2))), (ra3, .inl (cI, 21, .inl (v_ra 3)))]) [0, 1, 2, 3] rfl
          have hDc := hD.sub (ws' := [(ra, .inr (2, [.ref ra1, .ref ra2, .ref ra3, .int (v_ra 0 0)])), (ra1, .inl (cI, ra_n * 20, .inl (v_ra 1))), (ra2, .inl (cI, ra_n, .inl (v_ra 2))), (ra3, .inl (cI, 21, .inl (v_ra 3)))]) [0, 1, 2, 3] (by decide) rfl
          have hFc := va_free (wc := [(ra, .inr (2, [.ref ra1, .ref ra2, .ref ra3, .int (v_ra 0 0)])), (ra1, .inl (cI, ra_n * 20, .inl (v_ra 1))), (ra2, .inl (cI, ra_n, .inl (v_ra 2))), (ra3, .inl (cI, 21, .inl (v_ra 3)))]) hD hS hA [0, 1, 2, 3] rfl
          refine va_calli (va_runV (As := [.int x3]) (rest := []) ⟨hx, hb, hml, hown, hts⟩ (c_X2_leavey l dC dI cI cJ cB ra ra1 ra2 ra3 H.size ra_n v_ra x3 n9 o_12 o_13 g_14) (cwV 1 hts go_wo_X2_depthOfy_3 rfl rfl rfl (by decide +kernel) ⟨Nat.le_of_ble_eq_true rfl, Nat.le_of_ble_eq_true rfl⟩) ⟨fun a U g mk q => by obtain ⟨q0, q1, qN, qP, qK, qD⟩ := q; exact ⟨q0, q1, NW.calling qN, qP, va_K.moved (u := U) (U := U.calling g mk a) (Vm.Alike.refl U.vm) qK, qD⟩, va_recv hK hPc (ci := 2) (q0 := 0) rfl rfl, fun U hU hW => ⟨rfl, by rw [hU], NW.warm hW hnw, by rw [hU]; exact hPc, va_K.moved hW.alike hK, hDc.weaken (fun _ _ _ _ => trivial)⟩⟩ rfl rfl hl.1 rfl (lv_room (Nat.le_of_ble_eq_true rfl)) dX2_depthOf_66 ⟨Nat.zero_le _, Nat.zero_le _⟩) hS (fun q _ h => hFc q h) hFc (fun r_15 u t H1 locs ht hvm hw hB hz1 hk1 hS => ?_)
          obtain ⟨v_ra_16, rfl⟩ : ∃ z, z = u := ⟨_, rfl⟩
          obtain ⟨hP1, hK1, hD1⟩ := hB
          rw [ht] at hP1
          have hw : (r_15 = o_12) ∧ (v_ra_16 = o_13) := hw
          obtain ⟨rfl, rfl⟩ := hw
          obtain ⟨hP, hD⟩ := va_join (wr := []) (w1 := [(ra, .inr (2, [.ref ra1, .ref ra2, .ref ra3, .int (v_ra_16 0 0)])), (ra1, .inl (cI, ra_n * 20, .inl (v_ra_16 1))), (ra2, .inl (cI, ra_n, .inl (v_ra_16 2))), (ra3, .inl (cI, 21, .inl (v_ra_16 3)))]) hP hD [0, 1, 2, 3] [] rfl rfl (by decide) (by decide) hk1 hFc hP1 hD1
          generalize H1 = H at hP hS ⊢
          have hP : va_P (dC, dI) vwCl [(ra, .inr (2, [.ref ra1, .ref ra2, .ref ra3, .int (v_ra_16 0 0)])), (ra1, .inl (cI, ra_n * 20, .inl (v_ra_16 1))), (ra2, .inl (cI, ra_n, .inl (v_ra_16 2))), (ra3, .inl (cI, 21, .inl (v_ra_16 3)))] H := hP
          have hD : va_D (va_A (ww_X2_depthOfy dC dI cI cJ cB ra ra1 ra2 ra3 s.heap.size ra_n v_ra0 p0 n9 r1 v_ra1) s.heap.size) [(ra, .inr (2, [.ref ra1, .ref ra2, .ref ra3, .int (v_ra_16 0 0)])), (ra1, .inl (cI, ra_n * 20, .inl (v_ra_16 1))), (ra2, .inl (cI, ra_n, .inl (v_ra_16 2))), (ra3, .inl (cI, 21, .inl (v_ra_16 3)))] := hD
          clear hPc hDc hFc hP1 hK1 hD1 hk1 hz1 ht hvm g_14
          refine lv_istore_n (lv' := [(3, .int r_15), (6, .int r_9), (2, .int y_2), (0, .ref ra), (1, .int p0), (4, .int x4), (5, .int x5)]) hx hb dX2_depthOf_69 rfl hl (by decide) rfl (fun ls hl => ?_)
          obtain ⟨x5_18, ex5_18⟩ : ∃ y : Int32, y = x5 + (1) := ⟨_, rfl⟩
          refine lv_iinc (v := x5_18) (lv' := [(5, .int x5_18), (3, .int r_15), (6, .int r_9), (2, .int y_2), (0, .ref ra), (1, .int p0), (4, .int x4)]) hx hb dX2_depthOf_70 hl (k := 6) rfl (by rw [ex5_18]; rfl) (by decide) rfl (fun ls hl => ?_)
          replace hf := xl_to ex5_18 hf
          refine lv_goto (tgt := 14) hx hb dX2_depthOf_73 (by decide) ?_
          exact ih_14 y_2 r_15 x4 x5_18 v_ra_16 hf _ _ (hP.sub [0, 1, 2, 3] rfl) (hD.sub [0, 1, 2, 3] (by decide) rfl) hS ls (lv_sub hl [4, 5, 3, 1, 6, 0] rfl)
        · replace hf := xi_f c_11 hf
          refine lv_iload_n hx hb dX2_depthOf_44 rfl (lv_at hl 4 rfl) ?_
          refine lv_bipush (v := 20) hx hb dX2_depthOf_45 (by decide) ?_
          refine lv_icmp_ge (tgt := 64) hx hb dX2_depthOf_47 (by decide) (fun c_19 => ?_) (fun c_19 => ?_)
          · replace hf := xi_t c_19 hf
            refine lv_aload_n hx hb dX2_depthOf_64 rfl (lv_at hl 2 rfl) ?_
            refine lv_iload_n hx hb dX2_depthOf_65 rfl (lv_at hl 4 rfl) ?_
            replace hf := xb2_to hf
            obtain ⟨o_20, o_21, g_22, hf⟩ := hf
            have hPc := hP.sub (ws' := [(ra, .inr (2, [.ref ra1, .ref ra2, .ref ra3, .int (v_ra 0 0)])), (ra1, .inl (cI, ra_n * 20, .inl (v_ra 1))), (ra2, .inl (cI, ra_n, .inl (v_ra 2))), (ra3, .inl (cI, 21, .inl (v_ra 3)))]) [0, 1, 2, 3] rfl
            have hDc := hD.sub (ws' := [(ra, .inr (2, [.ref ra1, .ref ra2, .ref ra3, .int (v_ra 0 0)])), (ra1, .inl (cI, ra_n * 20, .inl (v_ra 1))), (ra2, .inl (cI, ra_n, .inl (v_ra 2))), (ra3, .inl (cI, 21, .inl (v_ra 3)))]) [0, 1, 2, 3] (by decide) rfl
            have hFc := va_free (wc := [(ra, .inr (2, [.ref ra1, .ref ra2, .ref ra3, .int (v_ra 0 0)])), (ra1, .inl (cI, ra_n * 20, .inl (v_ra 1))), (ra2, .inl (cI, ra_n, .inl (v_ra 2))), (ra3, .inl (cI, 21, .inl (v_ra 3)))]) hD hS hA [0, 1, 2, 3] rfl
            refine va_calli (va_runV (As := [.int x3]) (rest := []) ⟨hx, hb, hml, hown, hts⟩ (c_X2_leavey l dC dI cI cJ cB ra ra1 ra2 ra3 H.size ra_n v_ra x3 n9 o_20 o_21 g_22) (cwV 1 hts go_wo_X2_depthOfy_3 rfl rfl rfl (by decide +kernel) ⟨Nat.le_of_ble_eq_true rfl, Nat.le_of_ble_eq_true rfl⟩) ⟨fun a U g mk q => by obtain ⟨q0, q1, qN, qP, qK, qD⟩ := q; exact ⟨q0, q1, NW.calling qN, qP, va_K.moved (u := U) (U := U.calling g mk a) (Vm.Alike.refl U.vm) qK, qD⟩, va_recv hK hPc (ci := 2) (q0 := 0) rfl rfl, fun U hU hW => ⟨rfl, by rw [hU], NW.warm hW hnw, by rw [hU]; exact hPc, va_K.moved hW.alike hK, hDc.weaken (fun _ _ _ _ => trivial)⟩⟩ rfl rfl hl.1 rfl (lv_room (Nat.le_of_ble_eq_true rfl)) dX2_depthOf_66 ⟨Nat.zero_le _, Nat.zero_le _⟩) hS (fun q _ h => hFc q h) hFc (fun r_23 u t H1 locs ht hvm hw hB hz1 hk1 hS => ?_)
            obtain ⟨v_ra_24, rfl⟩ : ∃ z, z = u := ⟨_, rfl⟩
            obtain ⟨hP1, hK1, hD1⟩ := hB
            rw [ht] at hP1
            have hw : (r_23 = o_20) ∧ (v_ra_24 = o_21) := hw
            obtain ⟨rfl, rfl⟩ := hw
            obtain ⟨hP, hD⟩ := va_join (wr := []) (w1 := [(ra, .inr (2, [.ref ra1, .ref ra2, .ref ra3, .int (v_ra_24 0 0)])), (ra1, .inl (cI, ra_n * 20, .inl (v_ra_24 1))), (ra2, .inl (cI, ra_n, .inl (v_ra_24 2))), (ra3, .inl (cI, 21, .inl (v_ra_24 3)))]) hP hD [0, 1, 2, 3] [] rfl rfl (by decide) (by decide) hk1 hFc hP1 hD1
            generalize H1 = H at hP hS ⊢
            have hP : va_P (dC, dI) vwCl [(ra, .inr (2, [.ref ra1, .ref ra2, .ref ra3, .int (v_ra_24 0 0)])), (ra1, .inl (cI, ra_n * 20, .inl (v_ra_24 1))), (ra2, .inl (cI, ra_n, .inl (v_ra_24 2))), (ra3, .inl (cI, 21, .inl (v_ra_24 3)))] H := hP
            have hD : va_D (va_A (ww_X2_depthOfy dC dI cI cJ cB ra ra1 ra2 ra3 s.heap.size ra_n v_ra0 p0 n9 r1 v_ra1) s.heap.size) [(ra, .inr (2, [.ref ra1, .ref ra2, .ref ra3, .int (v_ra_24 0 0)])), (ra1, .inl (cI, ra_n * 20, .inl (v_ra_24 1))), (ra2, .inl (cI, ra_n, .inl (v_ra_24 2))), (ra3, .inl (cI, 21, .inl (v_ra_24 3)))] := hD
            clear hPc hDc hFc hP1 hK1 hD1 hk1 hz1 ht hvm g_22
            refine lv_istore_n (lv' := [(3, .int r_23), (6, .int r_9), (2, .int y_2), (0, .ref ra), (1, .int p0), (4, .int x4), (5, .int x5)]) hx hb dX2_depthOf_69 rfl hl (by decide) rfl (fun ls hl => ?_)
            obtain ⟨x5_26, ex5_26⟩ : ∃ y : Int32, y = x5 + (1) := ⟨_, rfl⟩
            refine lv_iinc (v := x5_26) (lv' := [(5, .int x5_26), (3, .int r_23), (6, .int r_9), (2, .int y_2), (0, .ref ra), (1, .int p0), (4, .int x4)]) hx hb dX2_depthOf_70 hl (k := 6) rfl (by rw [ex5_26]; rfl) (by decide) rfl (fun ls hl => ?_)
            replace hf := xl_to ex5_26 hf
            refine lv_goto (tgt := 14) hx hb dX2_depthOf_73 (by decide) ?_
            exact ih_14 y_2 r_23 x4 x5_26 v_ra_24 hf _ _ (hP.sub [0, 1, 2, 3] rfl) (hD.sub [0, 1, 2, 3] (by decide) rfl) hS ls (lv_sub hl [4, 5, 3, 1, 6, 0] rfl)
          · replace hf := xi_f c_19 hf
            obtain ⟨x3_27, ex3_27⟩ : ∃ y : Int32, y = x3 + (1) := ⟨_, rfl⟩
            refine lv_iinc (v := x3_27) (lv' := [(3, .int x3_27), (6, .int r_9), (2, .int y_2), (0, .ref ra), (1, .int p0), (4, .int x4), (5, .int x5)]) hx hb dX2_depthOf_50 hl (k := 4) rfl (by rw [ex3_27]; rfl) (by decide) rfl (fun ls hl => ?_)
            replace hf := xl_to ex3_27 hf
            refine lv_aload_n hx hb dX2_depthOf_53 rfl (lv_at hl 3 rfl) ?_
            refine va_get (D := (dC, dI)) (ci := 2) (v := .ref ra3) (C := RX2) (T := TX2) (N := 4) hx hb hts kk5_ hown hK hP 0 rfl rfl 2 (by decide) kk4_ (fun _ h9 => h9) rfl dX2_depthOf_54 ?_
            refine lv_iload_n hx hb dX2_depthOf_57 rfl (lv_at hl 0 rfl) ?_
            refine lv_iload hx hb dX2_depthOf_58 (lv_at hl 1 rfl) ?_
            refine va_iast hx hb hK hP hD hS 3 0 rfl rfl (vp_in_iff.mpr (xwp_in hf)) dX2_depthOf_60 (fun H locs hP hD hS => ?_)
            obtain ⟨v_ra_28, ev_ra_28⟩ : ∃ z, z = mu v_ra 3 (x3_27).toNatClampNeg r_9 := ⟨_, rfl⟩
            have hP : va_P (dC, dI) vwCl [(ra, .inr (2, [.ref ra1, .ref ra2, .ref ra3, .int (v_ra_28 0 0)])), (ra1, .inl (cI, ra_n * 20, .inl (v_ra_28 1))), (ra2, .inl (cI, ra_n, .inl (v_ra_28 2))), (ra3, .inl (cI, 21, .inl (v_ra_28 3)))] H := by rw [ev_ra_28]; exact hP
            have hD : va_D (va_A (ww_X2_depthOfy dC dI cI cJ cB ra ra1 ra2 ra3 s.heap.size ra_n v_ra0 p0 n9 r1 v_ra1) s.heap.size) [(ra, .inr (2, [.ref ra1, .ref ra2, .ref ra3, .int (v_ra_28 0 0)])), (ra1, .inl (cI, ra_n * 20, .inl (v_ra_28 1))), (ra2, .inl (cI, ra_n, .inl (v_ra_28 2))), (ra3, .inl (cI, 21, .inl (v_ra_28 3)))] := by rw [ev_ra_28]; exact hD
            replace hf := xwp_to ev_ra_28 hf
            refine lv_goto (tgt := 70) hx hb dX2_depthOf_61 (by decide) ?_
            obtain ⟨x5_29, ex5_29⟩ : ∃ y : Int32, y = x5 + (1) := ⟨_, rfl⟩
            refine lv_iinc (v := x5_29) (lv' := [(5, .int x5_29), (3, .int x3_27), (6, .int r_9), (2, .int y_2), (0, .ref ra), (1, .int p0), (4, .int x4)]) hx hb dX2_depthOf_70 hl (k := 6) rfl (by rw [ex5_29]; rfl) (by decide) rfl (fun ls hl => ?_)
            replace hf := xl_to ex5_29 hf
            refine lv_goto (tgt := 14) hx hb dX2_depthOf_73 (by decide) ?_
            exact ih_14 y_2 x3_27 x4 x5_29 v_ra_28 hf _ _ (hP.sub [0, 1, 2, 3] rfl) (hD.sub [0, 1, 2, 3] (by decide) rfl) hS ls (lv_sub hl [4, 5, 3, 1, 6, 0] rfl)
  refine lv_iconst (v := 0) hx hb dX2_depthOf_0 (by decide) ?_
  refine lv_istore_n (lv' := [(2, .int ((0 : Int32))), (0, .ref ra), (1, .int p0)]) hx hb dX2_depthOf_1 rfl hl (by decide) rfl (fun ls hl => ?_)
  refine lv_iconst (v := 0) hx hb dX2_depthOf_2 (by decide) ?_
  refine lv_istore_n (lv' := [(3, .int ((0 : Int32))), (2, .int ((0 : Int32))), (0, .ref ra), (1, .int p0)]) hx hb dX2_depthOf_3 rfl hl (by decide) rfl (fun ls hl => ?_)
  refine lv_aload_n hx hb dX2_depthOf_4 rfl (lv_at hl 2 rfl) ?_
  refine lv_iload_n hx hb dX2_depthOf_5 rfl (lv_at hl 3 rfl) ?_
  replace hf := xb1_to hf
  obtain ⟨o_30, g_31, hf⟩ := hf
  have hPc := hP.sub (ws' := [(ra, .inr (2, [.ref ra1, .ref ra2, .ref ra3, .int (v_ra0 0 0)])), (ra1, .inl (cI, ra_n * 20, .inl (v_ra0 1))), (ra2, .inl (cI, ra_n, .inl (v_ra0 2))), (ra3, .inl (cI, 21, .inl (v_ra0 3)))]) [0, 1, 2, 3] rfl
  have hDc := hD.sub (ws' := [(ra, .inr (2, [.ref ra1, .ref ra2, .ref ra3, .int (v_ra0 0 0)])), (ra1, .inl (cI, ra_n * 20, .inl (v_ra0 1))), (ra2, .inl (cI, ra_n, .inl (v_ra0 2))), (ra3, .inl (cI, 21, .inl (v_ra0 3)))]) [0, 1, 2, 3] (by decide) rfl
  have hFc := va_free (wc := [(ra, .inr (2, [.ref ra1, .ref ra2, .ref ra3, .int (v_ra0 0 0)])), (ra1, .inl (cI, ra_n * 20, .inl (v_ra0 1))), (ra2, .inl (cI, ra_n, .inl (v_ra0 2))), (ra3, .inl (cI, 21, .inl (v_ra0 3)))]) hD hS hA [0, 1, 2, 3] rfl
  refine va_calli (va_runV (As := [.int p0]) (rest := []) ⟨hx, hb, hml, hown, hts⟩ (c_X2_lengthOfy l dC dI cI cJ cB ra ra1 ra2 ra3 H.size ra_n v_ra0 p0 n9 o_30 g_31) (cwV 1 hts go_wo_X2_depthOfy_4 rfl rfl rfl (by decide +kernel) ⟨Nat.le_of_ble_eq_true rfl, Nat.le_of_ble_eq_true rfl⟩) ⟨fun a U g mk q => by obtain ⟨q0, q1, qN, qP, qK, qD⟩ := q; exact ⟨q0, q1, NW.calling qN, qP, va_K.moved (u := U) (U := U.calling g mk a) (Vm.Alike.refl U.vm) qK, qD⟩, va_recv hK hPc (ci := 2) (q0 := 0) rfl rfl, fun U hU hW => ⟨rfl, by rw [hU], NW.warm hW hnw, by rw [hU]; exact hPc, va_K.moved hW.alike hK, hDc.weaken (fun _ _ _ _ => trivial)⟩⟩ rfl rfl hl.1 rfl (lv_room (Nat.le_of_ble_eq_true rfl)) dX2_depthOf_6 ⟨Nat.zero_le _, Nat.zero_le _⟩) hS (fun q _ h => hFc q h) hFc (fun r_32 u t H1 locs ht hvm hw hB hz1 hk1 hS => ?_)
  cases u
  obtain ⟨hP1, hK1, hD1⟩ := hB
  rw [ht] at hP1
  have hw : (r_32 = o_30) := hw
  subst hw
  obtain ⟨hP, hD⟩ := va_join (wr := []) (w1 := [(ra, .inr (2, [.ref ra1, .ref ra2, .ref ra3, .int (v_ra0 0 0)])), (ra1, .inl (cI, ra_n * 20, .inl (v_ra0 1))), (ra2, .inl (cI, ra_n, .inl (v_ra0 2))), (ra3, .inl (cI, 21, .inl (v_ra0 3)))]) hP hD [0, 1, 2, 3] [] rfl rfl (by decide) (by decide) hk1 hFc hP1 hD1
  generalize H1 = H at hP hS ⊢
  have hP : va_P (dC, dI) vwCl [(ra, .inr (2, [.ref ra1, .ref ra2, .ref ra3, .int (v_ra0 0 0)])), (ra1, .inl (cI, ra_n * 20, .inl (v_ra0 1))), (ra2, .inl (cI, ra_n, .inl (v_ra0 2))), (ra3, .inl (cI, 21, .inl (v_ra0 3)))] H := hP
  have hD : va_D (va_A (ww_X2_depthOfy dC dI cI cJ cB ra ra1 ra2 ra3 s.heap.size ra_n v_ra0 p0 n9 r1 v_ra1) s.heap.size) [(ra, .inr (2, [.ref ra1, .ref ra2, .ref ra3, .int (v_ra0 0 0)])), (ra1, .inl (cI, ra_n * 20, .inl (v_ra0 1))), (ra2, .inl (cI, ra_n, .inl (v_ra0 2))), (ra3, .inl (cI, 21, .inl (v_ra0 3)))] := hD
  clear hPc hDc hFc hP1 hK1 hD1 hk1 hz1 ht hvm g_31
  refine lv_istore (lv' := [(4, .int r_32), (3, .int ((0 : Int32))), (2, .int ((0 : Int32))), (0, .ref ra), (1, .int p0)]) hx hb dX2_depthOf_9 hl (by decide) rfl (fun ls hl => ?_)
  refine lv_iconst (v := 0) hx hb dX2_depthOf_11 (by decide) ?_
  refine lv_istore (lv' := [(5, .int ((0 : Int32))), (4, .int r_32), (3, .int ((0 : Int32))), (2, .int ((0 : Int32))), (0, .ref ra), (1, .int p0)]) hx hb dX2_depthOf_12 hl (by decide) rfl (fun ls hl => ?_)
  exact L_14 n9 ((0 : Int32)) ((0 : Int32)) r_32 ((0 : Int32)) v_ra0 hf _ _ (hP.sub [0, 1, 2, 3] rfl) (hD.sub [0, 1, 2, 3] (by decide) rfl) hS ls (lv_sub hl [4, 5, 3, 2, 1, 0] rfl)
def wo_X2_variablesIny : List Cond := .code yX2_variablesIn cX2_variablesIn 5 (some .int) :: (([] : List Cond) ++ ((wsV RX2 34 RX2 yX2_lengthOf wo_X2_lengthOfy) ++ ((wsV RX2 46 RX2 yX2_cellAt wo_X2_cellAty))))
set_option maxRecDepth 20000 in
theorem go_wo_X2_variablesIny_0 : GoodIn wo_X2_variablesIny (wsV RX2 34 RX2 yX2_lengthOf wo_X2_lengthOfy) := goodIn_sub (fun _ h => (List.mem_cons_of_mem _ (List.mem_append_right _ (List.mem_append_left _ h)))) (by decide +kernel)
set_option maxRecDepth 20000 in
theorem go_wo_X2_variablesIny_1 : GoodIn wo_X2_variablesIny (wsV RX2 46 RX2 yX2_cellAt wo_X2_cellAty) := goodIn_sub (fun _ h => (List.mem_cons_of_mem _ (List.mem_append_right _ (List.mem_append_right _ h)))) (by decide +kernel)
abbrev ww_X2_variablesIny (dC : Nat → ClassId) (dI : Nat → Nat → Nat) (cI cJ cB : ClassId) (ra ra1 ra2 ra3 : Nat) (sz : Nat) (ra_n : Nat) (v_ra : Nat → Nat → Int32) (p0 : Int32) (n9 : Nat) (r1 : Int32) : va_W := [(ra, .inr (2, [.ref ra1, .ref ra2, .ref ra3, .int (v_ra 0 0)])), (ra1, .inl (cI, ra_n * 20, .inl (v_ra 1))), (ra2, .inl (cI, ra_n, .inl (v_ra 2))), (ra3, .inl (cI, 21, .inl (v_ra 3)))]
abbrev at_X2_variablesIny (dC : Nat → ClassId) (dI : Nat → Nat → Nat) (cI cJ cB : ClassId) (ra ra1 ra2 ra3 : Nat) (sz : Nat) (ra_n : Nat) (v_ra : Nat → Nat → Int32) (p0 : Int32) (n9 : Nat) (r1 : Int32) (u : Unit) (t : State) : Prop := match u with
  | () => va_P (dC, dI) vwCl [(ra, .inr (2, [.ref ra1, .ref ra2, .ref ra3, .int (v_ra 0 0)])), (ra1, .inl (cI, ra_n * 20, .inl (v_ra 1))), (ra2, .inl (cI, ra_n, .inl (v_ra 2))), (ra3, .inl (cI, 21, .inl (v_ra 3)))] t.heap ∧ va_K (dC, dI) vwCl (tyL cI cJ cB) t ∧ va_D (va_A (ww_X2_variablesIny dC dI cI cJ cB ra ra1 ra2 ra3 sz ra_n v_ra p0 n9 r1) sz) [(ra, .inr (2, [.ref ra1, .ref ra2, .ref ra3, .int (v_ra 0 0)])), (ra1, .inl (cI, ra_n * 20, .inl (v_ra 1))), (ra2, .inl (cI, ra_n, .inl (v_ra 2))), (ra3, .inl (cI, 21, .inl (v_ra 3)))]
abbrev qc_X2_variablesIny (dC : Nat → ClassId) (dI : Nat → Nat → Nat) (cI cJ cB : ClassId) (ra ra1 ra2 ra3 : Nat) (sz : Nat) (ra_n : Nat) (v_ra : Nat → Nat → Int32) (p0 : Int32) (n9 : Nat) (r1 : Int32) : Array Value → State → Outcome → State → Prop := va_Qi (fun (r : Int32) (u : Unit) => match u with | () => (r = r1)) (at_X2_variablesIny dC dI cI cJ cB ra ra1 ra2 ra3 sz ra_n v_ra p0 n9 r1) (va_A (ww_X2_variablesIny dC dI cI cJ cB ra ra1 ra2 ra3 sz ra_n v_ra p0 n9 r1) sz)
abbrev pc_X2_variablesIny (dC : Nat → ClassId) (dI : Nat → Nat → Nat) (cI cJ cB : ClassId) (ra ra1 ra2 ra3 : Nat) (sz : Nat) (ra_n : Nat) (v_ra : Nat → Nat → Int32) (p0 : Int32) (n9 : Nat) (r1 : Int32) : Array Value → State → Prop := va_Pc [.ref ra, .int p0] (fun U => U.heap.size = sz ∧ NW U ∧ va_P (dC, dI) vwCl (ww_X2_variablesIny dC dI cI cJ cB ra ra1 ra2 ra3 sz ra_n v_ra p0 n9 r1) U.heap ∧ va_K (dC, dI) vwCl (tyL cI cJ cB) U ∧ va_D (fun _ => True) (ww_X2_variablesIny dC dI cI cJ cB ra ra1 ra2 ra3 sz ra_n v_ra p0 n9 r1))
abbrev rm_X2_variablesIny : Room := { frames := 1, cells := 0, slots := 0, locals := 23 }
abbrev WW_X2_variablesIny (p : Program) (l : Launch) (e : Env) (s : State) (m : MethodId) (below : List Frame) (meth : Method) (c : Code) (dC : Nat → ClassId) (dI : Nat → Nat → Nat) (cI cJ cB : ClassId) (ra ra1 ra2 ra3 : Nat) (sz : Nat) (ra_n : Nat) (v_ra : Nat → Nat → Int32) (p0 : Int32) (n9 : Nat) (r1 : Int32) (H : Heap) (locs : List Loc) (g : JFrame) : Prop := W p l e rm_X2_variablesIny s m ([.ref ra, .int p0] : List Value).toArray below meth c H locs 0 0 (MQ below (qc_X2_variablesIny dC dI cI cJ cB ra ra1 ra2 ra3 sz ra_n v_ra p0 n9 r1) ([.ref ra, .int p0] : List Value).toArray s 0 0 (va_A (ww_X2_variablesIny dC dI cI cJ cB ra ra1 ra2 ra3 sz ra_n v_ra p0 n9 r1) sz)) g
set_option maxHeartbeats 4000000 in
set_option maxRecDepth 100000 in
theorem c_X2_variablesIny (l : Launch) (dC : Nat → ClassId) (dI : Nat → Nat → Nat) (cI cJ cB : ClassId) (ra ra1 ra2 ra3 : Nat) (sz : Nat) (ra_n : Nat) (v_ra : Nat → Nat → Int32) (p0 : Int32) (n9 : Nat) (r1 : Int32) (hf : fx_X2_variablesIn n9 ra_n v_ra p0 = some (r1)) : Met l yX2_variablesIn wo_X2_variablesIny rm_X2_variablesIny (pc_X2_variablesIny dC dI cI cJ cB ra ra1 ra2 ra3 sz ra_n v_ra p0 n9 r1) (qc_X2_variablesIny dC dI cI cJ cB ra ra1 ra2 ra3 sz ra_n v_ra p0 n9 r1) 0 0 (va_A (ww_X2_variablesIny dC dI cI cJ cB ra ra1 ra2 ra3 sz ra_n v_ra p0 n9 r1) sz) := by
  unfold fx_X2_variablesIn at hf
  refine Met.ofW (cc := cX2_variablesIn) (maxL := 5) (ret := (some .int)) (by decide) rfl ?_
  intro p e s m args below meth c s₁ B hml hv
  obtain ⟨rfl, hsz, hnw, hP, hK, hD0⟩ := hv
  have hx := B.exec
  have hb := B.bytes
  have hr := B.returns
  have hts := atoms_spec (ws := wo_X2_variablesIny) B.pre
  have hown : s.vm.findClass RX2 = some m.cls := findClass_of_methodNamed B.named
  have hlocks := B.notSynchronized
  clear B
  subst hsz
  have hD := hD0.self (sz := s.heap.size)
  clear hD0
  have hA : ∀ q : Nat, s.heap.size ≤ q → (va_A (ww_X2_variablesIny dC dI cI cJ cB ra ra1 ra2 ra3 s.heap.size ra_n v_ra p0 n9 r1) s.heap.size) q := fun q h => Or.inr h
  have hS : va_S (va_A (ww_X2_variablesIny dC dI cI cJ cB ra ra1 ra2 ra3 s.heap.size ra_n v_ra p0 n9 r1) s.heap.size) s.heap s.heap [] := va_S.rf
  have hl := lv_entry ([.ref ra, .int p0]) (n := 5) (Nat.le_of_ble_eq_true rfl)
  rw [lg_entry_eq]
  generalize (lg_sl ([.ref ra, .int p0]) ++ List.replicate (5 - (lg_sl ([.ref ra, .int p0])).length) Slot.unset).toArray = ls at hl ⊢
  have hl : lv_has ls 5 [(0, .ref ra), (1, .int p0)] := hl
  have hP : va_P (dC, dI) vwCl [(ra, .inr (2, [.ref ra1, .ref ra2, .ref ra3, .int (v_ra 0 0)])), (ra1, .inl (cI, ra_n * 20, .inl (v_ra 1))), (ra2, .inl (cI, ra_n, .inl (v_ra 2))), (ra3, .inl (cI, 21, .inl (v_ra 3)))] s.heap := hP
  have hD : va_D (va_A (ww_X2_variablesIny dC dI cI cJ cB ra ra1 ra2 ra3 s.heap.size ra_n v_ra p0 n9 r1) s.heap.size) [(ra, .inr (2, [.ref ra1, .ref ra2, .ref ra3, .int (v_ra 0 0)])), (ra1, .inl (cI, ra_n * 20, .inl (v_ra 1))), (ra2, .inl (cI, ra_n, .inl (v_ra 2))), (ra3, .inl (cI, 21, .inl (v_ra 3)))] := hD
  obtain ⟨H, hH⟩ : ∃ H, H = s.heap := ⟨_, rfl⟩
  obtain ⟨locs, hlc⟩ : ∃ L : List Loc, L = [] := ⟨_, rfl⟩
  have hS : va_S (va_A (ww_X2_variablesIny dC dI cI cJ cB ra ra1 ra2 ra3 s.heap.size ra_n v_ra p0 n9 r1) s.heap.size) s.heap H locs := by rw [hH, hlc]; exact hS
  have hP : va_P (dC, dI) vwCl [(ra, .inr (2, [.ref ra1, .ref ra2, .ref ra3, .int (v_ra 0 0)])), (ra1, .inl (cI, ra_n * 20, .inl (v_ra 1))), (ra2, .inl (cI, ra_n, .inl (v_ra 2))), (ra3, .inl (cI, 21, .inl (v_ra 3)))] H := by rw [hH]; exact hP
  suffices hgo : WW_X2_variablesIny p l e s m below meth c dC dI cI cJ cB ra ra1 ra2 ra3 s.heap.size ra_n v_ra p0 n9 r1 H locs (F0 m 0 ls []) by rw [hH, hlc] at hgo; exact hgo
  clear hH hlc
  have L_4 : ∀ (N_4 : Nat), ∀ (x2 : Int32) (x3 : Int32), lx_X2_variablesIn_4 n9 ra_n v_ra p0 N_4 x2 x3 = some (r1) → ∀ (H : Heap) (locs : List Loc), va_P (dC, dI) vwCl [(ra, .inr (2, [.ref ra1, .ref ra2, .ref ra3, .int (v_ra 0 0)])), (ra1, .inl (cI, ra_n * 20, .inl (v_ra 1))), (ra2, .inl (cI, ra_n, .inl (v_ra 2))), (ra3, .inl (cI, 21, .inl (v_ra 3)))] H → va_D (va_A (ww_X2_variablesIny dC dI cI cJ cB ra ra1 ra2 ra3 s.heap.size ra_n v_ra p0 n9 r1) s.heap.size) [(ra, .inr (2, [.ref ra1, .ref ra2, .ref ra3, .int (v_ra 0 0)])), (ra1, .inl (cI, ra_n * 20, .inl (v_ra 1))), (ra2, .inl (cI, ra_n, .inl (v_ra 2))), (ra3, .inl (cI, 21, .inl (v_ra 3)))] → va_S (va_A (ww_X2_variablesIny dC dI cI cJ cB ra ra1 ra2 ra3 s.heap.size ra_n v_ra p0 n9 r1) s.heap.size) s.heap H locs → ∀ ls : Array Slot, lv_has ls 5 [(0, .ref ra), (1, .int p0), (2, .int x2), (3, .int x3)] → WW_X2_variablesIny p l e s m below meth c dC dI cI cJ cB ra ra1 ra2 ra3 s.heap.size ra_n v_ra p0 n9 r1 H locs (F0 m 4 ls []) := by
    intro N_4
    induction N_4 with
    | zero => intro x2 x3 hf; exact xn_to hf
    | succ N_4 ih_4 =>
      intro x2 x3 hf H locs hP hD hS ls hl
      replace hf : bx_X2_variablesIn_4 n9 ra_n v_ra p0 (lx_X2_variablesIn_4 n9 ra_n v_ra p0 N_4) x2 x3 = some (r1) := hf
      generalize lx_X2_variablesIn_4 n9 ra_n v_ra p0 N_4 = k_4 at hf ih_4
      unfold bx_X2_variablesIn_4 at hf
      refine lv_iload_n hx hb dX2_variablesIn_4 rfl (lv_at hl 3 rfl) ?_
      refine lv_aload_n hx hb dX2_variablesIn_5 rfl (lv_at hl 0 rfl) ?_
      refine lv_iload_n hx hb dX2_variablesIn_6 rfl (lv_at hl 1 rfl) ?_
      replace hf := xb1_to hf
      obtain ⟨o_1, g_2, hf⟩ := hf
      have hPc := hP.sub (ws' := [(ra, .inr (2, [.ref ra1, .ref ra2, .ref ra3, .int (v_ra 0 0)])), (ra1, .inl (cI, ra_n * 20, .inl (v_ra 1))), (ra2, .inl (cI, ra_n, .inl (v_ra 2))), (ra3, .inl (cI, 21, .inl (v_ra 3)))]) [0, 1, 2, 3] rfl
      have hDc := hD.sub (ws' := [(ra, .inr (2, [.ref ra1, .ref ra2, .ref ra3, .int (v_ra 0 0)])), (ra1, .inl (cI, ra_n * 20, .inl (v_ra 1))), (ra2, .inl (cI, ra_n, .inl (v_ra 2))), (ra3, .inl (cI, 21, .inl (v_ra 3)))]) [0, 1, 2, 3] (by decide) rfl
      have hFc := va_free (wc := [(ra, .inr (2, [.ref ra1, .ref ra2, .ref ra3, .int (v_ra 0 0)])), (ra1, .inl (cI, ra_n * 20, .inl (v_ra 1))), (ra2, .inl (cI, ra_n, .inl (v_ra 2))), (ra3, .inl (cI, 21, .inl (v_ra 3)))]) hD hS hA [0, 1, 2, 3] rfl
      refine va_calli (va_runV (As := [.int p0]) (rest := [.int x3]) ⟨hx, hb, hml, hown, hts⟩ (c_X2_lengthOfy l dC dI cI cJ cB ra ra1 ra2 ra3 H.size ra_n v_ra p0 n9 o_1 g_2) (cwV 1 hts go_wo_X2_variablesIny_0 rfl rfl rfl (by decide +kernel) ⟨Nat.le_of_ble_eq_true rfl, Nat.le_of_ble_eq_true rfl⟩) ⟨fun a U g mk q => by obtain ⟨q0, q1, qN, qP, qK, qD⟩ := q; exact ⟨q0, q1, NW.calling qN, qP, va_K.moved (u := U) (U := U.calling g mk a) (Vm.Alike.refl U.vm) qK, qD⟩, va_recv hK hPc (ci := 2) (q0 := 0) rfl rfl, fun U hU hW => ⟨rfl, by rw [hU], NW.warm hW hnw, by rw [hU]; exact hPc, va_K.moved hW.alike hK, hDc.weaken (fun _ _ _ _ => trivial)⟩⟩ rfl rfl hl.1 rfl (lv_room (Nat.le_of_ble_eq_true rfl)) dX2_variablesIn_7 ⟨Nat.zero_le _, Nat.zero_le _⟩) hS (fun q _ h => hFc q h) hFc (fun r_3 u t H1 locs ht hvm hw hB hz1 hk1 hS => ?_)
      cases u
      obtain ⟨hP1, hK1, hD1⟩ := hB
      rw [ht] at hP1
      have hw : (r_3 = o_1) := hw
      subst hw
      obtain ⟨hP, hD⟩ := va_join (wr := []) (w1 := [(ra, .inr (2, [.ref ra1, .ref ra2, .ref ra3, .int (v_ra 0 0)])), (ra1, .inl (cI, ra_n * 20, .inl (v_ra 1))), (ra2, .inl (cI, ra_n, .inl (v_ra 2))), (ra3, .inl (cI, 21, .inl (v_ra 3)))]) hP hD [0, 1, 2, 3] [] rfl rfl (by decide) (by decide) hk1 hFc hP1 hD1
      generalize H1 = H at hP hS ⊢
      have hP : va_P (dC, dI) vwCl [(ra, .inr (2, [.ref ra1, .ref ra2, .ref ra3, .int (v_ra 0 0)])), (ra1, .inl (cI, ra_n * 20, .inl (v_ra 1))), (ra2, .inl (cI, ra_n, .inl (v_ra 2))), (ra3, .inl (cI, 21, .inl (v_ra 3)))] H := hP
      have hD : va_D (va_A (ww_X2_variablesIny dC dI cI cJ cB ra ra1 ra2 ra3 s.heap.size ra_n v_ra p0 n9 r1) s.heap.size) [(ra, .inr (2, [.ref ra1, .ref ra2, .ref ra3, .int (v_ra 0 0)])), (ra1, .inl (cI, ra_n * 20, .inl (v_ra 1))), (ra2, .inl (cI, ra_n, .inl (v_ra 2))), (ra3, .inl (cI, 21, .inl (v_ra 3)))] := hD
      clear hPc hDc hFc hP1 hK1 hD1 hk1 hz1 ht hvm g_2
      refine lv_icmp_ge (tgt := 45) hx hb dX2_variablesIn_10 (by decide) (fun c_5 => ?_) (fun c_5 => ?_)
      · replace hf := xi_t c_5 hf
        refine lv_iload_n hx hb dX2_variablesIn_45 rfl (lv_at hl 2 rfl) ?_
        have hP9 := hP.sub (ws' := [(ra, .inr (2, [.ref ra1, .ref ra2, .ref ra3, .int (v_ra 0 0)])), (ra1, .inl (cI, ra_n * 20, .inl (v_ra 1))), (ra2, .inl (cI, ra_n, .inl (v_ra 2))), (ra3, .inl (cI, 21, .inl (v_ra 3)))]) [0, 1, 2, 3] rfl
        have hD9 := hD.sub (ws' := [(ra, .inr (2, [.ref ra1, .ref ra2, .ref ra3, .int (v_ra 0 0)])), (ra1, .inl (cI, ra_n * 20, .inl (v_ra 1))), (ra2, .inl (cI, ra_n, .inl (v_ra 2))), (ra3, .inl (cI, 21, .inl (v_ra 3)))]) [0, 1, 2, 3] (by decide) rfl
        have r9_0 : x2 = r1 := (Option.some.inj hf)
        exact W.iret (v := x2) hx hb hr (fun t ht hW => ⟨⟨x2, (), rfl, r9_0, by rw [ht]; exact hP9, va_K.moved hW.alike hK, hD9⟩, hS.F ht⟩) hS.2.2 dX2_variablesIn_46
      · replace hf := xi_f c_5 hf
        refine lv_aload_n hx hb dX2_variablesIn_13 rfl (lv_at hl 0 rfl) ?_
        refine lv_iload_n hx hb dX2_variablesIn_14 rfl (lv_at hl 1 rfl) ?_
        refine lv_iload_n hx hb dX2_variablesIn_15 rfl (lv_at hl 3 rfl) ?_
        replace hf := xb1_to hf
        obtain ⟨o_6, g_7, hf⟩ := hf
        have hPc := hP.sub (ws' := [(ra, .inr (2, [.ref ra1, .ref ra2, .ref ra3, .int (v_ra 0 0)])), (ra1, .inl (cI, ra_n * 20, .inl (v_ra 1))), (ra2, .inl (cI, ra_n, .inl (v_ra 2))), (ra3, .inl (cI, 21, .inl (v_ra 3)))]) [0, 1, 2, 3] rfl
        have hDc := hD.sub (ws' := [(ra, .inr (2, [.ref ra1, .ref ra2, .ref ra3, .int (v_ra 0 0)])), (ra1, .inl (cI, ra_n * 20, .inl (v_ra 1))), (ra2, .inl (cI, ra_n, .inl (v_ra 2))), (ra3, .inl (cI, 21, .inl (v_ra 3)))]) [0, 1, 2, 3] (by decide) rfl
        have hFc := va_free (wc := [(ra, .inr (2, [.ref ra1, .ref ra2, .ref ra3, .int (v_ra 0 0)])), (ra1, .inl (cI, ra_n * 20, .inl (v_ra 1))), (ra2, .inl (cI, ra_n, .inl (v_ra 2))), (ra3, .inl (cI, 21, .inl (v_ra 3)))]) hD hS hA [0, 1, 2, 3] rfl
        refine va_calli (va_runV (As := [.int p0, .int x3]) (rest := []) ⟨hx, hb, hml, hown, hts⟩ (c_X2_cellAty l dC dI cI cJ cB ra ra1 ra2 ra3 H.size ra_n v_ra p0 x3 n9 o_6 g_7) (cwV 2 hts go_wo_X2_variablesIny_1 rfl rfl rfl (by decide +kernel) ⟨Nat.le_of_ble_eq_true rfl, Nat.le_of_ble_eq_true rfl⟩) ⟨fun a U g mk q => by obtain ⟨q0, q1, qN, qP, qK, qD⟩ := q; exact ⟨q0, q1, NW.calling qN, qP, va_K.moved (u := U) (U := U.calling g mk a) (Vm.Alike.refl U.vm) qK, qD⟩, va_recv hK hPc (ci := 2) (q0 := 0) rfl rfl, fun U hU hW => ⟨rfl, by rw [hU], NW.warm hW hnw, by rw [hU]; exact hPc, va_K.moved hW.alike hK, hDc.weaken (fun _ _ _ _ => trivial)⟩⟩ rfl rfl hl.1 rfl (lv_room (Nat.le_of_ble_eq_true rfl)) dX2_variablesIn_16 ⟨Nat.zero_le _, Nat.zero_le _⟩) hS (fun q _ h => hFc q h) hFc (fun r_8 u t H1 locs ht hvm hw hB hz1 hk1 hS => ?_)
        cases u
        obtain ⟨hP1, hK1, hD1⟩ := hB
        rw [ht] at hP1
        have hw : (r_8 = o_6) := hw
        subst hw
        obtain ⟨hP, hD⟩ := va_join (wr := []) (w1 := [(ra, .inr (2, [.ref ra1, .ref ra2, .ref ra3, .int (v_ra 0 0)])), (ra1, .inl (cI, ra_n * 20, .inl (v_ra 1))), (ra2, .inl (cI, ra_n, .inl (v_ra 2))), (ra3, .inl (cI, 21, .inl (v_ra 3)))]) hP hD [0, 1, 2, 3] [] rfl rfl (by decide) (by decide) hk1 hFc hP1 hD1
        generalize H1 = H at hP hS ⊢
        have hP : va_P (dC, dI) vwCl [(ra, .inr (2, [.ref ra1, .ref ra2, .ref ra3, .int (v_ra 0 0)])), (ra1, .inl (cI, ra_n * 20, .inl (v_ra 1))), (ra2, .inl (cI, ra_n, .inl (v_ra 2))), (ra3, .inl (cI, 21, .inl (v_ra 3)))] H := hP
        have hD : va_D (va_A (ww_X2_variablesIny dC dI cI cJ cB ra ra1 ra2 ra3 s.heap.size ra_n v_ra p0 n9 r1) s.heap.size) [(ra, .inr (2, [.ref ra1, .ref ra2, .ref ra3, .int (v_ra 0 0)])), (ra1, .inl (cI, ra_n * 20, .inl (v_ra 1))), (ra2, .inl (cI, ra_n, .inl (v_ra 2))), (ra3, .inl (cI, 21, .inl (v_ra 3)))] := hD
        clear hPc hDc hFc hP1 hK1 hD1 hk1 hz1 ht hvm g_7
        refine lv_istore (lv' := [(4, .int r_8), (0, .ref ra), (1, .int p0), (2, .int x2), (3, .int x3)]) hx hb dX2_variablesIn_19 hl (by decide) rfl (fun ls hl => ?_)
        refine lv_iload_n hx hb dX2_variablesIn_21 rfl (lv_at hl 3 rfl) ?_
        refine lv_iload hx hb dX2_variablesIn_22 (lv_at hl 0 rfl) ?_
        refine lv_bipush (v := 8) hx hb dX2_variablesIn_24 (by decide) ?_
        refine lv_icmp_ge (tgt := 36) hx hb dX2_variablesIn_26 (by decide) (fun c_10 => ?_) (fun c_10 => ?_)
        · replace hf := xi_t c_10 hf
          refine lv_iconst (v := 0) hx hb dX2_variablesIn_36 (by decide) ?_
          refine lv_ior hx hb dX2_variablesIn_37 ?_
          refine lv_topi (fun y_11 ey_11 => ?_)
          replace hf := xl_to (v := x2 ||| ((0 : Int32))) ey_11 hf
          refine lv_istore_n (lv' := [(2, .int y_11), (4, .int r_8), (0, .ref ra), (1, .int p0), (3, .int x3)]) hx hb dX2_variablesIn_38 rfl hl (by decide) rfl (fun ls hl => ?_)
          obtain ⟨x3_12, ex3_12⟩ : ∃ y : Int32, y = x3 + (1) := ⟨_, rfl⟩
          refine lv_iinc (v := x3_12) (lv' := [(3, .int x3_12), (2, .int y_11), (4, .int r_8), (0, .ref ra), (1, .int p0)]) hx hb dX2_variablesIn_39 hl (k := 4) rfl (by rw [ex3_12]; rfl) (by decide) rfl (fun ls hl => ?_)
          replace hf := xl_to ex3_12 hf
          refine lv_goto (tgt := 4) hx hb dX2_variablesIn_42 (by decide) ?_
          exact ih_4 y_11 x3_12 hf _ _ (hP.sub [0, 1, 2, 3] rfl) (hD.sub [0, 1, 2, 3] (by decide) rfl) hS ls (lv_sub hl [3, 4, 1, 0] rfl)
        · replace hf := xi_f c_10 hf
          refine lv_iconst (v := 1) hx hb dX2_variablesIn_29 (by decide) ?_
          refine lv_iload hx hb dX2_variablesIn_30 (lv_at hl 0 rfl) ?_
          refine lv_ishl hx hb dX2_variablesIn_32 ?_
          refine lv_topi (fun y_13 ey_13 => ?_)
          replace hf := xl_to (v := ((1 : Int32)) <<< (r_8 &&& 31)) ey_13 hf
          refine lv_goto (tgt := 37) hx hb dX2_variablesIn_33 (by decide) ?_
          refine lv_ior hx hb dX2_variablesIn_37 ?_
          refine lv_topi (fun y_14 ey_14 => ?_)
          replace hf := xl_to (v := x2 ||| y_13) ey_14 hf
          refine lv_istore_n (lv' := [(2, .int y_14), (4, .int r_8), (0, .ref ra), (1, .int p0), (3, .int x3)]) hx hb dX2_variablesIn_38 rfl hl (by decide) rfl (fun ls hl => ?_)
          obtain ⟨x3_15, ex3_15⟩ : ∃ y : Int32, y = x3 + (1) := ⟨_, rfl⟩
          refine lv_iinc (v := x3_15) (lv' := [(3, .int x3_15), (2, .int y_14), (4, .int r_8), (0, .ref ra), (1, .int p0)]) hx hb dX2_variablesIn_39 hl (k := 4) rfl (by rw [ex3_15]; rfl) (by decide) rfl (fun ls hl => ?_)
          replace hf := xl_to ex3_15 hf
          refine lv_goto (tgt := 4) hx hb dX2_variablesIn_42 (by decide) ?_
          exact ih_4 y_14 x3_15 hf _ _ (hP.sub [0, 1, 2, 3] rfl) (hD.sub [0, 1, 2, 3] (by decide) rfl) hS ls (lv_sub hl [3, 4, 1, 0] rfl)
  refine lv_iconst (v := 0) hx hb dX2_variablesIn_0 (by decide) ?_
  refine lv_istore_n (lv' := [(2, .int ((0 : Int32))), (0, .ref ra), (1, .int p0)]) hx hb dX2_variablesIn_1 rfl hl (by decide) rfl (fun ls hl => ?_)
  refine lv_iconst (v := 0) hx hb dX2_variablesIn_2 (by decide) ?_
  refine lv_istore_n (lv' := [(3, .int ((0 : Int32))), (2, .int ((0 : Int32))), (0, .ref ra), (1, .int p0)]) hx hb dX2_variablesIn_3 rfl hl (by decide) rfl (fun ls hl => ?_)
  exact L_4 n9 ((0 : Int32)) ((0 : Int32)) hf _ _ (hP.sub [0, 1, 2, 3] rfl) (hD.sub [0, 1, 2, 3] (by decide) rfl) hS ls (lv_sub hl [2, 3, 1, 0] rfl)
def wo_X2_timesOfVariablesy : List Cond := .code yX2_timesOfVariables cX2_timesOfVariables 4 (some .int) :: (([] : List Cond) ++ ((wsV RX2 34 RX2 yX2_lengthOf wo_X2_lengthOfy) ++ ((wsV RX2 46 RX2 yX2_cellAt wo_X2_cellAty))))
set_option maxRecDepth 20000 in
theorem go_wo_X2_timesOfVariablesy_0 : GoodIn wo_X2_timesOfVariablesy (wsV RX2 34 RX2 yX2_lengthOf wo_X2_lengthOfy) := goodIn_sub (fun _ h => (List.mem_cons_of_mem _ (List.mem_append_right _ (List.mem_append_left _ h)))) (by decide +kernel)
set_option maxRecDepth 20000 in
theorem go_wo_X2_timesOfVariablesy_1 : GoodIn wo_X2_timesOfVariablesy (wsV RX2 46 RX2 yX2_cellAt wo_X2_cellAty) := goodIn_sub (fun _ h => (List.mem_cons_of_mem _ (List.mem_append_right _ (List.mem_append_right _ h)))) (by decide +kernel)
abbrev ww_X2_timesOfVariablesy (dC : Nat → ClassId) (dI : Nat → Nat → Nat) (cI cJ cB : ClassId) (ra ra1 ra2 ra3 : Nat) (sz : Nat) (ra_n : Nat) (v_ra : Nat → Nat → Int32) (p0 : Int32) (n9 : Nat) (r1 : Int32) : va_W := [(ra, .inr (2, [.ref ra1, .ref ra2, .ref ra3, .int (v_ra 0 0)])), (ra1, .inl (cI, ra_n * 20, .inl (v_ra 1))), (ra2, .inl (cI, ra_n, .inl (v_ra 2))), (ra3, .inl (cI, 21, .inl (v_ra 3)))]
abbrev at_X2_timesOfVariablesy (dC : Nat → ClassId) (dI : Nat → Nat → Nat) (cI cJ cB : ClassId) (ra ra1 ra2 ra3 : Nat) (sz : Nat) (ra_n : Nat) (v_ra : Nat → Nat → Int32) (p0 : Int32) (n9 : Nat) (r1 : Int32) (u : Unit) (t : State) : Prop := match u with
  | () => va_P (dC, dI) vwCl [(ra, .inr (2, [.ref ra1, .ref ra2, .ref ra3, .int (v_ra 0 0)])), (ra1, .inl (cI, ra_n * 20, .inl (v_ra 1))), (ra2, .inl (cI, ra_n, .inl (v_ra 2))), (ra3, .inl (cI, 21, .inl (v_ra 3)))] t.heap ∧ va_K (dC, dI) vwCl (tyL cI cJ cB) t ∧ va_D (va_A (ww_X2_timesOfVariablesy dC dI cI cJ cB ra ra1 ra2 ra3 sz ra_n v_ra p0 n9 r1) sz) [(ra, .inr (2, [.ref ra1, .ref ra2, .ref ra3, .int (v_ra 0 0)])), (ra1, .inl (cI, ra_n * 20, .inl (v_ra 1))), (ra2, .inl (cI, ra_n, .inl (v_ra 2))), (ra3, .inl (cI, 21, .inl (v_ra 3)))]
abbrev qc_X2_timesOfVariablesy (dC : Nat → ClassId) (dI : Nat → Nat → Nat) (cI cJ cB : ClassId) (ra ra1 ra2 ra3 : Nat) (sz : Nat) (ra_n : Nat) (v_ra : Nat → Nat → Int32) (p0 : Int32) (n9 : Nat) (r1 : Int32) : Array Value → State → Outcome → State → Prop := va_Qi (fun (r : Int32) (u : Unit) => match u with | () => (r = r1)) (at_X2_timesOfVariablesy dC dI cI cJ cB ra ra1 ra2 ra3 sz ra_n v_ra p0 n9 r1) (va_A (ww_X2_timesOfVariablesy dC dI cI cJ cB ra ra1 ra2 ra3 sz ra_n v_ra p0 n9 r1) sz)
abbrev pc_X2_timesOfVariablesy (dC : Nat → ClassId) (dI : Nat → Nat → Nat) (cI cJ cB : ClassId) (ra ra1 ra2 ra3 : Nat) (sz : Nat) (ra_n : Nat) (v_ra : Nat → Nat → Int32) (p0 : Int32) (n9 : Nat) (r1 : Int32) : Array Value → State → Prop := va_Pc [.ref ra, .int p0] (fun U => U.heap.size = sz ∧ NW U ∧ va_P (dC, dI) vwCl (ww_X2_timesOfVariablesy dC dI cI cJ cB ra ra1 ra2 ra3 sz ra_n v_ra p0 n9 r1) U.heap ∧ va_K (dC, dI) vwCl (tyL cI cJ cB) U ∧ va_D (fun _ => True) (ww_X2_timesOfVariablesy dC dI cI cJ cB ra ra1 ra2 ra3 sz ra_n v_ra p0 n9 r1))
abbrev rm_X2_timesOfVariablesy : Room := { frames := 1, cells := 0, slots := 0, locals := 23 }
abbrev WW_X2_timesOfVariablesy (p : Program) (l : Launch) (e : Env) (s : State) (m : MethodId) (below : List Frame) (meth : Method) (c : Code) (dC : Nat → ClassId) (dI : Nat → Nat → Nat) (cI cJ cB : ClassId) (ra ra1 ra2 ra3 : Nat) (sz : Nat) (ra_n : Nat) (v_ra : Nat → Nat → Int32) (p0 : Int32) (n9 : Nat) (r1 : Int32) (H : Heap) (locs : List Loc) (g : JFrame) : Prop := W p l e rm_X2_timesOfVariablesy s m ([.ref ra, .int p0] : List Value).toArray below meth c H locs 0 0 (MQ below (qc_X2_timesOfVariablesy dC dI cI cJ cB ra ra1 ra2 ra3 sz ra_n v_ra p0 n9 r1) ([.ref ra, .int p0] : List Value).toArray s 0 0 (va_A (ww_X2_timesOfVariablesy dC dI cI cJ cB ra ra1 ra2 ra3 sz ra_n v_ra p0 n9 r1) sz)) g
set_option maxHeartbeats 4000000 in
set_option maxRecDepth 100000 in
theorem c_X2_timesOfVariablesy (l : Launch) (dC : Nat → ClassId) (dI : Nat → Nat → Nat) (cI cJ cB : ClassId) (ra ra1 ra2 ra3 : Nat) (sz : Nat) (ra_n : Nat) (v_ra : Nat → Nat → Int32) (p0 : Int32) (n9 : Nat) (r1 : Int32) (hf : fx_X2_timesOfVariables n9 ra_n v_ra p0 = some (r1)) : Met l yX2_timesOfVariables wo_X2_timesOfVariablesy rm_X2_timesOfVariablesy (pc_X2_timesOfVariablesy dC dI cI cJ cB ra ra1 ra2 ra3 sz ra_n v_ra p0 n9 r1) (qc_X2_timesOfVariablesy dC dI cI cJ cB ra ra1 ra2 ra3 sz ra_n v_ra p0 n9 r1) 0 0 (va_A (ww_X2_timesOfVariablesy dC dI cI cJ cB ra ra1 ra2 ra3 sz ra_n v_ra p0 n9 r1) sz) := by
  unfold fx_X2_timesOfVariables at hf
  refine Met.ofW (cc := cX2_timesOfVariables) (maxL := 4) (ret := (some .int)) (by decide) rfl ?_
  intro p e s m args below meth c s₁ B hml hv
  obtain ⟨rfl, hsz, hnw, hP, hK, hD0⟩ := hv
  have hx := B.exec
  have hb := B.bytes
  have hr := B.returns
  have hts := atoms_spec (ws := wo_X2_timesOfVariablesy) B.pre
  have hown : s.vm.findClass RX2 = some m.cls := findClass_of_methodNamed B.named
  have hlocks := B.notSynchronized
  clear B
  subst hsz
  have hD := hD0.self (sz := s.heap.size)
  clear hD0
  have hA : ∀ q : Nat, s.heap.size ≤ q → (va_A (ww_X2_timesOfVariablesy dC dI cI cJ cB ra ra1 ra2 ra3 s.heap.size ra_n v_ra p0 n9 r1) s.heap.size) q := fun q h => Or.inr h
  have hS : va_S (va_A (ww_X2_timesOfVariablesy dC dI cI cJ cB ra ra1 ra2 ra3 s.heap.size ra_n v_ra p0 n9 r1) s.heap.size) s.heap s.heap [] := va_S.rf
  have hl := lv_entry ([.ref ra, .int p0]) (n := 4) (Nat.le_of_ble_eq_true rfl)
  rw [lg_entry_eq]
  generalize (lg_sl ([.ref ra, .int p0]) ++ List.replicate (4 - (lg_sl ([.ref ra, .int p0])).length) Slot.unset).toArray = ls at hl ⊢
  have hl : lv_has ls 4 [(0, .ref ra), (1, .int p0)] := hl
  have hP : va_P (dC, dI) vwCl [(ra, .inr (2, [.ref ra1, .ref ra2, .ref ra3, .int (v_ra 0 0)])), (ra1, .inl (cI, ra_n * 20, .inl (v_ra 1))), (ra2, .inl (cI, ra_n, .inl (v_ra 2))), (ra3, .inl (cI, 21, .inl (v_ra 3)))] s.heap := hP
  have hD : va_D (va_A (ww_X2_timesOfVariablesy dC dI cI cJ cB ra ra1 ra2 ra3 s.heap.size ra_n v_ra p0 n9 r1) s.heap.size) [(ra, .inr (2, [.ref ra1, .ref ra2, .ref ra3, .int (v_ra 0 0)])), (ra1, .inl (cI, ra_n * 20, .inl (v_ra 1))), (ra2, .inl (cI, ra_n, .inl (v_ra 2))), (ra3, .inl (cI, 21, .inl (v_ra 3)))] := hD
  obtain ⟨H, hH⟩ : ∃ H, H = s.heap := ⟨_, rfl⟩
  obtain ⟨locs, hlc⟩ : ∃ L : List Loc, L = [] := ⟨_, rfl⟩
  have hS : va_S (va_A (ww_X2_timesOfVariablesy dC dI cI cJ cB ra ra1 ra2 ra3 s.heap.size ra_n v_ra p0 n9 r1) s.heap.size) s.heap H locs := by rw [hH, hlc]; exact hS
  have hP : va_P (dC, dI) vwCl [(ra, .inr (2, [.ref ra1, .ref ra2, .ref ra3, .int (v_ra 0 0)])), (ra1, .inl (cI, ra_n * 20, .inl (v_ra 1))), (ra2, .inl (cI, ra_n, .inl (v_ra 2))), (ra3, .inl (cI, 21, .inl (v_ra 3)))] H := by rw [hH]; exact hP
  suffices hgo : WW_X2_timesOfVariablesy p l e s m below meth c dC dI cI cJ cB ra ra1 ra2 ra3 s.heap.size ra_n v_ra p0 n9 r1 H locs (F0 m 0 ls []) by rw [hH, hlc] at hgo; exact hgo
  clear hH hlc
  have L_4 : ∀ (N_4 : Nat), ∀ (x2 : Int32) (x3 : Int32), lx_X2_timesOfVariables_4 n9 ra_n v_ra p0 N_4 x2 x3 = some (r1) → ∀ (H : Heap) (locs : List Loc), va_P (dC, dI) vwCl [(ra, .inr (2, [.ref ra1, .ref ra2, .ref ra3, .int (v_ra 0 0)])), (ra1, .inl (cI, ra_n * 20, .inl (v_ra 1))), (ra2, .inl (cI, ra_n, .inl (v_ra 2))), (ra3, .inl (cI, 21, .inl (v_ra 3)))] H → va_D (va_A (ww_X2_timesOfVariablesy dC dI cI cJ cB ra ra1 ra2 ra3 s.heap.size ra_n v_ra p0 n9 r1) s.heap.size) [(ra, .inr (2, [.ref ra1, .ref ra2, .ref ra3, .int (v_ra 0 0)])), (ra1, .inl (cI, ra_n * 20, .inl (v_ra 1))), (ra2, .inl (cI, ra_n, .inl (v_ra 2))), (ra3, .inl (cI, 21, .inl (v_ra 3)))] → va_S (va_A (ww_X2_timesOfVariablesy dC dI cI cJ cB ra ra1 ra2 ra3 s.heap.size ra_n v_ra p0 n9 r1) s.heap.size) s.heap H locs → ∀ ls : Array Slot, lv_has ls 4 [(0, .ref ra), (1, .int p0), (2, .int x2), (3, .int x3)] → WW_X2_timesOfVariablesy p l e s m below meth c dC dI cI cJ cB ra ra1 ra2 ra3 s.heap.size ra_n v_ra p0 n9 r1 H locs (F0 m 4 ls []) := by
    intro N_4
    induction N_4 with
    | zero => intro x2 x3 hf; exact xn_to hf
    | succ N_4 ih_4 =>
      intro x2 x3 hf H locs hP hD hS ls hl
      replace hf : bx_X2_timesOfVariables_4 n9 ra_n v_ra p0 (lx_X2_timesOfVariables_4 n9 ra_n v_ra p0 N_4) x2 x3 = some (r1) := hf
      generalize lx_X2_timesOfVariables_4 n9 ra_n v_ra p0 N_4 = k_4 at hf ih_4
      unfold bx_X2_timesOfVariables_4 at hf
      refine lv_iload_n hx hb dX2_timesOfVariables_4 rfl (lv_at hl 3 rfl) ?_
      refine lv_aload_n hx hb dX2_timesOfVariables_5 rfl (lv_at hl 0 rfl) ?_
      refine lv_iload_n hx hb dX2_timesOfVariables_6 rfl (lv_at hl 1 rfl) ?_
      replace hf := xb1_to hf
      obtain ⟨o_1, g_2, hf⟩ := hf
      have hPc := hP.sub (ws' := [(ra, .inr (2, [.ref ra1, .ref ra2, .ref ra3, .int (v_ra 0 0)])), (ra1, .inl (cI, ra_n * 20, .inl (v_ra 1))), (ra2, .inl (cI, ra_n, .inl (v_ra 2))), (ra3, .inl (cI, 21, .inl (v_ra 3)))]) [0, 1, 2, 3] rfl
      have hDc := hD.sub (ws' := [(ra, .inr (2, [.ref ra1, .ref ra2, .ref ra3, .int (v_ra 0 0)])), (ra1, .inl (cI, ra_n * 20, .inl (v_ra 1))), (ra2, .inl (cI, ra_n, .inl (v_ra 2))), (ra3, .inl (cI, 21, .inl (v_ra 3)))]) [0, 1, 2, 3] (by decide) rfl
      have hFc := va_free (wc := [(ra, .inr (2, [.ref ra1, .ref ra2, .ref ra3, .int (v_ra 0 0)])), (ra1, .inl (cI, ra_n * 20, .inl (v_ra 1))), (ra2, .inl (cI, ra_n, .inl (v_ra 2))), (ra3, .inl (cI, 21, .inl (v_ra 3)))]) hD hS hA [0, 1, 2, 3] rfl
      refine va_calli (va_runV (As := [.int p0]) (rest := [.int x3]) ⟨hx, hb, hml, hown, hts⟩ (c_X2_lengthOfy l dC dI cI cJ cB ra ra1 ra2 ra3 H.size ra_n v_ra p0 n9 o_1 g_2) (cwV 1 hts go_wo_X2_timesOfVariablesy_0 rfl rfl rfl (by decide +kernel) ⟨Nat.le_of_ble_eq_true rfl, Nat.le_of_ble_eq_true rfl⟩) ⟨fun a U g mk q => by obtain ⟨q0, q1, qN, qP, qK, qD⟩ := q; exact ⟨q0, q1, NW.calling qN, qP, va_K.moved (u := U) (U := U.calling g mk a) (Vm.Alike.refl U.vm) qK, qD⟩, va_recv hK hPc (ci := 2) (q0 := 0) rfl rfl, fun U hU hW => ⟨rfl, by rw [hU], NW.warm hW hnw, by rw [hU]; exact hPc, va_K.moved hW.alike hK, hDc.weaken (fun _ _ _ _ => trivial)⟩⟩ rfl rfl hl.1 rfl (lv_room (Nat.le_of_ble_eq_true rfl)) dX2_timesOfVariables_7 ⟨Nat.zero_le _, Nat.zero_le _⟩) hS (fun q _ h => hFc q h) hFc (fun r_3 u t H1 locs ht hvm hw hB hz1 hk1 hS => ?_)
      cases u
      obtain ⟨hP1, hK1, hD1⟩ := hB
      rw [ht] at hP1
      have hw : (r_3 = o_1) := hw
      subst hw
      obtain ⟨hP, hD⟩ := va_join (wr := []) (w1 := [(ra, .inr (2, [.ref ra1, .ref ra2, .ref ra3, .int (v_ra 0 0)])), (ra1, .inl (cI, ra_n * 20, .inl (v_ra 1))), (ra2, .inl (cI, ra_n, .inl (v_ra 2))), (ra3, .inl (cI, 21, .inl (v_ra 3)))]) hP hD [0, 1, 2, 3] [] rfl rfl (by decide) (by decide) hk1 hFc hP1 hD1
      generalize H1 = H at hP hS ⊢
      have hP : va_P (dC, dI) vwCl [(ra, .inr (2, [.ref ra1, .ref ra2, .ref ra3, .int (v_ra 0 0)])), (ra1, .inl (cI, ra_n * 20, .inl (v_ra 1))), (ra2, .inl (cI, ra_n, .inl (v_ra 2))), (ra3, .inl (cI, 21, .inl (v_ra 3)))] H := hP
      have hD : va_D (va_A (ww_X2_timesOfVariablesy dC dI cI cJ cB ra ra1 ra2 ra3 s.heap.size ra_n v_ra p0 n9 r1) s.heap.size) [(ra, .inr (2, [.ref ra1, .ref ra2, .ref ra3, .int (v_ra 0 0)])), (ra1, .inl (cI, ra_n * 20, .inl (v_ra 1))), (ra2, .inl (cI, ra_n, .inl (v_ra 2))), (ra3, .inl (cI, 21, .inl (v_ra 3)))] := hD
      clear hPc hDc hFc hP1 hK1 hD1 hk1 hz1 ht hvm g_2
      refine lv_icmp_ge (tgt := 38) hx hb dX2_timesOfVariables_10 (by decide) (fun c_5 => ?_) (fun c_5 => ?_)
      · replace hf := xi_t c_5 hf
        refine lv_iload_n hx hb dX2_timesOfVariables_38 rfl (lv_at hl 2 rfl) ?_
        have hP9 := hP.sub (ws' := [(ra, .inr (2, [.ref ra1, .ref ra2, .ref ra3, .int (v_ra 0 0)])), (ra1, .inl (cI, ra_n * 20, .inl (v_ra 1))), (ra2, .inl (cI, ra_n, .inl (v_ra 2))), (ra3, .inl (cI, 21, .inl (v_ra 3)))]) [0, 1, 2, 3] rfl
        have hD9 := hD.sub (ws' := [(ra, .inr (2, [.ref ra1, .ref ra2, .ref ra3, .int (v_ra 0 0)])), (ra1, .inl (cI, ra_n * 20, .inl (v_ra 1))), (ra2, .inl (cI, ra_n, .inl (v_ra 2))), (ra3, .inl (cI, 21, .inl (v_ra 3)))]) [0, 1, 2, 3] (by decide) rfl
        have r9_0 : x2 = r1 := (Option.some.inj hf)
        exact W.iret (v := x2) hx hb hr (fun t ht hW => ⟨⟨x2, (), rfl, r9_0, by rw [ht]; exact hP9, va_K.moved hW.alike hK, hD9⟩, hS.F ht⟩) hS.2.2 dX2_timesOfVariables_39
      · replace hf := xi_f c_5 hf
        refine lv_iload_n hx hb dX2_timesOfVariables_13 rfl (lv_at hl 2 rfl) ?_
        refine lv_aload_n hx hb dX2_timesOfVariables_14 rfl (lv_at hl 0 rfl) ?_
        refine lv_iload_n hx hb dX2_timesOfVariables_15 rfl (lv_at hl 1 rfl) ?_
        refine lv_iload_n hx hb dX2_timesOfVariables_16 rfl (lv_at hl 3 rfl) ?_
        replace hf := xb1_to hf
        obtain ⟨o_6, g_7, hf⟩ := hf
        have hPc := hP.sub (ws' := [(ra, .inr (2, [.ref ra1, .ref ra2, .ref ra3, .int (v_ra 0 0)])), (ra1, .inl (cI, ra_n * 20, .inl (v_ra 1))), (ra2, .inl (cI, ra_n, .inl (v_ra 2))), (ra3, .inl (cI, 21, .inl (v_ra 3)))]) [0, 1, 2, 3] rfl
        have hDc := hD.sub (ws' := [(ra, .inr (2, [.ref ra1, .ref ra2, .ref ra3, .int (v_ra 0 0)])), (ra1, .inl (cI, ra_n * 20, .inl (v_ra 1))), (ra2, .inl (cI, ra_n, .inl (v_ra 2))), (ra3, .inl (cI, 21, .inl (v_ra 3)))]) [0, 1, 2, 3] (by decide) rfl
        have hFc := va_free (wc := [(ra, .inr (2, [.ref ra1, .ref ra2, .ref ra3, .int (v_ra 0 0)])), (ra1, .inl (cI, ra_n * 20, .inl (v_ra 1))), (ra2, .inl (cI, ra_n, .inl (v_ra 2))), (ra3, .inl (cI, 21, .inl (v_ra 3)))]) hD hS hA [0, 1, 2, 3] rfl
        refine va_calli (va_runV (As := [.int p0, .int x3]) (rest := [.int x2]) ⟨hx, hb, hml, hown, hts⟩ (c_X2_cellAty l dC dI cI cJ cB ra ra1 ra2 ra3 H.size ra_n v_ra p0 x3 n9 o_6 g_7) (cwV 2 hts go_wo_X2_timesOfVariablesy_1 rfl rfl rfl (by decide +kernel) ⟨Nat.le_of_ble_eq_true rfl, Nat.le_of_ble_eq_true rfl⟩) ⟨fun a U g mk q => by obtain ⟨q0, q1, qN, qP, qK, qD⟩ := q; exact ⟨q0, q1, NW.calling qN, qP, va_K.moved (u := U) (U := U.calling g mk a) (Vm.Alike.refl U.vm) qK, qD⟩, va_recv hK hPc (ci := 2) (q0 := 0) rfl rfl, fun U hU hW => ⟨rfl, by rw [hU], NW.warm hW hnw, by rw [hU]; exact hPc, va_K.moved hW.alike hK, hDc.weaken (fun _ _ _ _ => trivial)⟩⟩ rfl rfl hl.1 rfl (lv_room (Nat.le_of_ble_eq_true rfl)) dX2_timesOfVariables_17 ⟨Nat.zero_le _, Nat.zero_le _⟩) hS (fun q _ h => hFc q h) hFc (fun r_8 u t H1 locs ht hvm hw hB hz1 hk1 hS => ?_)
        cases u
        obtain ⟨hP1, hK1, hD1⟩ := hB
        rw [ht] at hP1
        have hw : (r_8 = o_6) := hw
        subst hw
        obtain ⟨hP, hD⟩ := va_join (wr := []) (w1 := [(ra, .inr (2, [.ref ra1, .ref ra2, .ref ra3, .int (v_ra 0 0)])), (ra1, .inl (cI, ra_n * 20, .inl (v_ra 1))), (ra2, .inl (cI, ra_n, .inl (v_ra 2))), (ra3, .inl (cI, 21, .inl (v_ra 3)))]) hP hD [0, 1, 2, 3] [] rfl rfl (by decide) (by decide) hk1 hFc hP1 hD1
        generalize H1 = H at hP hS ⊢
        have hP : va_P (dC, dI) vwCl [(ra, .inr (2, [.ref ra1, .ref ra2, .ref ra3, .int (v_ra 0 0)])), (ra1, .inl (cI, ra_n * 20, .inl (v_ra 1))), (ra2, .inl (cI, ra_n, .inl (v_ra 2))), (ra3, .inl (cI, 21, .inl (v_ra 3)))] H := hP
        have hD : va_D (va_A (ww_X2_timesOfVariablesy dC dI cI cJ cB ra ra1 ra2 ra3 s.heap.size ra_n v_ra p0 n9 r1) s.heap.size) [(ra, .inr (2, [.ref ra1, .ref ra2, .ref ra3, .int (v_ra 0 0)])), (ra1, .inl (cI, ra_n * 20, .inl (v_ra 1))), (ra2, .inl (cI, ra_n, .inl (v_ra 2))), (ra3, .inl (cI, 21, .inl (v_ra 3)))] := hD
        clear hPc hDc hFc hP1 hK1 hD1 hk1 hz1 ht hvm g_7
        refine lv_bipush (v := 8) hx hb dX2_timesOfVariables_20 (by decide) ?_
        refine lv_icmp_ge (tgt := 29) hx hb dX2_timesOfVariables_22 (by decide) (fun c_10 => ?_) (fun c_10 => ?_)
        · replace hf := xi_t c_10 hf
          refine lv_iconst (v := 0) hx hb dX2_timesOfVariables_29 (by decide) ?_
          refine lv_iadd hx hb dX2_timesOfVariables_30 ?_
          refine lv_topi (fun y_11 ey_11 => ?_)
          replace hf := xl_to (v := x2 + ((0 : Int32))) ey_11 hf
          refine lv_istore_n (lv' := [(2, .int y_11), (0, .ref ra), (1, .int p0), (3, .int x3)]) hx hb dX2_timesOfVariables_31 rfl hl (by decide) rfl (fun ls hl => ?_)
          obtain ⟨x3_12, ex3_12⟩ : ∃ y : Int32, y = x3 + (1) := ⟨_, rfl⟩
          refine lv_iinc (v := x3_12) (lv' := [(3, .int x3_12), (2, .int y_11), (0, .ref ra), (1, .int p0)]) hx hb dX2_timesOfVariables_32 hl (k := 3) rfl (by rw [ex3_12]; rfl) (by decide) rfl (fun ls hl => ?_)
          replace hf := xl_to ex3_12 hf
          refine lv_goto (tgt := 4) hx hb dX2_timesOfVariables_35 (by decide) ?_
          exact ih_4 y_11 x3_12 hf _ _ (hP.sub [0, 1, 2, 3] rfl) (hD.sub [0, 1, 2, 3] (by decide) rfl) hS ls (lv_sub hl [2, 3, 1, 0] rfl)
        · replace hf := xi_f c_10 hf
          refine lv_iconst (v := 1) hx hb dX2_timesOfVariables_25 (by decide) ?_
          refine lv_goto (tgt := 30) hx hb dX2_timesOfVariables_26 (by decide) ?_
          refine lv_iadd hx hb dX2_timesOfVariables_30 ?_
          refine lv_topi (fun y_13 ey_13 => ?_)
          replace hf := xl_to (v := x2 + ((1 : Int32))) ey_13 hf
          refine lv_istore_n (lv' := [(2, .int y_13), (0, .ref ra), (1, .int p0), (3, .int x3)]) hx hb dX2_timesOfVariables_31 rfl hl (by decide) rfl (fun ls hl => ?_)
          obtain ⟨x3_14, ex3_14⟩ : ∃ y : Int32, y = x3 + (1) := ⟨_, rfl⟩
          refine lv_iinc (v := x3_14) (lv' := [(3, .int x3_14), (2, .int y_13), (0, .ref ra), (1, .int p0)]) hx hb dX2_timesOfVariables_32 hl (k := 3) rfl (by rw [ex3_14]; rfl) (by decide) rfl (fun ls hl => ?_)
          replace hf := xl_to ex3_14 hf
          refine lv_goto (tgt := 4) hx hb dX2_timesOfVariables_35 (by decide) ?_
          exact ih_4 y_13 x3_14 hf _ _ (hP.sub [0, 1, 2, 3] rfl) (hD.sub [0, 1, 2, 3] (by decide) rfl) hS ls (lv_sub hl [2, 3, 1, 0] rfl)
  refine lv_iconst (v := 0) hx hb dX2_timesOfVariables_0 (by decide) ?_
  refine lv_istore_n (lv' := [(2, .int ((0 : Int32))), (0, .ref ra), (1, .int p0)]) hx hb dX2_timesOfVariables_1 rfl hl (by decide) rfl (fun ls hl => ?_)
  refine lv_iconst (v := 0) hx hb dX2_timesOfVariables_2 (by decide) ?_
  refine lv_istore_n (lv' := [(3, .int ((0 : Int32))), (2, .int ((0 : Int32))), (0, .ref ra), (1, .int p0)]) hx hb dX2_timesOfVariables_3 rfl hl (by decide) rfl (fun ls hl => ?_)
  exact L_4 n9 ((0 : Int32)) ((0 : Int32)) hf _ _ (hP.sub [0, 1, 2, 3] rfl) (hD.sub [0, 1, 2, 3] (by decide) rfl) hS ls (lv_sub hl [2, 3, 1, 0] rfl)
def wo_X2_operatorsIny : List Cond := .code yX2_operatorsIn cX2_operatorsIn 5 (some .int) :: (([.initialized RX9, .static yX9_operatorIn] : List Cond) ++ ((wsV RX2 34 RX2 yX2_lengthOf wo_X2_lengthOfy) ++ ((wsV RX2 46 RX2 yX2_cellAt wo_X2_cellAty) ++ ((wo_X9_operatorIny)))))
set_option maxRecDepth 20000 in
theorem go_wo_X2_operatorsIny_0 : GoodIn wo_X2_operatorsIny (wsV RX2 34 RX2 yX2_lengthOf wo_X2_lengthOfy) := goodIn_sub (fun _ h => (List.mem_cons_of_mem _ (List.mem_append_right _ (List.mem_append_left _ h)))) (by decide +kernel)
set_option maxRecDepth 20000 in
theorem go_wo_X2_operatorsIny_1 : GoodIn wo_X2_operatorsIny (wsV RX2 46 RX2 yX2_cellAt wo_X2_cellAty) := goodIn_sub (fun _ h => (List.mem_cons_of_mem _ (List.mem_append_right _ (List.mem_append_right _ (List.mem_append_left _ h))))) (by decide +kernel)
set_option maxRecDepth 20000 in
theorem go_wo_X2_operatorsIny_2 : GoodIn wo_X2_operatorsIny (wo_X9_operatorIny) := goodIn_sub (fun _ h => (List.mem_cons_of_mem _ (List.mem_append_right _ (List.mem_append_right _ (List.mem_append_right _ h))))) (by decide +kernel)
abbrev ww_X2_operatorsIny (dC : Nat → ClassId) (dI : Nat → Nat → Nat) (cI cJ cB : ClassId) (ra ra1 ra2 ra3 : Nat) (sz : Nat) (ra_n : Nat) (v_ra : Nat → Nat → Int32) (p0 : Int32) (n9 : Nat) (r1 : Int32) : va_W := [(ra, .inr (2, [.ref ra1, .ref ra2, .ref ra3, .int (v_ra 0 0)])), (ra1, .inl (cI, ra_n * 20, .inl (v_ra 1))), (ra2, .inl (cI, ra_n, .inl (v_ra 2))), (ra3, .inl (cI, 21, .inl (v_ra 3)))]
abbrev at_X2_operatorsIny (dC : Nat → ClassId) (dI : Nat → Nat → Nat) (cI cJ cB : ClassId) (ra ra1 ra2 ra3 : Nat) (sz : Nat) (ra_n : Nat) (v_ra : Nat → Nat → Int32) (p0 : Int32) (n9 : Nat) (r1 : Int32) (u : Unit) (t : State) : Prop := match u with
  | () => va_P (dC, dI) vwCl [(ra, .inr (2, [.ref ra1, .ref ra2, .ref ra3, .int (v_ra 0 0)])), (ra1, .inl (cI, ra_n * 20, .inl (v_ra 1))), (ra2, .inl (cI, ra_n, .inl (v_ra 2))), (ra3, .inl (cI, 21, .inl (v_ra 3)))] t.heap ∧ va_K (dC, dI) vwCl (tyL cI cJ cB) t ∧ va_D (va_A (ww_X2_operatorsIny dC dI cI cJ cB ra ra1 ra2 ra3 sz ra_n v_ra p0 n9 r1) sz) [(ra, .inr (2, [.ref ra1, .ref ra2, .ref ra3, .int (v_ra 0 0)])), (ra1, .inl (cI, ra_n * 20, .inl (v_ra 1))), (ra2, .inl (cI, ra_n, .inl (v_ra 2))), (ra3, .inl (cI, 21, .inl (v_ra 3)))]
abbrev qc_X2_operatorsIny (dC : Nat → ClassId) (dI : Nat → Nat → Nat) (cI cJ cB : ClassId) (ra ra1 ra2 ra3 : Nat) (sz : Nat) (ra_n : Nat) (v_ra : Nat → Nat → Int32) (p0 : Int32) (n9 : Nat) (r1 : Int32) : Array Value → State → Outcome → State → Prop := va_Qi (fun (r : Int32) (u : Unit) => match u with | () => (r = r1)) (at_X2_operatorsIny dC dI cI cJ cB ra ra1 ra2 ra3 sz ra_n v_ra p0 n9 r1) (va_A (ww_X2_operatorsIny dC dI cI cJ cB ra ra1 ra2 ra3 sz ra_n v_ra p0 n9 r1) sz)
abbrev pc_X2_operatorsIny (dC : Nat → ClassId) (dI : Nat → Nat → Nat) (cI cJ cB : ClassId) (ra ra1 ra2 ra3 : Nat) (sz : Nat) (ra_n : Nat) (v_ra : Nat → Nat → Int32) (p0 : Int32) (n9 : Nat) (r1 : Int32) : Array Value → State → Prop := va_Pc [.ref ra, .int p0] (fun U => U.heap.size = sz ∧ NW U ∧ va_P (dC, dI) vwCl (ww_X2_operatorsIny dC dI cI cJ cB ra ra1 ra2 ra3 sz ra_n v_ra p0 n9 r1) U.heap ∧ va_K (dC, dI) vwCl (tyL cI cJ cB) U ∧ va_D (fun _ => True) (ww_X2_operatorsIny dC dI cI cJ cB ra ra1 ra2 ra3 sz ra_n v_ra p0 n9 r1))
abbrev rm_X2_operatorsIny : Room := { frames := 1, cells := 0, slots := 0, locals := 23 }
abbrev WW_X2_operatorsIny (p : Program) (l : Launch) (e : Env) (s : State) (m : MethodId) (below : List Frame) (meth : Method) (c : Code) (dC : Nat → ClassId) (dI : Nat → Nat → Nat) (cI cJ cB : ClassId) (ra ra1 ra2 ra3 : Nat) (sz : Nat) (ra_n : Nat) (v_ra : Nat → Nat → Int32) (p0 : Int32) (n9 : Nat) (r1 : Int32) (H : Heap) (locs : List Loc) (g : JFrame) : Prop := W p l e rm_X2_operatorsIny s m ([.ref ra, .int p0] : List Value).toArray below meth c H locs 0 0 (MQ below (qc_X2_operatorsIny dC dI cI cJ cB ra ra1 ra2 ra3 sz ra_n v_ra p0 n9 r1) ([.ref ra, .int p0] : List Value).toArray s 0 0 (va_A (ww_X2_operatorsIny dC dI cI cJ cB ra ra1 ra2 ra3 sz ra_n v_ra p0 n9 r1) sz)) g
set_option maxHeartbeats 4000000 in
set_option maxRecDepth 100000 in
theorem c_X2_operatorsIny (l : Launch) (dC : Nat → ClassId) (dI : Nat → Nat → Nat) (cI cJ cB : ClassId) (ra ra1 ra2 ra3 : Nat) (sz : Nat) (ra_n : Nat) (v_ra : Nat → Nat → Int32) (p0 : Int32) (n9 : Nat) (r1 : Int32) (hf : fx_X2_operatorsIn n9 ra_n v_ra p0 = some (r1)) : Met l yX2_operatorsIn wo_X2_operatorsIny rm_X2_operatorsIny (pc_X2_operatorsIny dC dI cI cJ cB ra ra1 ra2 ra3 sz ra_n v_ra p0 n9 r1) (qc_X2_operatorsIny dC dI cI cJ cB ra ra1 ra2 ra3 sz ra_n v_ra p0 n9 r1) 0 0 (va_A (ww_X2_operatorsIny dC dI cI cJ cB ra ra1 ra2 ra3 sz ra_n v_ra p0 n9 r1) sz) := by
  unfold fx_X2_operatorsIn at hf
  refine Met.ofW (cc := cX2_operatorsIn) (maxL := 5) (ret := (some .int)) (by decide) rfl ?_
  intro p e s m args below meth c s₁ B hml hv
  obtain ⟨rfl, hsz, hnw, hP, hK, hD0⟩ := hv
  have hx := B.exec
  have hb := B.bytes
  have hr := B.returns
  have hts := atoms_spec (ws := wo_X2_operatorsIny) B.pre
  have hown : s.vm.findClass RX2 = some m.cls := findClass_of_methodNamed B.named
  have hlocks := B.notSynchronized
  clear B
  subst hsz
  have hD := hD0.self (sz := s.heap.size)
  clear hD0
  have hA : ∀ q : Nat, s.heap.size ≤ q → (va_A (ww_X2_operatorsIny dC dI cI cJ cB ra ra1 ra2 ra3 s.heap.size ra_n v_ra p0 n9 r1) s.heap.size) q := fun q h => Or.inr h
  have hS : va_S (va_A (ww_X2_operatorsIny dC dI cI cJ cB ra ra1 ra2 ra3 s.heap.size ra_n v_ra p0 n9 r1) s.heap.size) s.heap s.heap [] := va_S.rf
  have hl := lv_entry ([.ref ra, .int p0]) (n := 5) (Nat.le_of_ble_eq_true rfl)
  rw [lg_entry_eq]
  generalize (lg_sl ([.ref ra, .int p0]) ++ List.replicate (5 - (lg_sl ([.ref ra, .int p0])).length) Slot.unset).toArray = ls at hl ⊢
  have hl : lv_has ls 5 [(0, .ref ra), (1, .int p0)] := hl
  have hP : va_P (dC, dI) vwCl [(ra, .inr (2, [.ref ra1, .ref ra2, .ref ra3, .int (v_ra 0 0)])), (ra1, .inl (cI, ra_n * 20, .inl (v_ra 1))), (ra2, .inl (cI, ra_n, .inl (v_ra 2))), (ra3, .inl (cI, 21, .inl (v_ra 3)))] s.heap := hP
  have hD : va_D (va_A (ww_X2_operatorsIny dC dI cI cJ cB ra ra1 ra2 ra3 s.heap.size ra_n v_ra p0 n9 r1) s.heap.size) [(ra, .inr (2, [.ref ra1, .ref ra2, .ref ra3, .int (v_ra 0 0)])), (ra1, .inl (cI, ra_n * 20, .inl (v_ra 1))), (ra2, .inl (cI, ra_n, .inl (v_ra 2))), (ra3, .inl (cI, 21, .inl (v_ra 3)))] := hD
  obtain ⟨H, hH⟩ : ∃ H, H = s.heap := ⟨_, rfl⟩
  obtain ⟨locs, hlc⟩ : ∃ L : List Loc, L = [] := ⟨_, rfl⟩
  have hS : va_S (va_A (ww_X2_operatorsIny dC dI cI cJ cB ra ra1 ra2 ra3 s.heap.size ra_n v_ra p0 n9 r1) s.heap.size) s.heap H locs := by rw [hH, hlc]; exact hS
  have hP : va_P (dC, dI) vwCl [(ra, .inr (2, [.ref ra1, .ref ra2, .ref ra3, .int (v_ra 0 0)])), (ra1, .inl (cI, ra_n * 20, .inl (v_ra 1))), (ra2, .inl (cI, ra_n, .inl (v_ra 2))), (ra3, .inl (cI, 21, .inl (v_ra 3)))] H := by rw [hH]; exact hP
  suffices hgo : WW_X2_operatorsIny p l e s m below meth c dC dI cI cJ cB ra ra1 ra2 ra3 s.heap.size ra_n v_ra p0 n9 r1 H locs (F0 m 0 ls []) by rw [hH, hlc] at hgo; exact hgo
  clear hH hlc
  have L_4 : ∀ (N_4 : Nat), ∀ (x2 : Int32) (x3 : Int32), lx_X2_operatorsIn_4 n9 ra_n v_ra p0 N_4 x2 x3 = some (r1) → ∀ (H : Heap) (locs : List Loc), va_P (dC, dI) vwCl [(ra, .inr (2, [.ref ra1, .ref ra2, .ref ra3, .int (v_ra 0 0)])), (ra1, .inl (cI, ra_n * 20, .inl (v_ra 1))), (ra2, .inl (cI, ra_n, .inl (v_ra 2))), (ra3, .inl (cI, 21, .inl (v_ra 3)))] H → va_D (va_A (ww_X2_operatorsIny dC dI cI cJ cB ra ra1 ra2 ra3 s.heap.size ra_n v_ra p0 n9 r1) s.heap.size) [(ra, .inr (2, [.ref ra1, .ref ra2, .ref ra3, .int (v_ra 0 0)])), (ra1, .inl (cI, ra_n * 20, .inl (v_ra 1))), (ra2, .inl (cI, ra_n, .inl (v_ra 2))), (ra3, .inl (cI, 21, .inl (v_ra 3)))] → va_S (va_A (ww_X2_operatorsIny dC dI cI cJ cB ra ra1 ra2 ra3 s.heap.size ra_n v_ra p0 n9 r1) s.heap.size) s.heap H locs → ∀ ls : Array Slot, lv_has ls 5 [(0, .ref ra), (1, .int p0), (2, .int x2), (3, .int x3)] → WW_X2_operatorsIny p l e s m below meth c dC dI cI cJ cB ra ra1 ra2 ra3 s.heap.size ra_n v_ra p0 n9 r1 H locs (F0 m 4 ls []) := by
    intro N_4
    induction N_4 with
    | zero => intro x2 x3 hf; exact xn_to hf
    | succ N_4 ih_4 =>
      intro x2 x3 hf H locs hP hD hS ls hl
      replace hf : bx_X2_operatorsIn_4 n9 ra_n v_ra p0 (lx_X2_operatorsIn_4 n9 ra_n v_ra p0 N_4) x2 x3 = some (r1) := hf
      generalize lx_X2_operatorsIn_4 n9 ra_n v_ra p0 N_4 = k_4 at hf ih_4
      unfold bx_X2_operatorsIn_4 at hf
      refine lv_iload_n hx hb dX2_operatorsIn_4 rfl (lv_at hl 3 rfl) ?_
      refine lv_aload_n hx hb dX2_operatorsIn_5 rfl (lv_at hl 0 rfl) ?_
      refine lv_iload_n hx hb dX2_operatorsIn_6 rfl (lv_at hl 1 rfl) ?_
      replace hf := xb1_to hf
      obtain ⟨o_1, g_2, hf⟩ := hf
      have hPc := hP.sub (ws' := [(ra, .inr (2, [.ref ra1, .ref ra2, .ref ra3, .int (v_ra 0 0)])), (ra1, .inl (cI, ra_n * 20, .inl (v_ra 1))), (ra2, .inl (cI, ra_n, .inl (v_ra 2))), (ra3, .inl (cI, 21, .inl (v_ra 3)))]) [0, 1, 2, 3] rfl
      have hDc := hD.sub (ws' := [(ra, .inr (2, [.ref ra1, .ref ra2, .ref ra3, .int (v_ra 0 0)])), (ra1, .inl (cI, ra_n * 20, .inl (v_ra 1))), (ra2, .inl (cI, ra_n, .inl (v_ra 2))), (ra3, .inl (cI, 21, .inl (v_ra 3)))]) [0, 1, 2, 3] (by decide) rfl
      have hFc := va_free (wc := [(ra, .inr (2, [.ref ra1, .ref ra2, .ref ra3, .int (v_ra 0 0)])), (ra1, .inl (cI, ra_n * 20, .inl (v_ra 1))), (ra2, .inl (cI, ra_n, .inl (v_ra 2))), (ra3, .inl (cI, 21, .inl (v_ra 3)))]) hD hS hA [0, 1, 2, 3] rfl
      refine va_calli (va_runV (As := [.int p0]) (rest := [.int x3]) ⟨hx, hb, hml, hown, hts⟩ (c_X2_lengthOfy l dC dI cI cJ cB ra ra1 ra2 ra3 H.size ra_n v_ra p0 n9 o_1 g_2) (cwV 1 hts go_wo_X2_operatorsIny_0 rfl rfl rfl (by decide +kernel) ⟨Nat.le_of_ble_eq_true rfl, Nat.le_of_ble_eq_true rfl⟩) ⟨fun a U g mk q => by obtain ⟨q0, q1, qN, qP, qK, qD⟩ := q; exact ⟨q0, q1, NW.calling qN, qP, va_K.moved (u := U) (U := U.calling g mk a) (Vm.Alike.refl U.vm) qK, qD⟩, va_recv hK hPc (ci := 2) (q0 := 0) rfl rfl, fun U hU hW => ⟨rfl, by rw [hU], NW.warm hW hnw, by rw [hU]; exact hPc, va_K.moved hW.alike hK, hDc.weaken (fun _ _ _ _ => trivial)⟩⟩ rfl rfl hl.1 rfl (lv_room (Nat.le_of_ble_eq_true rfl)) dX2_operatorsIn_7 ⟨Nat.zero_le _, Nat.zero_le _⟩) hS (fun q _ h => hFc q h) hFc (fun r_3 u t H1 locs ht hvm hw hB hz1 hk1 hS => ?_)
      cases u
      obtain ⟨hP1, hK1, hD1⟩ := hB
      rw [ht] at hP1
      have hw : (r_3 = o_1) := hw
      subst hw
      obtain ⟨hP, hD⟩ := va_join (wr := []) (w1 := [(ra, .inr (2, [.ref ra1, .ref ra2, .ref ra3, .int (v_ra 0 0)])), (ra1, .inl (cI, ra_n * 20, .inl (v_ra 1))), (ra2, .inl (cI, ra_n, .inl (v_ra 2))), (ra3, .inl (cI, 21, .inl (v_ra 3)))]) hP hD [0, 1, 2, 3] [] rfl rfl (by decide) (by decide) hk1 hFc hP1 hD1
      generalize H1 = H at hP hS ⊢
      have hP : va_P (dC, dI) vwCl [(ra, .inr (2, [.ref ra1, .ref ra2, .ref ra3, .int (v_ra 0 0)])), (ra1, .inl (cI, ra_n * 20, .inl (v_ra 1))), (ra2, .inl (cI, ra_n, .inl (v_ra 2))), (ra3, .inl (cI, 21, .inl (v_ra 3)))] H := hP
      have hD : va_D (va_A (ww_X2_operatorsIny dC dI cI cJ cB ra ra1 ra2 ra3 s.heap.size ra_n v_ra p0 n9 r1) s.heap.size) [(ra, .inr (2, [.ref ra1, .ref ra2, .ref ra3, .int (v_ra 0 0)])), (ra1, .inl (cI, ra_n * 20, .inl (v_ra 1))), (ra2, .inl (cI, ra_n, .inl (v_ra 2))), (ra3, .inl (cI, 21, .inl (v_ra 3)))] := hD
      clear hPc hDc hFc hP1 hK1 hD1 hk1 hz1 ht hvm g_2
      refine lv_icmp_ge (tgt := 48) hx hb dX2_operatorsIn_10 (by decide) (fun c_5 => ?_) (fun c_5 => ?_)
      · replace hf := xi_t c_5 hf
        refine lv_iload_n hx hb dX2_operatorsIn_48 rfl (lv_at hl 2 rfl) ?_
        have hP9 := hP.sub (ws' := [(ra, .inr (2, [.ref ra1, .ref ra2, .ref ra3, .int (v_ra 0 0)])), (ra1, .inl (cI, ra_n * 20, .inl (v_ra 1))), (ra2, .inl (cI, ra_n, .inl (v_ra 2))), (ra3, .inl (cI, 21, .inl (v_ra 3)))]) [0, 1, 2, 3] rfl
        have hD9 := hD.sub (ws' := [(ra, .inr (2, [.ref ra1, .ref ra2, .ref ra3, .int (v_ra 0 0)])), (ra1, .inl (cI, ra_n * 20, .inl (v_ra 1))), (ra2, .inl (cI, ra_n, .inl (v_ra 2))), (ra3, .inl (cI, 21, .inl (v_ra 3)))]) [0, 1, 2, 3] (by decide) rfl
        have r9_0 : x2 = r1 := (Option.some.inj hf)
        exact W.iret (v := x2) hx hb hr (fun t ht hW => ⟨⟨x2, (), rfl, r9_0, by rw [ht]; exact hP9, va_K.moved hW.alike hK, hD9⟩, hS.F ht⟩) hS.2.2 dX2_operatorsIn_49
      · replace hf := xi_f c_5 hf
        refine lv_aload_n hx hb dX2_operatorsIn_13 rfl (lv_at hl 0 rfl) ?_
        refine lv_iload_n hx hb dX2_operatorsIn_14 rfl (lv_at hl 1 rfl) ?_
        refine lv_iload_n hx hb dX2_operatorsIn_15 rfl (lv_at hl 3 rfl) ?_
        replace hf := xb1_to hf
        obtain ⟨o_6, g_7, hf⟩ := hf
        have hPc := hP.sub (ws' := [(ra, .inr (2, [.ref ra1, .ref ra2, .ref ra3, .int (v_ra 0 0)])), (ra1, .inl (cI, ra_n * 20, .inl (v_ra 1))), (ra2, .inl (cI, ra_n, .inl (v_ra 2))), (ra3, .inl (cI, 21, .inl (v_ra 3)))]) [0, 1, 2, 3] rfl
        have hDc := hD.sub (ws' := [(ra, .inr (2, [.ref ra1, .ref ra2, .ref ra3, .int (v_ra 0 0)])), (ra1, .inl (cI, ra_n * 20, .inl (v_ra 1))), (ra2, .inl (cI, ra_n, .inl (v_ra 2))), (ra3, .inl (cI, 21, .inl (v_ra 3)))]) [0, 1, 2, 3] (by decide) rfl
        have hFc := va_free (wc := [(ra, .inr (2, [.ref ra1, .ref ra2, .ref ra3, .int (v_ra 0 0)])), (ra1, .inl (cI, ra_n * 20, .inl (v_ra 1))), (ra2, .inl (cI, ra_n, .inl (v_ra 2))), (ra3, .inl (cI, 21, .inl (v_ra 3)))]) hD hS hA [0, 1, 2, 3] rfl
        refine va_calli (va_runV (As := [.int p0, .int x3]) (rest := []) ⟨hx, hb, hml, hown, hts⟩ (c_X2_cellAty l dC dI cI cJ cB ra ra1 ra2 ra3 H.size ra_n v_ra p0 x3 n9 o_6 g_7) (cwV 2 hts go_wo_X2_operatorsIny_1 rfl rfl rfl (by decide +kernel) ⟨Nat.le_of_ble_eq_true rfl, Nat.le_of_ble_eq_true rfl⟩) ⟨fun a U g mk q => by obtain ⟨q0, q1, qN, qP, qK, qD⟩ := q; exact ⟨q0, q1, NW.calling qN, qP, va_K.moved (u := U) (U := U.calling g mk a) (Vm.Alike.refl U.vm) qK, qD⟩, va_recv hK hPc (ci := 2) (q0 := 0) rfl rfl, fun U hU hW => ⟨rfl, by rw [hU], NW.warm hW hnw, by rw [hU]; exact hPc, va_K.moved hW.alike hK, hDc.weaken (fun _ _ _ _ => trivial)⟩⟩ rfl rfl hl.1 rfl (lv_room (Nat.le_of_ble_eq_true rfl)) dX2_operatorsIn_16 ⟨Nat.zero_le _, Nat.zero_le _⟩) hS (fun q _ h => hFc q h) hFc (fun r_8 u t H1 locs ht hvm hw hB hz1 hk1 hS => ?_)
        cases u
        obtain ⟨hP1, hK1, hD1⟩ := hB
        rw [ht] at hP1
        have hw : (r_8 = o_6) := hw
        subst hw
        obtain ⟨hP, hD⟩ := va_join (wr := []) (w1 := [(ra, .inr (2, [.ref ra1, .ref ra2, .ref ra3, .int (v_ra 0 0)])), (ra1, .inl (cI, ra_n * 20, .inl (v_ra 1))), (ra2, .inl (cI, ra_n, .inl (v_ra 2))), (ra3, .inl (cI, 21, .inl (v_ra 3)))]) hP hD [0, 1, 2, 3] [] rfl rfl (by decide) (by decide) hk1 hFc hP1 hD1
        generalize H1 = H at hP hS ⊢
        have hP : va_P (dC, dI) vwCl [(ra, .inr (2, [.ref ra1, .ref ra2, .ref ra3, .int (v_ra 0 0)])), (ra1, .inl (cI, ra_n * 20, .inl (v_ra 1))), (ra2, .inl (cI, ra_n, .inl (v_ra 2))), (ra3, .inl (cI, 21, .inl (v_ra 3)))] H := hP
        have hD : va_D (va_A (ww_X2_operatorsIny dC dI cI cJ cB ra ra1 ra2 ra3 s.heap.size ra_n v_ra p0 n9 r1) s.heap.size) [(ra, .inr (2, [.ref ra1, .ref ra2, .ref ra3, .int (v_ra 0 0)])), (ra1, .inl (cI, ra_n * 20, .inl (v_ra 1))), (ra2, .inl (cI, ra_n, .inl (v_ra 2))), (ra3, .inl (cI, 21, .inl (v_ra 3)))] := hD
        clear hPc hDc hFc hP1 hK1 hD1 hk1 hz1 ht hvm g_7
        refine lv_istore (lv' := [(4, .int r_8), (0, .ref ra), (1, .int p0), (2, .int x2), (3, .int x3)]) hx hb dX2_operatorsIn_19 hl (by decide) rfl (fun ls hl => ?_)
        refine lv_iload_n hx hb dX2_operatorsIn_21 rfl (lv_at hl 3 rfl) ?_
        refine lv_iload hx hb dX2_operatorsIn_22 (lv_at hl 0 rfl) ?_
        refine lv_bipush (v := 8) hx hb dX2_operatorsIn_24 (by decide) ?_
        refine lv_icmp_ge (tgt := 33) hx hb dX2_operatorsIn_26 (by decide) (fun c_10 => ?_) (fun c_10 => ?_)
        · replace hf := xi_t c_10 hf
          refine lv_iconst (v := 1) hx hb dX2_operatorsIn_33 (by decide) ?_
          refine lv_iload hx hb dX2_operatorsIn_34 (lv_at hl 0 rfl) ?_
          replace hf := xb1_to hf
          obtain ⟨o_11, g_12, hf⟩ := hf
          have hPc := hP.sub (ws' := []) [] rfl
          have hDc := hD.sub (ws' := []) [] (by decide) rfl
          have hFc := va_free (wc := []) hD hS hA [] rfl
          refine va_calli (va_runSN (host := "SumRewriter") (As := [.int r_8]) (rest := [.int ((1 : Int32)), .int x2]) ⟨hx, hb, hml, hown, hts⟩ (c_X9_operatorIny l dC dI cI cJ cB  H.size r_8 n9 o_11 g_12) ⟨va_cnB 1 hts go_wo_X2_operatorsIny_2 rfl rfl rfl (hnw _ (by decide +kernel) : va_Nw (.methodLinkNest RX2 71 yX9_operatorIn "SumRewriter") s) (hts (.initialized RX9) (by decide +kernel)) (by decide +kernel) ⟨Nat.le_of_ble_eq_true rfl, Nat.le_of_ble_eq_true rfl⟩, hts (.static yX9_operatorIn) (by decide +kernel), trivial⟩ ⟨fun a U g mk q => by obtain ⟨q0, q1, qN, qP, qK, qD⟩ := q; exact ⟨q0, q1, NW.calling qN, qP, va_K.moved (u := U) (U := U.calling g mk a) (Vm.Alike.refl U.vm) qK, qD⟩, fun U hU hW => ⟨rfl, by rw [hU], NW.warm hW hnw, by rw [hU]; exact hPc, va_K.moved hW.alike hK, hDc.weaken (fun _ _ _ _ => trivial)⟩⟩ rfl rfl hl.1 rfl (lv_room (Nat.le_of_ble_eq_true rfl)) dX2_operatorsIn_36 ⟨Nat.zero_le _, Nat.zero_le _⟩) hS (fun q _ h => hFc q h) hFc (fun r_13 u t H1 locs ht hvm hw hB hz1 hk1 hS => ?_)
          cases u
          obtain ⟨hP1, hK1, hD1⟩ := hB
          rw [ht] at hP1
          have hw : (r_13 = o_11) := hw
          subst hw
          obtain ⟨hP, hD⟩ := va_join (wr := [(ra, .inr (2, [.ref ra1, .ref ra2, .ref ra3, .int (v_ra 0 0)])), (ra1, .inl (cI, ra_n * 20, .inl (v_ra 1))), (ra2, .inl (cI, ra_n, .inl (v_ra 2))), (ra3, .inl (cI, 21, .inl (v_ra 3)))]) (w1 := []) hP hD [] [0, 1, 2, 3] rfl rfl (by decide) (by decide) hk1 hFc hP1 hD1
          generalize H1 = H at hP hS ⊢
          have hP : va_P (dC, dI) vwCl [(ra, .inr (2, [.ref ra1, .ref ra2, .ref ra3, .int (v_ra 0 0)])), (ra1, .inl (cI, ra_n * 20, .inl (v_ra 1))), (ra2, .inl (cI, ra_n, .inl (v_ra 2))), (ra3, .inl (cI, 21, .inl (v_ra 3)))] H := hP
          have hD : va_D (va_A (ww_X2_operatorsIny dC dI cI cJ cB ra ra1 ra2 ra3 s.heap.size ra_n v_ra p0 n9 r1) s.heap.size) [(ra, .inr (2, [.ref ra1, .ref ra2, .ref ra3, .int (v_ra 0 0)])), (ra1, .inl (cI, ra_n * 20, .inl (v_ra 1))), (ra2, .inl (cI, ra_n, .inl (v_ra 2))), (ra3, .inl (cI, 21, .inl (v_ra 3)))] := hD
          clear hPc hDc hFc hP1 hK1 hD1 hk1 hz1 ht hvm g_12
          refine lv_ishl hx hb dX2_operatorsIn_39 ?_
          refine lv_topi (fun y_15 ey_15 => ?_)
          replace hf := xl_to (v := ((1 : Int32)) <<< (r_13 &&& 31)) ey_15 hf
          refine lv_ior hx hb dX2_operatorsIn_40 ?_
          refine lv_topi (fun y_16 ey_16 => ?_)
          replace hf := xl_to (v := x2 ||| y_15) ey_16 hf
          refine lv_istore_n (lv' := [(2, .int y_16), (4, .int r_8), (0, .ref ra), (1, .int p0), (3, .int x3)]) hx hb dX2_operatorsIn_41 rfl hl (by decide) rfl (fun ls hl => ?_)
          obtain ⟨x3_17, ex3_17⟩ : ∃ y : Int32, y = x3 + (1) := ⟨_, rfl⟩
          refine lv_iinc (v := x3_17) (lv' := [(3, .int x3_17), (2, .int y_16), (4, .int r_8), (0, .ref ra), (1, .int p0)]) hx hb dX2_operatorsIn_42 hl (k := 4) rfl (by rw [ex3_17]; rfl) (by decide) rfl (fun ls hl => ?_)
          replace hf := xl_to ex3_17 hf
          refine lv_goto (tgt := 4) hx hb dX2_operatorsIn_45 (by decide) ?_
          exact ih_4 y_16 x3_17 hf _ _ (hP.sub [0, 1, 2, 3] rfl) (hD.sub [0, 1, 2, 3] (by decide) rfl) hS ls (lv_sub hl [3, 4, 1, 0] rfl)
        · replace hf := xi_f c_10 hf
          refine lv_iconst (v := 0) hx hb dX2_operatorsIn_29 (by decide) ?_
          refine lv_goto (tgt := 40) hx hb dX2_operatorsIn_30 (by decide) ?_
          refine lv_ior hx hb dX2_operatorsIn_40 ?_
          refine lv_topi (fun y_18 ey_18 => ?_)
          replace hf := xl_to (v := x2 ||| ((0 : Int32))) ey_18 hf
          refine lv_istore_n (lv' := [(2, .int y_18), (4, .int r_8), (0, .ref ra), (1, .int p0), (3, .int x3)]) hx hb dX2_operatorsIn_41 rfl hl (by decide) rfl (fun ls hl => ?_)
          obtain ⟨x3_19, ex3_19⟩ : ∃ y : Int32, y = x3 + (1) := ⟨_, rfl⟩
          refine lv_iinc (v := x3_19) (lv' := [(3, .int x3_19), (2, .int y_18), (4, .int r_8), (0, .ref ra), (1, .int p0)]) hx hb dX2_operatorsIn_42 hl (k := 4) rfl (by rw [ex3_19]; rfl) (by decide) rfl (fun ls hl => ?_)
          replace hf := xl_to ex3_19 hf
          refine lv_goto (tgt := 4) hx hb dX2_operatorsIn_45 (by decide) ?_
          exact ih_4 y_18 x3_19 hf _ _ (hP.sub [0, 1, 2, 3] rfl) (hD.sub [0, 1, 2, 3] (by decide) rfl) hS ls (lv_sub hl [3, 4, 1, 0] rfl)
  refine lv_iconst (v := 0) hx hb dX2_operatorsIn_0 (by decide) ?_
  refine lv_istore_n (lv' := [(2, .int ((0 : Int32))), (0, .ref ra), (1, .int p0)]) hx hb dX2_operatorsIn_1 rfl hl (by decide) rfl (fun ls hl => ?_)
  refine lv_iconst (v := 0) hx hb dX2_operatorsIn_2 (by decide) ?_
  refine lv_istore_n (lv' := [(3, .int ((0 : Int32))), (2, .int ((0 : Int32))), (0, .ref ra), (1, .int p0)]) hx hb dX2_operatorsIn_3 rfl hl (by decide) rfl (fun ls hl => ?_)
  exact L_4 n9 ((0 : Int32)) ((0 : Int32)) hf _ _ (hP.sub [0, 1, 2, 3] rfl) (hD.sub [0, 1, 2, 3] (by decide) rfl) hS ls (lv_sub hl [2, 3, 1, 0] rfl)
def wo_X2_partsWithy : List Cond := .code yX2_partsWith cX2_partsWith 6 (some .int) :: (([.initialized RX9, .static yX9_operatorIn, .static yX9_partsIn] : List Cond) ++ ((wsV RX2 46 RX2 yX2_cellAt wo_X2_cellAty) ++ ((wo_X9_operatorIny) ++ ((wsV RX2 74 RX2 yX2_spanAt wo_X2_spanAty) ++ ((wo_X9_partsIny))))))
set_option maxRecDepth 20000 in
theorem go_wo_X2_partsWithy_0 : GoodIn wo_X2_partsWithy (wsV RX2 46 RX2 yX2_cellAt wo_X2_cellAty) := goodIn_sub (fun _ h => (List.mem_cons_of_mem _ (List.mem_append_right _ (List.mem_append_left _ h)))) (by decide +kernel)
set_option maxRecDepth 20000 in
theorem go_wo_X2_partsWithy_1 : GoodIn wo_X2_partsWithy (wo_X9_operatorIny) := goodIn_sub (fun _ h => (List.mem_cons_of_mem _ (List.mem_append_right _ (List.mem_append_right _ (List.mem_append_left _ h))))) (by decide +kernel)
set_option maxRecDepth 20000 in
theorem go_wo_X2_partsWithy_2 : GoodIn wo_X2_partsWithy (wsV RX2 74 RX2 yX2_spanAt wo_X2_spanAty) := goodIn_sub (fun _ h => (List.mem_cons_of_mem _ (List.mem_append_right _ (List.mem_append_right _ (List.mem_append_right _ (List.mem_append_left _ h)))))) (by decide +kernel)
set_option maxRecDepth 20000 in
theorem go_wo_X2_partsWithy_3 : GoodIn wo_X2_partsWithy (wo_X9_partsIny) := goodIn_sub (fun _ h => (List.mem_cons_of_mem _ (List.mem_append_right _ (List.mem_append_right _ (List.mem_append_right _ (List.mem_append_right _ h)))))) (by decide +kernel)
abbrev ww_X2_partsWithy (dC : Nat → ClassId) (dI : Nat → Nat → Nat) (cI cJ cB : ClassId) (ra ra1 ra2 ra3 : Nat) (sz : Nat) (ra_n : Nat) (v_ra : Nat → Nat → Int32) (p0 : Int32) (p1 : Int32) (n9 : Nat) (r1 : Int32) : va_W := [(ra, .inr (2, [.ref ra1, .ref ra2, .ref ra3, .int (v_ra 0 0)])), (ra1, .inl (cI, ra_n * 20, .inl (v_ra 1))), (ra2, .inl (cI, ra_n, .inl (v_ra 2))), (ra3, .inl (cI, 21, .inl (v_ra 3)))]
abbrev at_X2_partsWithy (dC : Nat → ClassId) (dI : Nat → Nat → Nat) (cI cJ cB : ClassId) (ra ra1 ra2 ra3 : Nat) (sz : Nat) (ra_n : Nat) (v_ra : Nat → Nat → Int32) (p0 : Int32) (p1 : Int32) (n9 : Nat) (r1 : Int32) (u : Unit) (t : State) : Prop := match u with
  | () => va_P (dC, dI) vwCl [(ra, .inr (2, [.ref ra1, .ref ra2, .ref ra3, .int (v_ra 0 0)])), (ra1, .inl (cI, ra_n * 20, .inl (v_ra 1))), (ra2, .inl (cI, ra_n, .inl (v_ra 2))), (ra3, .inl (cI, 21, .inl (v_ra 3)))] t.heap ∧ va_K (dC, dI) vwCl (tyL cI cJ cB) t ∧ va_D (va_A (ww_X2_partsWithy dC dI cI cJ cB ra ra1 ra2 ra3 sz ra_n v_ra p0 p1 n9 r1) sz) [(ra, .inr (2, [.ref ra1, .ref ra2, .ref ra3, .int (v_ra 0 0)])), (ra1, .inl (cI, ra_n * 20, .inl (v_ra 1))), (ra2, .inl (cI, ra_n, .inl (v_ra 2))), (ra3, .inl (cI, 21, .inl (v_ra 3)))]
abbrev qc_X2_partsWithy (dC : Nat → ClassId) (dI : Nat → Nat → Nat) (cI cJ cB : ClassId) (ra ra1 ra2 ra3 : Nat) (sz : Nat) (ra_n : Nat) (v_ra : Nat → Nat → Int32) (p0 : Int32) (p1 : Int32) (n9 : Nat) (r1 : Int32) : Array Value → State → Outcome → State → Prop := va_Qi (fun (r : Int32) (u : Unit) => match u with | () => (r = r1)) (at_X2_partsWithy dC dI cI cJ cB ra ra1 ra2 ra3 sz ra_n v_ra p0 p1 n9 r1) (va_A (ww_X2_partsWithy dC dI cI cJ cB ra ra1 ra2 ra3 sz ra_n v_ra p0 p1 n9 r1) sz)
abbrev pc_X2_partsWithy (dC : Nat → ClassId) (dI : Nat → Nat → Nat) (cI cJ cB : ClassId) (ra ra1 ra2 ra3 : Nat) (sz : Nat) (ra_n : Nat) (v_ra : Nat → Nat → Int32) (p0 : Int32) (p1 : Int32) (n9 : Nat) (r1 : Int32) : Array Value → State → Prop := va_Pc [.ref ra, .int p0, .int p1] (fun U => U.heap.size = sz ∧ NW U ∧ va_P (dC, dI) vwCl (ww_X2_partsWithy dC dI cI cJ cB ra ra1 ra2 ra3 sz ra_n v_ra p0 p1 n9 r1) U.heap ∧ va_K (dC, dI) vwCl (tyL cI cJ cB) U ∧ va_D (fun _ => True) (ww_X2_partsWithy dC dI cI cJ cB ra ra1 ra2 ra3 sz ra_n v_ra p0 p1 n9 r1))
abbrev rm_X2_partsWithy : Room := { frames := 2, cells := 0, slots := 0, locals := 48 }
abbrev WW_X2_partsWithy (p : Program) (l : Launch) (e : Env) (s : State) (m : MethodId) (below : List Frame) (meth : Method) (c : Code) (dC : Nat → ClassId) (dI : Nat → Nat → Nat) (cI cJ cB : ClassId) (ra ra1 ra2 ra3 : Nat) (sz : Nat) (ra_n : Nat) (v_ra : Nat → Nat → Int32) (p0 : Int32) (p1 : Int32) (n9 : Nat) (r1 : Int32) (H : Heap) (locs : List Loc) (g : JFrame) : Prop := W p l e rm_X2_partsWithy s m ([.ref ra, .int p0, .int p1] : List Value).toArray below meth c H locs 0 0 (MQ below (qc_X2_partsWithy dC dI cI cJ cB ra ra1 ra2 ra3 sz ra_n v_ra p0 p1 n9 r1) ([.ref ra, .int p0, .int p1] : List Value).toArray s 0 0 (va_A (ww_X2_partsWithy dC dI cI cJ cB ra ra1 ra2 ra3 sz ra_n v_ra p0 p1 n9 r1) sz)) g
set_option maxHeartbeats 4000000 in
set_option maxRecDepth 100000 in
theorem c_X2_partsWithy (l : Launch) (dC : Nat → ClassId) (dI : Nat → Nat → Nat) (cI cJ cB : ClassId) (ra ra1 ra2 ra3 : Nat) (sz : Nat) (ra_n : Nat) (v_ra : Nat → Nat → Int32) (p0 : Int32) (p1 : Int32) (n9 : Nat) (r1 : Int32) (hf : fx_X2_partsWith n9 ra_n v_ra p0 p1 = some (r1)) : Met l yX2_partsWith wo_X2_partsWithy rm_X2_partsWithy (pc_X2_partsWithy dC dI cI cJ cB ra ra1 ra2 ra3 sz ra_n v_ra p0 p1 n9 r1) (qc_X2_partsWithy dC dI cI cJ cB ra ra1 ra2 ra3 sz ra_n v_ra p0 p1 n9 r1) 0 0 (va_A (ww_X2_partsWithy dC dI cI cJ cB ra ra1 ra2 ra3 sz ra_n v_ra p0 p1 n9 r1) sz) := by
  unfold fx_X2_partsWith at hf
  refine Met.ofW (cc := cX2_partsWith) (maxL := 6) (ret := (some .int)) (by decide) rfl ?_
  intro p e s m args below meth c s₁ B hml hv
  obtain ⟨rfl, hsz, hnw, hP, hK, hD0⟩ := hv
  have hx := B.exec
  have hb := B.bytes
  have hr := B.returns
  have hts := atoms_spec (ws := wo_X2_partsWithy) B.pre
  have hown : s.vm.findClass RX2 = some m.cls := findClass_of_methodNamed B.named
  have hlocks := B.notSynchronized
  clear B
  subst hsz
  have hD := hD0.self (sz := s.heap.size)
  clear hD0
  have hA : ∀ q : Nat, s.heap.size ≤ q → (va_A (ww_X2_partsWithy dC dI cI cJ cB ra ra1 ra2 ra3 s.heap.size ra_n v_ra p0 p1 n9 r1) s.heap.size) q := fun q h => Or.inr h
  have hS : va_S (va_A (ww_X2_partsWithy dC dI cI cJ cB ra ra1 ra2 ra3 s.heap.size ra_n v_ra p0 p1 n9 r1) s.heap.size) s.heap s.heap [] := va_S.rf
  have hl := lv_entry ([.ref ra, .int p0, .int p1]) (n := 6) (Nat.le_of_ble_eq_true rfl)
  rw [lg_entry_eq]
  generalize (lg_sl ([.ref ra, .int p0, .int p1]) ++ List.replicate (6 - (lg_sl ([.ref ra, .int p0, .int p1])).length) Slot.unset).toArray = ls at hl ⊢
  have hl : lv_has ls 6 [(0, .ref ra), (1, .int p0), (2, .int p1)] := hl
  have hP : va_P (dC, dI) vwCl [(ra, .inr (2, [.ref ra1, .ref ra2, .ref ra3, .int (v_ra 0 0)])), (ra1, .inl (cI, ra_n * 20, .inl (v_ra 1))), (ra2, .inl (cI, ra_n, .inl (v_ra 2))), (ra3, .inl (cI, 21, .inl (v_ra 3)))] s.heap := hP
  have hD : va_D (va_A (ww_X2_partsWithy dC dI cI cJ cB ra ra1 ra2 ra3 s.heap.size ra_n v_ra p0 p1 n9 r1) s.heap.size) [(ra, .inr (2, [.ref ra1, .ref ra2, .ref ra3, .int (v_ra 0 0)])), (ra1, .inl (cI, ra_n * 20, .inl (v_ra 1))), (ra2, .inl (cI, ra_n, .inl (v_ra 2))), (ra3, .inl (cI, 21, .inl (v_ra 3)))] := hD
  obtain ⟨H, hH⟩ : ∃ H, H = s.heap := ⟨_, rfl⟩
  obtain ⟨locs, hlc⟩ : ∃ L : List Loc, L = [] := ⟨_, rfl⟩
  have hS : va_S (va_A (ww_X2_partsWithy dC dI cI cJ cB ra ra1 ra2 ra3 s.heap.size ra_n v_ra p0 p1 n9 r1) s.heap.size) s.heap H locs := by rw [hH, hlc]; exact hS
  have hP : va_P (dC, dI) vwCl [(ra, .inr (2, [.ref ra1, .ref ra2, .ref ra3, .int (v_ra 0 0)])), (ra1, .inl (cI, ra_n * 20, .inl (v_ra 1))), (ra2, .inl (cI, ra_n, .inl (v_ra 2))), (ra3, .inl (cI, 21, .inl (v_ra 3)))] H := by rw [hH]; exact hP
  suffices hgo : WW_X2_partsWithy p l e s m below meth c dC dI cI cJ cB ra ra1 ra2 ra3 s.heap.size ra_n v_ra p0 p1 n9 r1 H locs (F0 m 0 ls []) by rw [hH, hlc] at hgo; exact hgo
  clear hH hlc
  have L_16 : ∀ (N_16 : Nat), ∀ (x3 : Int32) (x4 : Int32) (x5 : Int32), lx_X2_partsWith_16 n9 ra_n v_ra p0 p1 N_16 x3 x4 x5 = some (r1) → ∀ (H : Heap) (locs : List Loc), va_P (dC, dI) vwCl [(ra, .inr (2, [.ref ra1, .ref ra2, .ref ra3, .int (v_ra 0 0)])), (ra1, .inl (cI, ra_n * 20, .inl (v_ra 1))), (ra2, .inl (cI, ra_n, .inl (v_ra 2))), (ra3, .inl (cI, 21, .inl (v_ra 3)))] H → va_D (va_A (ww_X2_partsWithy dC dI cI cJ cB ra ra1 ra2 ra3 s.heap.size ra_n v_ra p0 p1 n9 r1) s.heap.size) [(ra, .inr (2, [.ref ra1, .ref ra2, .ref ra3, .int (v_ra 0 0)])), (ra1, .inl (cI, ra_n * 20, .inl (v_ra 1))), (ra2, .inl (cI, ra_n, .inl (v_ra 2))), (ra3, .inl (cI, 21, .inl (v_ra 3)))] → va_S (va_A (ww_X2_partsWithy dC dI cI cJ cB ra ra1 ra2 ra3 s.heap.size ra_n v_ra p0 p1 n9 r1) s.heap.size) s.heap H locs → ∀ ls : Array Slot, lv_has ls 6 [(0, .ref ra), (1, .int p0), (2, .int p1), (3, .int x3), (4, .int x4), (5, .int x5)] → WW_X2_partsWithy p l e s m below meth c dC dI cI cJ cB ra ra1 ra2 ra3 s.heap.size ra_n v_ra p0 p1 n9 r1 H locs (F0 m 16 ls []) := by
    intro N_16
    induction N_16 with
    | zero => intro x3 x4 x5 hf; exact xn_to hf
    | succ N_16 ih_16 =>
      intro x3 x4 x5 hf H locs hP hD hS ls hl
      replace hf : bx_X2_partsWith_16 n9 ra_n v_ra p0 p1 (lx_X2_partsWith_16 n9 ra_n v_ra p0 p1 N_16) x3 x4 x5 = some (r1) := hf
      generalize lx_X2_partsWith_16 n9 ra_n v_ra p0 p1 N_16 = k_16 at hf ih_16
      unfold bx_X2_partsWith_16 at hf
      refine lv_iload hx hb dX2_partsWith_16 (lv_at hl 5 rfl) ?_
      refine lv_if_le (tgt := 61) hx hb dX2_partsWith_18 (by decide) (fun c_1 => ?_) (fun c_1 => ?_)
      · replace hf := xi_t c_1 hf
        refine lv_iload_n hx hb dX2_partsWith_61 rfl (lv_at hl 3 rfl) ?_
        have hP9 := hP.sub (ws' := [(ra, .inr (2, [.ref ra1, .ref ra2, .ref ra3, .int (v_ra 0 0)])), (ra1, .inl (cI, ra_n * 20, .inl (v_ra 1))), (ra2, .inl (cI, ra_n, .inl (v_ra 2))), (ra3, .inl (cI, 21, .inl (v_ra 3)))]) [0, 1, 2, 3] rfl
        have hD9 := hD.sub (ws' := [(ra, .inr (2, [.ref ra1, .ref ra2, .ref ra3, .int (v_ra 0 0)])), (ra1, .inl (cI, ra_n * 20, .inl (v_ra 1))), (ra2, .inl (cI, ra_n, .inl (v_ra 2))), (ra3, .inl (cI, 21, .inl (v_ra 3)))]) [0, 1, 2, 3] (by decide) rfl
        have r9_0 : x3 = r1 := (Option.some.inj hf)
        exact W.iret (v := x3) hx hb hr (fun t ht hW => ⟨⟨x3, (), rfl, r9_0, by rw [ht]; exact hP9, va_K.moved hW.alike hK, hD9⟩, hS.F ht⟩) hS.2.2 dX2_partsWith_62
      · replace hf := xi_f c_1 hf
        refine lv_iload_n hx hb dX2_partsWith_21 rfl (lv_at hl 3 rfl) ?_
        refine lv_aload_n hx hb dX2_partsWith_22 rfl (lv_at hl 0 rfl) ?_
        refine lv_iload_n hx hb dX2_partsWith_23 rfl (lv_at hl 1 rfl) ?_
        refine lv_iload hx hb dX2_partsWith_24 (lv_at hl 4 rfl) ?_
        replace hf := xb1_to hf
        obtain ⟨o_2, g_3, hf⟩ := hf
        have hPc := hP.sub (ws' := [(ra, .inr (2, [.ref ra1, .ref ra2, .ref ra3, .int (v_ra 0 0)])), (ra1, .inl (cI, ra_n * 20, .inl (v_ra 1))), (ra2, .inl (cI, ra_n, .inl (v_ra 2))), (ra3, .inl (cI, 21, .inl (v_ra 3)))]) [0, 1, 2, 3] rfl
        have hDc := hD.sub (ws' := [(ra, .inr (2, [.ref ra1, .ref ra2, .ref ra3, .int (v_ra 0 0)])), (ra1, .inl (cI, ra_n * 20, .inl (v_ra 1))), (ra2, .inl (cI, ra_n, .inl (v_ra 2))), (ra3, .inl (cI, 21, .inl (v_ra 3)))]) [0, 1, 2, 3] (by decide) rfl
        have hFc := va_free (wc := [(ra, .inr (2, [.ref ra1, .ref ra2, .ref ra3, .int (v_ra 0 0)])), (ra1, .inl (cI, ra_n * 20, .inl (v_ra 1))), (ra2, .inl (cI, ra_n, .inl (v_ra 2))), (ra3, .inl (cI, 21, .inl (v_ra 3)))]) hD hS hA [0, 1, 2, 3] rfl
        refine va_calli (va_runV (As := [.int p0, .int x4]) (rest := [.int x3]) ⟨hx, hb, hml, hown, hts⟩ (c_X2_cellAty l dC dI cI cJ cB ra ra1 ra2 ra3 H.size ra_n v_ra p0 x4 n9 o_2 g_3) (cwV 2 hts go_wo_X2_partsWithy_0 rfl rfl rfl (by decide +kernel) ⟨Nat.le_of_ble_eq_true rfl, Nat.le_of_ble_eq_true rfl⟩) ⟨fun a U g mk q => by obtain ⟨q0, q1, qN, qP, qK, qD⟩ := q; exact ⟨q0, q1, NW.calling qN, qP, va_K.moved (u := U) (U := U.calling g mk a) (Vm.Alike.refl U.vm) qK, qD⟩, va_recv hK hPc (ci := 2) (q0 := 0) rfl rfl, fun U hU hW => ⟨rfl, by rw [hU], NW.warm hW hnw, by rw [hU]; exact hPc, va_K.moved hW.alike hK, hDc.weaken (fun _ _ _ _ => trivial)⟩⟩ rfl rfl hl.1 rfl (lv_room (Nat.le_of_ble_eq_true rfl)) dX2_partsWith_26 ⟨Nat.zero_le _, Nat.zero_le _⟩) hS (fun q _ h => hFc q h) hFc (fun r_4 u t H1 locs ht hvm hw hB hz1 hk1 hS => ?_)
        cases u
        obtain ⟨hP1, hK1, hD1⟩ := hB
        rw [ht] at hP1
        have hw : (r_4 = o_2) := hw
        subst hw
        obtain ⟨hP, hD⟩ := va_join (wr := []) (w1 := [(ra, .inr (2, [.ref ra1, .ref ra2, .ref ra3, .int (v_ra 0 0)])), (ra1, .inl (cI, ra_n * 20, .inl (v_ra 1))), (ra2, .inl (cI, ra_n, .inl (v_ra 2))), (ra3, .inl (cI, 21, .inl (v_ra 3)))]) hP hD [0, 1, 2, 3] [] rfl rfl (by decide) (by decide) hk1 hFc hP1 hD1
        generalize H1 = H at hP hS ⊢
        have hP : va_P (dC, dI) vwCl [(ra, .inr (2, [.ref ra1, .ref ra2, .ref ra3, .int (v_ra 0 0)])), (ra1, .inl (cI, ra_n * 20, .inl (v_ra 1))), (ra2, .inl (cI, ra_n, .inl (v_ra 2))), (ra3, .inl (cI, 21, .inl (v_ra 3)))] H := hP
        have hD : va_D (va_A (ww_X2_partsWithy dC dI cI cJ cB ra ra1 ra2 ra3 s.heap.size ra_n v_ra p0 p1 n9 r1) s.heap.size) [(ra, .inr (2, [.ref ra1, .ref ra2, .ref ra3, .int (v_ra 0 0)])), (ra1, .inl (cI, ra_n * 20, .inl (v_ra 1))), (ra2, .inl (cI, ra_n, .inl (v_ra 2))), (ra3, .inl (cI, 21, .inl (v_ra 3)))] := hD
        clear hPc hDc hFc hP1 hK1 hD1 hk1 hz1 ht hvm g_3
        replace hf := xb1_to hf
        obtain ⟨o_6, g_7, hf⟩ := hf
        have hPc := hP.sub (ws' := []) [] rfl
        have hDc := hD.sub (ws' := []) [] (by decide) rfl
        have hFc := va_free (wc := []) hD hS hA [] rfl
        refine va_calli (va_runSN (host := "SumRewriter") (As := [.int r_4]) (rest := [.int x3]) ⟨hx, hb, hml, hown, hts⟩ (c_X9_operatorIny l dC dI cI cJ cB  H.size r_4 n9 o_6 g_7) ⟨va_cnB 1 hts go_wo_X2_partsWithy_1 rfl rfl rfl (hnw _ (by decide +kernel) : va_Nw (.methodLinkNest RX2 71 yX9_operatorIn "SumRewriter") s) (hts (.initialized RX9) (by decide +kernel)) (by decide +kernel) ⟨Nat.le_of_ble_eq_true rfl, Nat.le_of_ble_eq_true rfl⟩, hts (.static yX9_operatorIn) (by decide +kernel), trivial⟩ ⟨fun a U g mk q => by obtain ⟨q0, q1, qN, qP, qK, qD⟩ := q; exact ⟨q0, q1, NW.calling qN, qP, va_K.moved (u := U) (U := U.calling g mk a) (Vm.Alike.refl U.vm) qK, qD⟩, fun U hU hW => ⟨rfl, by rw [hU], NW.warm hW hnw, by rw [hU]; exact hPc, va_K.moved hW.alike hK, hDc.weaken (fun _ _ _ _ => trivial)⟩⟩ rfl rfl hl.1 rfl (lv_room (Nat.le_of_ble_eq_true rfl)) dX2_partsWith_29 ⟨Nat.zero_le _, Nat.zero_le _⟩) hS (fun q _ h => hFc q h) hFc (fun r_8 u t H1 locs ht hvm hw hB hz1 hk1 hS => ?_)
        cases u
        obtain ⟨hP1, hK1, hD1⟩ := hB
        rw [ht] at hP1
        have hw : (r_8 = o_6) := hw
        subst hw
        obtain ⟨hP, hD⟩ := va_join (wr := [(ra, .inr (2, [.ref ra1, .ref ra2, .ref ra3, .int (v_ra 0 0)])), (ra1, .inl (cI, ra_n * 20, .inl (v_ra 1))), (ra2, .inl (cI, ra_n, .inl (v_ra 2))), (ra3, .inl (cI, 21, .inl (v_ra 3)))]) (w1 := []) hP hD [] [0, 1, 2, 3] rfl rfl (by decide) (by decide) hk1 hFc hP1 hD1
        generalize H1 = H at hP hS ⊢
        have hP : va_P (dC, dI) vwCl [(ra, .inr (2, [.ref ra1, .ref ra2, .ref ra3, .int (v_ra 0 0)])), (ra1, .inl (cI, ra_n * 20, .inl (v_ra 1))), (ra2, .inl (cI, ra_n, .inl (v_ra 2))), (ra3, .inl (cI, 21, .inl (v_ra 3)))] H := hP
        have hD : va_D (va_A (ww_X2_partsWithy dC dI cI cJ cB ra ra1 ra2 ra3 s.heap.size ra_n v_ra p0 p1 n9 r1) s.heap.size) [(ra, .inr (2, [.ref ra1, .ref ra2, .ref ra3, .int (v_ra 0 0)])), (ra1, .inl (cI, ra_n * 20, .inl (v_ra 1))), (ra2, .inl (cI, ra_n, .inl (v_ra 2))), (ra3, .inl (cI, 21, .inl (v_ra 3)))] := hD
        clear hPc hDc hFc hP1 hK1 hD1 hk1 hz1 ht hvm g_7
        refine lv_iload_n hx hb dX2_partsWith_32 rfl (lv_at hl 2 rfl) ?_
        refine lv_icmp_ne (tgt := 40) hx hb dX2_partsWith_33 (by decide) (fun c_10 => ?_) (fun c_10 => ?_)
        · replace hf := xi_f c_10 hf
          refine lv_iconst (v := 0) hx hb dX2_partsWith_40 (by decide) ?_
          refine lv_iadd hx hb dX2_partsWith_41 ?_
          refine lv_topi (fun y_11 ey_11 => ?_)
          replace hf := xl_to (v := x3 + ((0 : Int32))) ey_11 hf
          refine lv_istore_n (lv' := [(3, .int y_11), (0, .ref ra), (1, .int p0), (2, .int p1), (4, .int x4), (5, .int x5)]) hx hb dX2_partsWith_42 rfl hl (by decide) rfl (fun ls hl => ?_)
          refine lv_iload hx hb dX2_partsWith_43 (lv_at hl 4 rfl) ?_
          refine lv_aload_n hx hb dX2_partsWith_45 rfl (lv_at hl 1 rfl) ?_
          refine lv_iload_n hx hb dX2_partsWith_46 rfl (lv_at hl 2 rfl) ?_
          refine lv_iload hx hb dX2_partsWith_47 (lv_at hl 4 rfl) ?_
          replace hf := xb1_to hf
          obtain ⟨o_12, g_13, hf⟩ := hf
          have hPc := hP.sub (ws' := [(ra, .inr (2, [.ref ra1, .ref ra2, .ref ra3, .int (v_ra 0 0)])), (ra1, .inl (cI, ra_n * 20, .inl (v_ra 1))), (ra2, .inl (cI, ra_n, .inl (v_ra 2))), (ra3, .inl (cI, 21, .inl (v_ra 3)))]) [0, 1, 2, 3] rfl
          have hDc := hD.sub (ws' := [(ra, .inr (2, [.ref ra1, .ref ra2, .ref ra3, .int (v_ra 0 0)])), (ra1, .inl (cI, ra_n * 20, .inl (v_ra 1))), (ra2, .inl (cI, ra_n, .inl (v_ra 2))), (ra3, .inl (cI, 21, .inl (v_ra 3)))]) [0, 1, 2, 3] (by decide) rfl
          have hFc := va_free (wc := [(ra, .inr (2, [.ref ra1, .ref ra2, .ref ra3, .int (v_ra 0 0)])), (ra1, .inl (cI, ra_n * 20, .inl (v_ra 1))), (ra2, .inl (cI, ra_n, .inl (v_ra 2))), (ra3, .inl (cI, 21, .inl (v_ra 3)))]) hD hS hA [0, 1, 2, 3] rfl
          refine va_calli (va_runV (As := [.int p0, .int x4]) (rest := [.int x4]) ⟨hx, hb, hml, hown, hts⟩ (c_X2_spanAty l dC dI cI cJ cB ra ra1 ra2 ra3 H.size ra_n v_ra p0 x4 n9 o_12 g_13) (cwV 2 hts go_wo_X2_partsWithy_2 rfl rfl rfl (by decide +kernel) ⟨Nat.le_of_ble_eq_true rfl, Nat.le_of_ble_eq_true rfl⟩) ⟨fun a U g mk q => by obtain ⟨q0, q1, qN, qP, qK, qD⟩ := q; exact ⟨q0, q1, NW.calling qN, qP, va_K.moved (u := U) (U := U.calling g mk a) (Vm.Alike.refl U.vm) qK, qD⟩, va_recv hK hPc (ci := 2) (q0 := 0) rfl rfl, fun U hU hW => ⟨rfl, by rw [hU], NW.warm hW hnw, by rw [hU]; exact hPc, va_K.moved hW.alike hK, hDc.weaken (fun _ _ _ _ => trivial)⟩⟩ rfl rfl hl.1 rfl (lv_room (Nat.le_of_ble_eq_true rfl)) dX2_partsWith_49 ⟨Nat.zero_le _, Nat.zero_le _⟩) hS (fun q _ h => hFc q h) hFc (fun r_14 u t H1 locs ht hvm hw hB hz1 hk1 hS => ?_)
          cases u
          obtain ⟨hP1, hK1, hD1⟩ := hB
          rw [ht] at hP1
          have hw : (r_14 = o_12) := hw
          subst hw
          obtain ⟨hP, hD⟩ := va_join (wr := []) (w1 := [(ra, .inr (2, [.ref ra1, .ref ra2, .ref ra3, .int (v_ra 0 0)])), (ra1, .inl (cI, ra_n * 20, .inl (v_ra 1))), (ra2, .inl (cI, ra_n, .inl (v_ra 2))), (ra3, .inl (cI, 21, .inl (v_ra 3)))]) hP hD [0, 1, 2, 3] [] rfl rfl (by decide) (by decide) hk1 hFc hP1 hD1
          generalize H1 = H at hP hS ⊢
          have hP : va_P (dC, dI) vwCl [(ra, .inr (2, [.ref ra1, .ref ra2, .ref ra3, .int (v_ra 0 0)])), (ra1, .inl (cI, ra_n * 20, .inl (v_ra 1))), (ra2, .inl (cI, ra_n, .inl (v_ra 2))), (ra3, .inl (cI, 21, .inl (v_ra 3)))] H := hP
          have hD : va_D (va_A (ww_X2_partsWithy dC dI cI cJ cB ra ra1 ra2 ra3 s.heap.size ra_n v_ra p0 p1 n9 r1) s.heap.size) [(ra, .inr (2, [.ref ra1, .ref ra2, .ref ra3, .int (v_ra 0 0)])), (ra1, .inl (cI, ra_n * 20, .inl (v_ra 1))), (ra2, .inl (cI, ra_n, .inl (v_ra 2))), (ra3, .inl (cI, 21, .inl (v_ra 3)))] := hD
          clear hPc hDc hFc hP1 hK1 hD1 hk1 hz1 ht hvm g_13
          refine lv_iadd hx hb dX2_partsWith_52 ?_
          refine lv_topi (fun y_16 ey_16 => ?_)
          replace hf := xl_to (v := x4 + r_14) ey_16 hf
          refine lv_istore (lv' := [(4, .int y_16), (3, .int y_11), (0, .ref ra), (1, .int p0), (2, .int p1), (5, .int x5)]) hx hb dX2_partsWith_53 hl (by decide) rfl (fun ls hl => ?_)
          obtain ⟨x5_17, ex5_17⟩ : ∃ y : Int32, y = x5 + (-1) := ⟨_, rfl⟩
          refine lv_iinc (v := x5_17) (lv' := [(5, .int x5_17), (4, .int y_16), (3, .int y_11), (0, .ref ra), (1, .int p0), (2, .int p1)]) hx hb dX2_partsWith_55 hl (k := 5) rfl (by rw [ex5_17]; rfl) (by decide) rfl (fun ls hl => ?_)
          replace hf := xl_to ex5_17 hf
          refine lv_goto (tgt := 16) hx hb dX2_partsWith_58 (by decide) ?_
          exact ih_16 y_11 y_16 x5_17 hf _ _ (hP.sub [0, 1, 2, 3] rfl) (hD.sub [0, 1, 2, 3] (by decide) rfl) hS ls (lv_sub hl [3, 4, 5, 2, 1, 0] rfl)
        · replace hf := xi_t c_10 hf
          refine lv_iconst (v := 1) hx hb dX2_partsWith_36 (by decide) ?_
          refine lv_goto (tgt := 41) hx hb dX2_partsWith_37 (by decide) ?_
          refine lv_iadd hx hb dX2_partsWith_41 ?_
          refine lv_topi (fun y_18 ey_18 => ?_)
          replace hf := xl_to (v := x3 + ((1 : Int32))) ey_18 hf
          refine lv_istore_n (lv' := [(3, .int y_18), (0, .ref ra), (1, .int p0), (2, .int p1), (4, .int x4), (5, .int x5)]) hx hb dX2_partsWith_42 rfl hl (by decide) rfl (fun ls hl => ?_)
          refine lv_iload hx hb dX2_partsWith_43 (lv_at hl 4 rfl) ?_
          refine lv_aload_n hx hb dX2_partsWith_45 rfl (lv_at hl 1 rfl) ?_
          refine lv_iload_n hx hb dX2_partsWith_46 rfl (lv_at hl 2 rfl) ?_
          refine lv_iload hx hb dX2_partsWith_47 (lv_at hl 4 rfl) ?_
          replace hf := xb1_to hf
          obtain ⟨o_19, g_20, hf⟩ := hf
          have hPc := hP.sub (ws' := [(ra, .inr (2, [.ref ra1, .ref ra2, .ref ra3, .int (v_ra 0 0)])), (ra1, .inl (cI, ra_n * 20, .inl (v_ra 1))), (ra2, .inl (cI, ra_n, .inl (v_ra 2))), (ra3, .inl (cI, 21, .inl (v_ra 3)))]) [0, 1, 2, 3] rfl
          have hDc := hD.sub (ws' := [(ra, .inr (2, [.ref ra1, .ref ra2, .ref ra3, .int (v_ra 0 0)])), (ra1, .inl (cI, ra_n * 20, .inl (v_ra 1))), (ra2, .inl (cI, ra_n, .inl (v_ra 2))), (ra3, .inl (cI, 21, .inl (v_ra 3)))]) [0, 1, 2, 3] (by decide) rfl
          have hFc := va_free (wc := [(ra, .inr (2, [.ref ra1, .ref ra2, .ref ra3, .int (v_ra 0 0)])), (ra1, .inl (cI, ra_n * 20, .inl (v_ra 1))), (ra2, .inl (cI, ra_n, .inl (v_ra 2))), (ra3, .inl (cI, 21, .inl (v_ra 3)))]) hD hS hA [0, 1, 2, 3] rfl
          refine va_calli (va_runV (As := [.int p0, .int x4]) (rest := [.int x4]) ⟨hx, hb, hml, hown, hts⟩ (c_X2_spanAty l dC dI cI cJ cB ra ra1 ra2 ra3 H.size ra_n v_ra p0 x4 n9 o_19 g_20) (cwV 2 hts go_wo_X2_partsWithy_2 rfl rfl rfl (by decide +kernel) ⟨Nat.le_of_ble_eq_true rfl, Nat.le_of_ble_eq_true rfl⟩) ⟨fun a U g mk q => by obtain ⟨q0, q1, qN, qP, qK, qD⟩ := q; exact ⟨q0, q1, NW.calling qN, qP, va_K.moved (u := U) (U := U.calling g mk a) (Vm.Alike.refl U.vm) qK, qD⟩, va_recv hK hPc (ci := 2) (q0 := 0) rfl rfl, fun U hU hW => ⟨rfl, by rw [hU], NW.warm hW hnw, by rw [hU]; exact hPc, va_K.moved hW.alike hK, hDc.weaken (fun _ _ _ _ => trivial)⟩⟩ rfl rfl hl.1 rfl (lv_room (Nat.le_of_ble_eq_true rfl)) dX2_partsWith_49 ⟨Nat.zero_le _, Nat.zero_le _⟩) hS (fun q _ h => hFc q h) hFc (fun r_21 u t H1 locs ht hvm hw hB hz1 hk1 hS => ?_)
          cases u
          obtain ⟨hP1, hK1, hD1⟩ := hB
          rw [ht] at hP1
          have hw : (r_21 = o_19) := hw
          subst hw
          obtain ⟨hP, hD⟩ := va_join (wr := []) (w1 := [(ra, .inr (2, [.ref ra1, .ref ra2, .ref ra3, .int (v_ra 0 0)])), (ra1, .inl (cI, ra_n * 20, .inl (v_ra 1))), (ra2, .inl (cI, ra_n, .inl (v_ra 2))), (ra3, .inl (cI, 21, .inl (v_ra 3)))]) hP hD [0, 1, 2, 3] [] rfl rfl (by decide) (by decide) hk1 hFc hP1 hD1
          generalize H1 = H at hP hS ⊢
          have hP : va_P (dC, dI) vwCl [(ra, .inr (2, [.ref ra1, .ref ra2, .ref ra3, .int (v_ra 0 0)])), (ra1, .inl (cI, ra_n * 20, .inl (v_ra 1))), (ra2, .inl (cI, ra_n, .inl (v_ra 2))), (ra3, .inl (cI, 21, .inl (v_ra 3)))] H := hP
          have hD : va_D (va_A (ww_X2_partsWithy dC dI cI cJ cB ra ra1 ra2 ra3 s.heap.size ra_n v_ra p0 p1 n9 r1) s.heap.size) [(ra, .inr (2, [.ref ra1, .ref ra2, .ref ra3, .int (v_ra 0 0)])), (ra1, .inl (cI, ra_n * 20, .inl (v_ra 1))), (ra2, .inl (cI, ra_n, .inl (v_ra 2))), (ra3, .inl (cI, 21, .inl (v_ra 3)))] := hD
          clear hPc hDc hFc hP1 hK1 hD1 hk1 hz1 ht hvm g_20
          refine lv_iadd hx hb dX2_partsWith_52 ?_
          refine lv_topi (fun y_23 ey_23 => ?_)
          replace hf := xl_to (v := x4 + r_21) ey_23 hf
          refine lv_istore (lv' := [(4, .int y_23), (3, .int y_18), (0, .ref ra), (1, .int p0), (2, .int p1), (5, .int x5)]) hx hb dX2_partsWith_53 hl (by decide) rfl (fun ls hl => ?_)
          obtain ⟨x5_24, ex5_24⟩ : ∃ y : Int32, y = x5 + (-1) := ⟨_, rfl⟩
          refine lv_iinc (v := x5_24) (lv' := [(5, .int x5_24), (4, .int y_23), (3, .int y_18), (0, .ref ra), (1, .int p0), (2, .int p1)]) hx hb dX2_partsWith_55 hl (k := 5) rfl (by rw [ex5_24]; rfl) (by decide) rfl (fun ls hl => ?_)
          replace hf := xl_to ex5_24 hf
          refine lv_goto (tgt := 16) hx hb dX2_partsWith_58 (by decide) ?_
          exact ih_16 y_18 y_23 x5_24 hf _ _ (hP.sub [0, 1, 2, 3] rfl) (hD.sub [0, 1, 2, 3] (by decide) rfl) hS ls (lv_sub hl [3, 4, 5, 2, 1, 0] rfl)
  refine lv_iconst (v := 0) hx hb dX2_partsWith_0 (by decide) ?_
  refine lv_istore_n (lv' := [(3, .int ((0 : Int32))), (0, .ref ra), (1, .int p0), (2, .int p1)]) hx hb dX2_partsWith_1 rfl hl (by decide) rfl (fun ls hl => ?_)
  refine lv_iconst (v := 1) hx hb dX2_partsWith_2 (by decide) ?_
  refine lv_istore (lv' := [(4, .int ((1 : Int32))), (3, .int ((0 : Int32))), (0, .ref ra), (1, .int p0), (2, .int p1)]) hx hb dX2_partsWith_3 hl (by decide) rfl (fun ls hl => ?_)
  refine lv_aload_n hx hb dX2_partsWith_5 rfl (lv_at hl 2 rfl) ?_
  refine lv_iload_n hx hb dX2_partsWith_6 rfl (lv_at hl 3 rfl) ?_
  refine lv_iconst (v := 0) hx hb dX2_partsWith_7 (by decide) ?_
  replace hf := xb1_to hf
  obtain ⟨o_25, g_26, hf⟩ := hf
  have hPc := hP.sub (ws' := [(ra, .inr (2, [.ref ra1, .ref ra2, .ref ra3, .int (v_ra 0 0)])), (ra1, .inl (cI, ra_n * 20, .inl (v_ra 1))), (ra2, .inl (cI, ra_n, .inl (v_ra 2))), (ra3, .inl (cI, 21, .inl (v_ra 3)))]) [0, 1, 2, 3] rfl
  have hDc := hD.sub (ws' := [(ra, .inr (2, [.ref ra1, .ref ra2, .ref ra3, .int (v_ra 0 0)])), (ra1, .inl (cI, ra_n * 20, .inl (v_ra 1))), (ra2, .inl (cI, ra_n, .inl (v_ra 2))), (ra3, .inl (cI, 21, .inl (v_ra 3)))]) [0, 1, 2, 3] (by decide) rfl
  have hFc := va_free (wc := [(ra, .inr (2, [.ref ra1, .ref ra2, .ref ra3, .int (v_ra 0 0)])), (ra1, .inl (cI, ra_n * 20, .inl (v_ra 1))), (ra2, .inl (cI, ra_n, .inl (v_ra 2))), (ra3, .inl (cI, 21, .inl (v_ra 3)))]) hD hS hA [0, 1, 2, 3] rfl
  refine va_calli (va_runV (As := [.int p0, .int ((0 : Int32))]) (rest := []) ⟨hx, hb, hml, hown, hts⟩ (c_X2_cellAty l dC dI cI cJ cB ra ra1 ra2 ra3 H.size ra_n v_ra p0 ((0 : Int32)) n9 o_25 g_26) (cwV 2 hts go_wo_X2_partsWithy_0 rfl rfl rfl (by decide +kernel) ⟨Nat.le_of_ble_eq_true rfl, Nat.le_of_ble_eq_true rfl⟩) ⟨fun a U g mk q => by obtain ⟨q0, q1, qN, qP, qK, qD⟩ := q; exact ⟨q0, q1, NW.calling qN, qP, va_K.moved (u := U) (U := U.calling g mk a) (Vm.Alike.refl U.vm) qK, qD⟩, va_recv hK hPc (ci := 2) (q0 := 0) rfl rfl, fun U hU hW => ⟨rfl, by rw [hU], NW.warm hW hnw, by rw [hU]; exact hPc, va_K.moved hW.alike hK, hDc.weaken (fun _ _ _ _ => trivial)⟩⟩ rfl rfl hl.1 rfl (lv_room (Nat.le_of_ble_eq_true rfl)) dX2_partsWith_8 ⟨Nat.zero_le _, Nat.zero_le _⟩) hS (fun q _ h => hFc q h) hFc (fun r_27 u t H1 locs ht hvm hw hB hz1 hk1 hS => ?_)
  cases u
  obtain ⟨hP1, hK1, hD1⟩ := hB
  rw [ht] at hP1
  have hw : (r_27 = o_25) := hw
  subst hw
  obtain ⟨hP, hD⟩ := va_join (wr := []) (w1 := [(ra, .inr (2, [.ref ra1, .ref ra2, .ref ra3, .int (v_ra 0 0)])), (ra1, .inl (cI, ra_n * 20, .inl (v_ra 1))), (ra2, .inl (cI, ra_n, .inl (v_ra 2))), (ra3, .inl (cI, 21, .inl (v_ra 3)))]) hP hD [0, 1, 2, 3] [] rfl rfl (by decide) (by decide) hk1 hFc hP1 hD1
  generalize H1 = H at hP hS ⊢
  have hP : va_P (dC, dI) vwCl [(ra, .inr (2, [.ref ra1, .ref ra2, .ref ra3, .int (v_ra 0 0)])), (ra1, .inl (cI, ra_n * 20, .inl (v_ra 1))), (ra2, .inl (cI, ra_n, .inl (v_ra 2))), (ra3, .inl (cI, 21, .inl (v_ra 3)))] H := hP
  have hD : va_D (va_A (ww_X2_partsWithy dC dI cI cJ cB ra ra1 ra2 ra3 s.heap.size ra_n v_ra p0 p1 n9 r1) s.heap.size) [(ra, .inr (2, [.ref ra1, .ref ra2, .ref ra3, .int (v_ra 0 0)])), (ra1, .inl (cI, ra_n * 20, .inl (v_ra 1))), (ra2, .inl (cI, ra_n, .inl (v_ra 2))), (ra3, .inl (cI, 21, .inl (v_ra 3)))] := hD
  clear hPc hDc hFc hP1 hK1 hD1 hk1 hz1 ht hvm g_26
  replace hf := xb1_to hf
  obtain ⟨o_29, g_30, hf⟩ := hf
  have hPc := hP.sub (ws' := []) [] rfl
  have hDc := hD.sub (ws' := []) [] (by decide) rfl
  have hFc := va_free (wc := []) hD hS hA [] rfl
  refine va_calli (va_runSN (host := "SumRewriter") (As := [.int r_27]) (rest := []) ⟨hx, hb, hml, hown, hts⟩ (c_X9_partsIny l dC dI cI cJ cB  H.size r_27 n9 o_29 g_30) ⟨va_cnB 1 hts go_wo_X2_partsWithy_3 rfl rfl rfl (hnw _ (by decide +kernel) : va_Nw (.methodLinkNest RX2 65 yX9_partsIn "SumRewriter") s) (hts (.initialized RX9) (by decide +kernel)) (by decide +kernel) ⟨Nat.le_of_ble_eq_true rfl, Nat.le_of_ble_eq_true rfl⟩, hts (.static yX9_partsIn) (by decide +kernel), trivial⟩ ⟨fun a U g mk q => by obtain ⟨q0, q1, qN, qP, qK, qD⟩ := q; exact ⟨q0, q1, NW.calling qN, qP, va_K.moved (u := U) (U := U.calling g mk a) (Vm.Alike.refl U.vm) qK, qD⟩, fun U hU hW => ⟨rfl, by rw [hU], NW.warm hW hnw, by rw [hU]; exact hPc, va_K.moved hW.alike hK, hDc.weaken (fun _ _ _ _ => trivial)⟩⟩ rfl rfl hl.1 rfl (lv_room (Nat.le_of_ble_eq_true rfl)) dX2_partsWith_11 ⟨Nat.zero_le _, Nat.zero_le _⟩) hS (fun q _ h => hFc q h) hFc (fun r_31 u t H1 locs ht hvm hw hB hz1 hk1 hS => ?_)
  cases u
  obtain ⟨hP1, hK1, hD1⟩ := hB
  rw [ht] at hP1
  have hw : (r_31 = o_29) := hw
  subst hw
  obtain ⟨hP, hD⟩ := va_join (wr := [(ra, .inr (2, [.ref ra1, .ref ra2, .ref ra3, .int (v_ra 0 0)])), (ra1, .inl (cI, ra_n * 20, .inl (v_ra 1))), (ra2, .inl (cI, ra_n, .inl (v_ra 2))), (ra3, .inl (cI, 21, .inl (v_ra 3)))]) (w1 := []) hP hD [] [0, 1, 2, 3] rfl rfl (by decide) (by decide) hk1 hFc hP1 hD1
  generalize H1 = H at hP hS ⊢
  have hP : va_P (dC, dI) vwCl [(ra, .inr (2, [.ref ra1, .ref ra2, .ref ra3, .int (v_ra 0 0)])), (ra1, .inl (cI, ra_n * 20, .inl (v_ra 1))), (ra2, .inl (cI, ra_n, .inl (v_ra 2))), (ra3, .inl (cI, 21, .inl (v_ra 3)))] H := hP
  have hD : va_D (va_A (ww_X2_partsWithy dC dI cI cJ cB ra ra1 ra2 ra3 s.heap.size ra_n v_ra p0 p1 n9 r1) s.heap.size) [(ra, .inr (2, [.ref ra1, .ref ra2, .ref ra3, .int (v_ra 0 0)])), (ra1, .inl (cI, ra_n * 20, .inl (v_ra 1))), (ra2, .inl (cI, ra_n, .inl (v_ra 2))), (ra3, .inl (cI, 21, .inl (v_ra 3)))] := hD
  clear hPc hDc hFc hP1 hK1 hD1 hk1 hz1 ht hvm g_30
  refine lv_istore (lv' := [(5, .int r_31), (4, .int ((1 : Int32))), (3, .int ((0 : Int32))), (0, .ref ra), (1, .int p0), (2, .int p1)]) hx hb dX2_partsWith_14 hl (by decide) rfl (fun ls hl => ?_)
  exact L_16 n9 ((0 : Int32)) ((1 : Int32)) r_31 hf _ _ (hP.sub [0, 1, 2, 3] rfl) (hD.sub [0, 1, 2, 3] (by decide) rfl) hS ls (lv_sub hl [3, 4, 5, 2, 1, 0] rfl)
def wo_X4_putBytey : List Cond := .code yX4_putByte cX4_putByte 2 none :: (([.fieldLink RX4 34 "SumRewriter$Shown" "length" "I", .fieldLink RX4 20 "SumRewriter$Shown" "bytes" "[I"] : List Cond) ++ ((wsX40)))
abbrev ww_X4_putBytey (dC : Nat → ClassId) (dI : Nat → Nat → Nat) (cI cJ cB : ClassId) (sw sw1 sw2 ga ga1 ga2 ga3 ga4 ga5 ra ra1 ra2 ra3 : Nat) (sz : Nat) (v_sw0 : Nat → Nat → Int32) (v_ga : Nat → Nat → Int32) (v_ra : Nat → Nat → Int32) (p0 : Int32) (n9 : Nat) (v_sw1 : Nat → Nat → Int32) : va_W := [(sw, .inr (4, [.ref ga, .ref ra, .ref sw1, .ref sw2, .int (v_sw0 0 0)])), (sw1, .inl (cI, 256, .inl (v_sw0 1))), (sw2, .inl (cI, 21, .inl (v_sw0 2))), (ga, .inr (5, [.ref ga1, .ref ga2, .ref ga3, .ref ga4, .ref ga5, .int (v_ga 0 0), .int (v_ga 0 1), .int (v_ga 0 2)])), (ga1, .inl (cI, 10, .inl (v_ga 1))), (ga2, .inl (cI, 10, .inl (v_ga 2))), (ga3, .inl (cI, 10, .inl (v_ga 3))), (ga4, .inl (cI, 10, .inl (v_ga 4))), (ga5, .inl (cI, 5, .inl (v_ga 5))), (ra, .inr (2, [.ref ra1, .ref ra2, .ref ra3, .int (v_ra 0 0)])), (ra1, .inl (cI, 1 * 20, .inl (v_ra 1))), (ra2, .inl (cI, 1, .inl (v_ra 2))), (ra3, .inl (cI, 21, .inl (v_ra 3)))]
abbrev at_X4_putBytey (dC : Nat → ClassId) (dI : Nat → Nat → Nat) (cI cJ cB : ClassId) (sw sw1 sw2 ga ga1 ga2 ga3 ga4 ga5 ra ra1 ra2 ra3 : Nat) (sz : Nat) (v_sw0 : Nat → Nat → Int32) (v_ga : Nat → Nat → Int32) (v_ra : Nat → Nat → Int32) (p0 : Int32) (n9 : Nat) (v_sw1 : Nat → Nat → Int32) (u : (Nat → Nat → Int32)) (t : State) : Prop := match u with
  | v_sw => va_P (dC, dI) vwCl [(sw, .inr (4, [.ref ga, .ref ra, .ref sw1, .ref sw2, .int (v_sw 0 0)])), (sw1, .inl (cI, 256, .inl (v_sw 1))), (sw2, .inl (cI, 21, .inl (v_sw 2))), (ga, .inr (5, [.ref ga1, .ref ga2, .ref ga3, .ref ga4, .ref ga5, .int (v_ga 0 0), .int (v_ga 0 1), .int (v_ga 0 2)])), (ga1, .inl (cI, 10, .inl (v_ga 1))), (ga2, .inl (cI, 10, .inl (v_ga 2))), (ga3, .inl (cI, 10, .inl (v_ga 3))), (ga4, .inl (cI, 10, .inl (v_ga 4))), (ga5, .inl (cI, 5, .inl (v_ga 5))), (ra, .inr (2, [.ref ra1, .ref ra2, .ref ra3, .int (v_ra 0 0)])), (ra1, .inl (cI, 1 * 20, .inl (v_ra 1))), (ra2, .inl (cI, 1, .inl (v_ra 2))), (ra3, .inl (cI, 21, .inl (v_ra 3)))] t.heap ∧ va_K (dC, dI) vwCl (tyL cI cJ cB) t ∧ va_D (va_A (ww_X4_putBytey dC dI cI cJ cB sw sw1 sw2 ga ga1 ga2 ga3 ga4 ga5 ra ra1 ra2 ra3 sz v_sw0 v_ga v_ra p0 n9 v_sw1) sz) [(sw, .inr (4, [.ref ga, .ref ra, .ref sw1, .ref sw2, .int (v_sw 0 0)])), (sw1, .inl (cI, 256, .inl (v_sw 1))), (sw2, .inl (cI, 21, .inl (v_sw 2))), (ga, .inr (5, [.ref ga1, .ref ga2, .ref ga3, .ref ga4, .ref ga5, .int (v_ga 0 0), .int (v_ga 0 1), .int (v_ga 0 2)])), (ga1, .inl (cI, 10, .inl (v_ga 1))), (ga2, .inl (cI, 10, .inl (v_ga 2))), (ga3, .inl (cI, 10, .inl (v_ga 3))), (ga4, .inl (cI, 10, .inl (v_ga 4))), (ga5, .inl (cI, 5, .inl (v_ga 5))), (ra, .inr (2, [.ref ra1, .ref ra2, .ref ra3, .int (v_ra 0 0)])), (ra1, .inl (cI, 1 * 20, .inl (v_ra 1))), (ra2, .inl (cI, 1, .inl (v_ra 2))), (ra3, .inl (cI, 21, .inl (v_ra 3)))]
abbrev qc_X4_putBytey (dC : Nat → ClassId) (dI : Nat → Nat → Nat) (cI cJ cB : ClassId) (sw sw1 sw2 ga ga1 ga2 ga3 ga4 ga5 ra ra1 ra2 ra3 : Nat) (sz : Nat) (v_sw0 : Nat → Nat → Int32) (v_ga : Nat → Nat → Int32) (v_ra : Nat → Nat → Int32) (p0 : Int32) (n9 : Nat) (v_sw1 : Nat → Nat → Int32) : Array Value → State → Outcome → State → Prop := va_Qv (fun (u : (Nat → Nat → Int32)) => match u with | v_sw => (v_sw = v_sw1)) (at_X4_putBytey dC dI cI cJ cB sw sw1 sw2 ga ga1 ga2 ga3 ga4 ga5 ra ra1 ra2 ra3 sz v_sw0 v_ga v_ra p0 n9 v_sw1) (va_A (ww_X4_putBytey dC dI cI cJ cB sw sw1 sw2 ga ga1 ga2 ga3 ga4 ga5 ra ra1 ra2 ra3 sz v_sw0 v_ga v_ra p0 n9 v_sw1) sz)
abbrev pc_X4_putBytey (dC : Nat → ClassId) (dI : Nat → Nat → Nat) (cI cJ cB : ClassId) (sw sw1 sw2 ga ga1 ga2 ga3 ga4 ga5 ra ra1 ra2 ra3 : Nat) (sz : Nat) (v_sw0 : Nat → Nat → Int32) (v_ga : Nat → Nat → Int32) (v_ra : Nat → Nat → Int32) (p0 : Int32) (n9 : Nat) (v_sw1 : Nat → Nat → Int32) : Array Value → State → Prop := va_Pc [.ref sw, .int p0] (fun U => U.heap.size = sz ∧ NW U ∧ va_P (dC, dI) vwCl (ww_X4_putBytey dC dI cI cJ cB sw sw1 sw2 ga ga1 ga2 ga3 ga4 ga5 ra ra1 ra2 ra3 sz v_sw0 v_ga v_ra p0 n9 v_sw1) U.heap ∧ va_K (dC, dI) vwCl (tyL cI cJ cB) U ∧ va_D (fun _ => True) (ww_X4_putBytey dC dI cI cJ cB sw sw1 sw2 ga ga1 ga2 ga3 ga4 ga5 ra ra1 ra2 ra3 sz v_sw0 v_ga v_ra p0 n9 v_sw1))
abbrev rm_X4_putBytey : Room := { frames := 0, cells := 0, slots := 0, locals := 0 }
abbrev WW_X4_putBytey (p : Program) (l : Launch) (e : Env) (s : State) (m : MethodId) (below : List Frame) (meth : Method) (c : Code) (dC : Nat → ClassId) (dI : Nat → Nat → Nat) (cI cJ cB : ClassId) (sw sw1 sw2 ga ga1 ga2 ga3 ga4 ga5 ra ra1 ra2 ra3 : Nat) (sz : Nat) (v_sw0 : Nat → Nat → Int32) (v_ga : Nat → Nat → Int32) (v_ra : Nat → Nat → Int32) (p0 : Int32) (n9 : Nat) (v_sw1 : Nat → Nat → Int32) (H : Heap) (locs : List Loc) (g : JFrame) : Prop := W p l e rm_X4_putBytey s m ([.ref sw, .int p0] : List Value).toArray below meth c H locs 0 0 (MQ below (qc_X4_putBytey dC dI cI cJ cB sw sw1 sw2 ga ga1 ga2 ga3 ga4 ga5 ra ra1 ra2 ra3 sz v_sw0 v_ga v_ra p0 n9 v_sw1) ([.ref sw, .int p0] : List Value).toArray s 0 0 (va_A (ww_X4_putBytey dC dI cI cJ cB sw sw1 sw2 ga ga1 ga2 ga3 ga4 ga5 ra ra1 ra2 ra3 sz v_sw0 v_ga v_ra p0 n9 v_sw1) sz)) g
set_option maxHeartbeats 4000000 in
set_option maxRecDepth 100000 in
theorem c_X4_putBytey (l : Launch) (dC : Nat → ClassId) (dI : Nat → Nat → Nat) (cI cJ cB : ClassId) (sw sw1 sw2 ga ga1 ga2 ga3 ga4 ga5 ra ra1 ra2 ra3 : Nat) (sz : Nat) (v_sw0 : Nat → Nat → Int32) (v_ga : Nat → Nat → Int32) (v_ra : Nat → Nat → Int32) (p0 : Int32) (n9 : Nat) (v_sw1 : Nat → Nat → Int32) (hf : fx_X4_putByte n9 v_sw0 p0 = some (v_sw1)) : Met l yX4_putByte wo_X4_putBytey rm_X4_putBytey (pc_X4_putBytey dC dI cI cJ cB sw sw1 sw2 ga ga1 ga2 ga3 ga4 ga5 ra ra1 ra2 ra3 sz v_sw0 v_ga v_ra p0 n9 v_sw1) (qc_X4_putBytey dC dI cI cJ cB sw sw1 sw2 ga ga1 ga2 ga3 ga4 ga5 ra ra1 ra2 ra3 sz v_sw0 v_ga v_ra p0 n9 v_sw1) 0 0 (va_A (ww_X4_putBytey dC dI cI cJ cB sw sw1 sw2 ga ga1 ga2 ga3 ga4 ga5 ra ra1 ra2 ra3 sz v_sw0 v_ga v_ra p0 n9 v_sw1) sz) := by
  unfold fx_X4_putByte at hf
  refine Met.ofW (cc := cX4_putByte) (maxL := 2) (ret := none) (by decide) rfl ?_
  intro p e s m args below meth c s₁ B hml hv
  obtain ⟨rfl, hsz, hnw, hP, hK, hD0⟩ := hv
  have hx := B.exec
  have hb := B.bytes
  have hr := B.returns
  have hts := atoms_spec (ws := wo_X4_putBytey) B.pre
  have hown : s.vm.findClass RX4 = some m.cls := findClass_of_methodNamed B.named
  have hlocks := B.notSynchronized
  clear B
  subst hsz
  have hD := hD0.self (sz := s.heap.size)
  clear hD0
  have kk0_ := hts (.fieldLink RX4 34 "SumRewriter$Shown" "length" "I") (by decide +kernel)
  have kk1_ : ∀ w ∈ wsX40, w ∈ wo_X4_putBytey := fun _ h => (List.mem_cons_of_mem _ (List.mem_append_right _ h))
  have kk2_ := hts (.fieldLink RX4 20 "SumRewriter$Shown" "bytes" "[I") (by decide +kernel)
  have hA : ∀ q : Nat, s.heap.size ≤ q → (va_A (ww_X4_putBytey dC dI cI cJ cB sw sw1 sw2 ga ga1 ga2 ga3 ga4 ga5 ra ra1 ra2 ra3 s.heap.size v_sw0 v_ga v_ra p0 n9 v_sw1) s.heap.size) q := fun q h => Or.inr h
  have hS : va_S (va_A (ww_X4_putBytey dC dI cI cJ cB sw sw1 sw2 ga ga1 ga2 ga3 ga4 ga5 ra ra1 ra2 ra3 s.heap.size v_sw0 v_ga v_ra p0 n9 v_sw1) s.heap.size) s.heap s.heap [] := va_S.rf
  have hl := lv_entry ([.ref sw, .int p0]) (n := 2) (Nat.le_of_ble_eq_true rfl)
  rw [lg_entry_eq]
  generalize (lg_sl ([.ref sw, .int p0]) ++ List.replicate (2 - (lg_sl ([.ref sw, .int p0])).length) Slot.unset).toArray = ls at hl ⊢
  have hl : lv_has ls 2 [(0, .ref sw), (1, .int p0)] := hl
  have hP : va_P (dC, dI) vwCl [(sw, .inr (4, [.ref ga, .ref ra, .ref sw1, .ref sw2, .int (v_sw0 0 0)])), (sw1, .inl (cI, 256, .inl (v_sw0 1))), (sw2, .inl (cI, 21, .inl (v_sw0 2))), (ga, .inr (5, [.ref ga1, .ref ga2, .ref ga3, .ref ga4, .ref ga5, .int (v_ga 0 0), .int (v_ga 0 1), .int (v_ga 0 2)])), (ga1, .inl (cI, 10, .inl (v_ga 1))), (ga2, .inl (cI, 10, .inl (v_ga 2))), (ga3, .inl (cI, 10, .inl (v_ga 3))), (ga4, .inl (cI, 10, .inl (v_ga 4))), (ga5, .inl (cI, 5, .inl (v_ga 5))), (ra, .inr (2, [.ref ra1, .ref ra2, .ref ra3, .int (v_ra 0 0)])), (ra1, .inl (cI, 1 * 20, .inl (v_ra 1))), (ra2, .inl (cI, 1, .inl (v_ra 2))), (ra3, .inl (cI, 21, .inl (v_ra 3)))] s.heap := hP
  have hD : va_D (va_A (ww_X4_putBytey dC dI cI cJ cB sw sw1 sw2 ga ga1 ga2 ga3 ga4 ga5 ra ra1 ra2 ra3 s.heap.size v_sw0 v_ga v_ra p0 n9 v_sw1) s.heap.size) [(sw, .inr (4, [.ref ga, .ref ra, .ref sw1, .ref sw2, .int (v_sw0 0 0)])), (sw1, .inl (cI, 256, .inl (v_sw0 1))), (sw2, .inl (cI, 21, .inl (v_sw0 2))), (ga, .inr (5, [.ref ga1, .ref ga2, .ref ga3, .ref ga4, .ref ga5, .int (v_ga 0 0), .int (v_ga 0 1), .int (v_ga 0 2)])), (ga1, .inl (cI, 10, .inl (v_ga 1))), (ga2, .inl (cI, 10, .inl (v_ga 2))), (ga3, .inl (cI, 10, .inl (v_ga 3))), (ga4, .inl (cI, 10, .inl (v_ga 4))), (ga5, .inl (cI, 5, .inl (v_ga 5))), (ra, .inr (2, [.ref ra1, .ref ra2, .ref ra3, .int (v_ra 0 0)])), (ra1, .inl (cI, 1 * 20, .inl (v_ra 1))), (ra2, .inl (cI, 1, .inl (v_ra 2))), (ra3, .inl (cI, 21, .inl (v_ra 3)))] := hD
  obtain ⟨H, hH⟩ : ∃ H, H = s.heap := ⟨_, rfl⟩
  obtain ⟨locs, hlc⟩ : ∃ L : List Loc, L = [] := ⟨_, rfl⟩
  have hS : va_S (va_A (ww_X4_putBytey dC dI cI cJ cB sw sw1 sw2 ga ga1 ga2 ga3 ga4 ga5 ra ra1 ra2 ra3 s.heap.size v_sw0 v_ga v_ra p0 n9 v_sw1) s.heap.size) s.heap H locs := by rw [hH, hlc]; exact hS
  have hP : va_P (dC, dI) vwCl [(sw, .inr (4, [.ref ga, .ref ra, .ref sw1, .ref sw2, .int (v_sw0 0 0)])), (sw1, .inl (cI, 256, .inl (v_sw0 1))), (sw2, .inl (cI, 21, .inl (v_sw0 2))), (ga, .inr (5, [.ref ga1, .ref ga2, .ref ga3, .ref ga4, .ref ga5, .int (v_ga 0 0), .int (v_ga 0 1), .int (v_ga 0 2)])), (ga1, .inl (cI, 10, .inl (v_ga 1))), (ga2, .inl (cI, 10, .inl (v_ga 2))), (ga3, .inl (cI, 10, .inl (v_ga 3))), (ga4, .inl (cI, 10, .inl (v_ga 4))), (ga5, .inl (cI, 5, .inl (v_ga 5))), (ra, .inr (2, [.ref ra1, .ref ra2, .ref ra3, .int (v_ra 0 0)])), (ra1, .inl (cI, 1 * 20, .inl (v_ra 1))), (ra2, .inl (cI, 1, .inl (v_ra 2))), (ra3, .inl (cI, 21, .inl (v_ra 3)))] H := by rw [hH]; exact hP
  suffices hgo : WW_X4_putBytey p l e s m below meth c dC dI cI cJ cB sw sw1 sw2 ga ga1 ga2 ga3 ga4 ga5 ra ra1 ra2 ra3 s.heap.size v_sw0 v_ga v_ra p0 n9 v_sw1 H locs (F0 m 0 ls []) by rw [hH, hlc] at hgo; exact hgo
  clear hH hlc
  refine lv_aload_n hx hb dX4_putByte_0 rfl (lv_at hl 0 rfl) ?_
  refine va_get (D := (dC, dI)) (ci := 4) (v := .int (v_sw0 0 0)) (C := RX4) (T := TX4) (N := 5) hx hb hts kk1_ hown hK hP 0 rfl rfl 4 (by decide) kk0_ (fun _ h9 => h9) rfl dX4_putByte_1 ?_
  refine lv_if_lt (tgt := 37) hx hb dX4_putByte_4 (by decide) (fun c_1 => ?_) (fun c_1 => ?_)
  · replace hf := xi_t c_1 hf
    have hP9 := hP.sub (ws' := [(sw, .inr (4, [.ref ga, .ref ra, .ref sw1, .ref sw2, .int (v_sw0 0 0)])), (sw1, .inl (cI, 256, .inl (v_sw0 1))), (sw2, .inl (cI, 21, .inl (v_sw0 2))), (ga, .inr (5, [.ref ga1, .ref ga2, .ref ga3, .ref ga4, .ref ga5, .int (v_ga 0 0), .int (v_ga 0 1), .int (v_ga 0 2)])), (ga1, .inl (cI, 10, .inl (v_ga 1))), (ga2, .inl (cI, 10, .inl (v_ga 2))), (ga3, .inl (cI, 10, .inl (v_ga 3))), (ga4, .inl (cI, 10, .inl (v_ga 4))), (ga5, .inl (cI, 5, .inl (v_ga 5))), (ra, .inr (2, [.ref ra1, .ref ra2, .ref ra3, .int (v_ra 0 0)])), (ra1, .inl (cI, 1 * 20, .inl (v_ra 1))), (ra2, .inl (cI, 1, .inl (v_ra 2))), (ra3, .inl (cI, 21, .inl (v_ra 3)))]) [0, 1, 2, 3, 4, 5, 6, 7, 8, 9, 10, 11, 12] rfl
    have hD9 := hD.sub (ws' := [(sw, .inr (4, [.ref ga, .ref ra, .ref sw1, .ref sw2, .int (v_sw0 0 0)])), (sw1, .inl (cI, 256, .inl (v_sw0 1))), (sw2, .inl (cI, 21, .inl (v_sw0 2))), (ga, .inr (5, [.ref ga1, .ref ga2, .ref ga3, .ref ga4, .ref ga5, .int (v_ga 0 0), .int (v_ga 0 1), .int (v_ga 0 2)])), (ga1, .inl (cI, 10, .inl (v_ga 1))), (ga2, .inl (cI, 10, .inl (v_ga 2))), (ga3, .inl (cI, 10, .inl (v_ga 3))), (ga4, .inl (cI, 10, .inl (v_ga 4))), (ga5, .inl (cI, 5, .inl (v_ga 5))), (ra, .inr (2, [.ref ra1, .ref ra2, .ref ra3, .int (v_ra 0 0)])), (ra1, .inl (cI, 1 * 20, .inl (v_ra 1))), (ra2, .inl (cI, 1, .inl (v_ra 2))), (ra3, .inl (cI, 21, .inl (v_ra 3)))]) [0, 1, 2, 3, 4, 5, 6, 7, 8, 9, 10, 11, 12] (by decide) rfl
    have r9_0 : v_sw0 = v_sw1 := (Option.some.inj hf)
    exact W.vret hx hb hr (fun t ht hW => ⟨⟨v_sw0, rfl, r9_0, by rw [ht]; exact hP9, va_K.moved hW.alike hK, hD9⟩, hS.F ht⟩) hS.2.2 dX4_putByte_37
  · replace hf := xi_f c_1 hf
    refine lv_aload_n hx hb dX4_putByte_7 rfl (lv_at hl 0 rfl) ?_
    refine va_get (D := (dC, dI)) (ci := 4) (v := .int (v_sw0 0 0)) (C := RX4) (T := TX4) (N := 5) hx hb hts kk1_ hown hK hP 0 rfl rfl 4 (by decide) kk0_ (fun _ h9 => h9) rfl dX4_putByte_8 ?_
    refine lv_sipush (v := 256) hx hb dX4_putByte_11 (by decide) ?_
    refine lv_icmp_ge (tgt := 37) hx hb dX4_putByte_14 (by decide) (fun c_2 => ?_) (fun c_2 => ?_)
    · replace hf := xi_t c_2 hf
      have hP9 := hP.sub (ws' := [(sw, .inr (4, [.ref ga, .ref ra, .ref sw1, .ref sw2, .int (v_sw0 0 0)])), (sw1, .inl (cI, 256, .inl (v_sw0 1))), (sw2, .inl (cI, 21, .inl (v_sw0 2))), (ga, .inr (5, [.ref ga1, .ref ga2, .ref ga3, .ref ga4, .ref ga5, .int (v_ga 0 0), .int (v_ga 0 1), .int (v_ga 0 2)])), (ga1, .inl (cI, 10, .inl (v_ga 1))), (ga2, .inl (cI, 10, .inl (v_ga 2))), (ga3, .inl (cI, 10, .inl (v_ga 3))), (ga4, .inl (cI, 10, .inl (v_ga 4))), (ga5, .inl (cI, 5, .inl (v_ga 5))), (ra, .inr (2, [.ref ra1, .ref ra2, .ref ra3, .int (v_ra 0 0)])), (ra1, .inl (cI, 1 * 20, .inl (v_ra 1))), (ra2, .inl (cI, 1, .inl (v_ra 2))), (ra3, .inl (cI, 21, .inl (v_ra 3)))]) [0, 1, 2, 3, 4, 5, 6, 7, 8, 9, 10, 11, 12] rfl
      have hD9 := hD.sub (ws' := [(sw, .inr (4, [.ref ga, .ref ra, .ref sw1, .ref sw2, .int (v_sw0 0 0)])), (sw1, .inl (cI, 256, .inl (v_sw0 1))), (sw2, .inl (cI, 21, .inl (v_sw0 2))), (ga, .inr (5, [.ref ga1, .ref ga2, .ref ga3, .ref ga4, .ref ga5, .int (v_ga 0 0), .int (v_ga 0 1), .int (v_ga 0 2)])), (ga1, .inl (cI, 10, .inl (v_ga 1))), (ga2, .inl (cI, 10, .inl (v_ga 2))), (ga3, .inl (cI, 10, .inl (v_ga 3))), (ga4, .inl (cI, 10, .inl (v_ga 4))), (ga5, .inl (cI, 5, .inl (v_ga 5))), (ra, .inr (2, [.ref ra1, .ref ra2, .ref ra3, .int (v_ra 0 0)])), (ra1, .inl (cI, 1 * 20, .inl (v_ra 1))), (ra2, .inl (cI, 1, .inl (v_ra 2))), (ra3, .inl (cI, 21, .inl (v_ra 3)))]) [0, 1, 2, 3, 4, 5, 6, 7, 8, 9, 10, 11, 12] (by decide) rfl
      have r9_0 : v_sw0 = v_sw1 := (Option.some.inj hf)
      exact W.vret hx hb hr (fun t ht hW => ⟨⟨v_sw0, rfl, r9_0, by rw [ht]; exact hP9, va_K.moved hW.alike hK, hD9⟩, hS.F ht⟩) hS.2.2 dX4_putByte_37
    · replace hf := xi_f c_2 hf
      refine lv_aload_n hx hb dX4_putByte_17 rfl (lv_at hl 0 rfl) ?_
      refine va_get (D := (dC, dI)) (ci := 4) (v := .ref sw1) (C := RX4) (T := TX4) (N := 5) hx hb hts kk1_ hown hK hP 0 rfl rfl 2 (by decide) kk2_ (fun _ h9 => h9) rfl dX4_putByte_18 ?_
      refine lv_aload_n hx hb dX4_putByte_21 rfl (lv_at hl 0 rfl) ?_
      refine va_get (D := (dC, dI)) (ci := 4) (v := .int (v_sw0 0 0)) (C := RX4) (T := TX4) (N := 5) hx hb hts kk1_ hown hK hP 0 rfl rfl 4 (by decide) kk0_ (fun _ h9 => h9) rfl dX4_putByte_22 ?_
      refine lv_iload_n hx hb dX4_putByte_25 rfl (lv_at hl 1 rfl) ?_
      refine va_iast hx hb hK hP hD hS 1 0 rfl rfl (vp_in_iff.mpr (xwp_in hf)) dX4_putByte_26 (fun H locs hP hD hS => ?_)
      obtain ⟨v_sw_3, ev_sw_3⟩ : ∃ z, z = mu v_sw0 1 (v_sw0 0 0).toNatClampNeg p0 := ⟨_, rfl⟩
      have hP : va_P (dC, dI) vwCl [(sw, .inr (4, [.ref ga, .ref ra, .ref sw1, .ref sw2, .int (v_sw_3 0 0)])), (sw1, .inl (cI, 256, .inl (v_sw_3 1))), (sw2, .inl (cI, 21, .inl (v_sw_3 2))), (ga, .inr (5, [.ref ga1, .ref ga2, .ref ga3, .ref ga4, .ref ga5, .int (v_ga 0 0), .int (v_ga 0 1), .int (v_ga 0 2)])), (ga1, .inl (cI, 10, .inl (v_ga 1))), (ga2, .inl (cI, 10, .inl (v_ga 2))), (ga3, .inl (cI, 10, .inl (v_ga 3))), (ga4, .inl (cI, 10, .inl (v_ga 4))), (ga5, .inl (cI, 5, .inl (v_ga 5))), (ra, .inr (2, [.ref ra1, .ref ra2, .ref ra3, .int (v_ra 0 0)])), (ra1, .inl (cI, 1 * 20, .inl (v_ra 1))), (ra2, .inl (cI, 1, .inl (v_ra 2))), (ra3, .inl (cI, 21, .inl (v_ra 3)))] H := by rw [ev_sw_3]; exact hP
      have hD : va_D (va_A (ww_X4_putBytey dC dI cI cJ cB sw sw1 sw2 ga ga1 ga2 ga3 ga4 ga5 ra ra1 ra2 ra3 s.heap.size v_sw0 v_ga v_ra p0 n9 v_sw1) s.heap.size) [(sw, .inr (4, [.ref ga, .ref ra, .ref sw1, .ref sw2, .int (v_sw_3 0 0)])), (sw1, .inl (cI, 256, .inl (v_sw_3 1))), (sw2, .inl (cI, 21, .inl (v_sw_3 2))), (ga, .inr (5, [.ref ga1, .ref ga2, .ref ga3, .ref ga4, .ref ga5, .int (v_ga 0 0), .int (v_ga 0 1), .int (v_ga 0 2)])), (ga1, .inl (cI, 10, .inl (v_ga 1))), (ga2, .inl (cI, 10, .inl (v_ga 2))), (ga3, .inl (cI, 10, .inl (v_ga 3))), (ga4, .inl (cI, 10, .inl (v_ga 4))), (ga5, .inl (cI, 5, .inl (v_ga 5))), (ra, .inr (2, [.ref ra1, .ref ra2, .ref ra3, .int (v_ra 0 0)])), (ra1, .inl (cI, 1 * 20, .inl (v_ra 1))), (ra2, .inl (cI, 1, .inl (v_ra 2))), (ra3, .inl (cI, 21, .inl (v_ra 3)))] := by rw [ev_sw_3]; exact hD
      replace hf := xwp_to ev_sw_3 hf
      refine lv_aload_n hx hb dX4_putByte_27 rfl (lv_at hl 0 rfl) ?_
      refine lv_dup hx hb dX4_putByte_28 rfl ?_
      refine va_get (D := (dC, dI)) (ci := 4) (v := .int (v_sw_3 0 0)) (C := RX4) (T := TX4) (N := 5) hx hb hts kk1_ hown hK hP 0 rfl rfl 4 (by decide) kk0_ (fun _ h9 => h9) rfl dX4_putByte_29 ?_
      refine lv_iconst (v := 1) hx hb dX4_putByte_32 (by decide) ?_
      refine lv_iadd hx hb dX4_putByte_33 ?_
      refine lv_topi (fun y_4 ey_4 => ?_)
      replace hf := xl_to (v := (v_sw_3 0 0) + ((1 : Int32))) ey_4 hf
      refine va_put (D := (dC, dI)) (ci := 4) (v := .int y_4) (ty := .int) (C := RX4) (T := TX4) (N := 5) hx hb hts kk1_ tyX4 tyX4_ok nmX4 hown hK hP hD hS 0 rfl rfl 4 (by decide) kk0_ (fun _ h9 => h9) rfl (by decide +kernel) rfl rfl (Nat.le_of_ble_eq_true rfl) dX4_putByte_34 (fun H locs hP hD hS => ?_)
      obtain ⟨v_sw_5, ev_sw_5⟩ : ∃ z, z = mu v_sw_3 0 0 y_4 := ⟨_, rfl⟩
      have hP : va_P (dC, dI) vwCl [(sw, .inr (4, [.ref ga, .ref ra, .ref sw1, .ref sw2, .int (v_sw_5 0 0)])), (sw1, .inl (cI, 256, .inl (v_sw_5 1))), (sw2, .inl (cI, 21, .inl (v_sw_5 2))), (ga, .inr (5, [.ref ga1, .ref ga2, .ref ga3, .ref ga4, .ref ga5, .int (v_ga 0 0), .int (v_ga 0 1), .int (v_ga 0 2)])), (ga1, .inl (cI, 10, .inl (v_ga 1))), (ga2, .inl (cI, 10, .inl (v_ga 2))), (ga3, .inl (cI, 10, .inl (v_ga 3))), (ga4, .inl (cI, 10, .inl (v_ga 4))), (ga5, .inl (cI, 5, .inl (v_ga 5))), (ra, .inr (2, [.ref ra1, .ref ra2, .ref ra3, .int (v_ra 0 0)])), (ra1, .inl (cI, 1 * 20, .inl (v_ra 1))), (ra2, .inl (cI, 1, .inl (v_ra 2))), (ra3, .inl (cI, 21, .inl (v_ra 3)))] H := by rw [ev_sw_5]; exact hP
      have hD : va_D (va_A (ww_X4_putBytey dC dI cI cJ cB sw sw1 sw2 ga ga1 ga2 ga3 ga4 ga5 ra ra1 ra2 ra3 s.heap.size v_sw0 v_ga v_ra p0 n9 v_sw1) s.heap.size) [(sw, .inr (4, [.ref ga, .ref ra, .ref sw1, .ref sw2, .int (v_sw_5 0 0)])), (sw1, .inl (cI, 256, .inl (v_sw_5 1))), (sw2, .inl (cI, 21, .inl (v_sw_5 2))), (ga, .inr (5, [.ref ga1, .ref ga2, .ref ga3, .ref ga4, .ref ga5, .int (v_ga 0 0), .int (v_ga 0 1), .int (v_ga 0 2)])), (ga1, .inl (cI, 10, .inl (v_ga 1))), (ga2, .inl (cI, 10, .inl (v_ga 2))), (ga3, .inl (cI, 10, .inl (v_ga 3))), (ga4, .inl (cI, 10, .inl (v_ga 4))), (ga5, .inl (cI, 5, .inl (v_ga 5))), (ra, .inr (2, [.ref ra1, .ref ra2, .ref ra3, .int (v_ra 0 0)])), (ra1, .inl (cI, 1 * 20, .inl (v_ra 1))), (ra2, .inl (cI, 1, .inl (v_ra 2))), (ra3, .inl (cI, 21, .inl (v_ra 3)))] := by rw [ev_sw_5]; exact hD
      replace hf := xl_to ev_sw_5 hf
      have hP9 := hP.sub (ws' := [(sw, .inr (4, [.ref ga, .ref ra, .ref sw1, .ref sw2, .int (v_sw_5 0 0)])), (sw1, .inl (cI, 256, .inl (v_sw_5 1))), (sw2, .inl (cI, 21, .inl (v_sw_5 2))), (ga, .inr (5, [.ref ga1, .ref ga2, .ref ga3, .ref ga4, .ref ga5, .int (v_ga 0 0), .int (v_ga 0 1), .int (v_ga 0 2)])), (ga1, .inl (cI, 10, .inl (v_ga 1))), (ga2, .inl (cI, 10, .inl (v_ga 2))), (ga3, .inl (cI, 10, .inl (v_ga 3))), (ga4, .inl (cI, 10, .inl (v_ga 4))), (ga5, .inl (cI, 5, .inl (v_ga 5))), (ra, .inr (2, [.ref ra1, .ref ra2, .ref ra3, .int (v_ra 0 0)])), (ra1, .inl (cI, 1 * 20, .inl (v_ra 1))), (ra2, .inl (cI, 1, .inl (v_ra 2))), (ra3, .inl (cI, 21, .inl (v_ra 3)))]) [0, 1, 2, 3, 4, 5, 6, 7, 8, 9, 10, 11, 12] rfl
      have hD9 := hD.sub (ws' := [(sw, .inr (4, [.ref ga, .ref ra, .ref sw1, .ref sw2, .int (v_sw_5 0 0)])), (sw1, .inl (cI, 256, .inl (v_sw_5 1))), (sw2, .inl (cI, 21, .inl (v_sw_5 2))), (ga, .inr (5, [.ref ga1, .ref ga2, .ref ga3, .ref ga4, .ref ga5, .int (v_ga 0 0), .int (v_ga 0 1), .int (v_ga 0 2)])), (ga1, .inl (cI, 10, .inl (v_ga 1))), (ga2, .inl (cI, 10, .inl (v_ga 2))), (ga3, .inl (cI, 10, .inl (v_ga 3))), (ga4, .inl (cI, 10, .inl (v_ga 4))), (ga5, .inl (cI, 5, .inl (v_ga 5))), (ra, .inr (2, [.ref ra1, .ref ra2, .ref ra3, .int (v_ra 0 0)])), (ra1, .inl (cI, 1 * 20, .inl (v_ra 1))), (ra2, .inl (cI, 1, .inl (v_ra 2))), (ra3, .inl (cI, 21, .inl (v_ra 3)))]) [0, 1, 2, 3, 4, 5, 6, 7, 8, 9, 10, 11, 12] (by decide) rfl
      have r9_0 : v_sw_5 = v_sw1 := (Option.some.inj hf)
      exact W.vret hx hb hr (fun t ht hW => ⟨⟨v_sw_5, rfl, r9_0, by rw [ht]; exact hP9, va_K.moved hW.alike hK, hD9⟩, hS.F ht⟩) hS.2.2 dX4_putByte_37
def wo_X4_putNamey : List Cond := .code yX4_putName cX4_putName 4 none :: (([] : List Cond) ++ ((wsV RX4 64 RX4 yX4_putByte wo_X4_putBytey)))
set_option maxRecDepth 20000 in
theorem go_wo_X4_putNamey_0 : GoodIn wo_X4_putNamey (wsV RX4 64 RX4 yX4_putByte wo_X4_putBytey) := goodIn_sub (fun _ h => (List.mem_cons_of_mem _ (List.mem_append_right _ h))) (by decide +kernel)
abbrev ww_X4_putNamey (dC : Nat → ClassId) (dI : Nat → Nat → Nat) (cI cJ cB : ClassId) (sw sw1 sw2 ga ga1 ga2 ga3 ga4 ga5 ra ra1 ra2 ra3 : Nat) (sz : Nat) (v_sw0 : Nat → Nat → Int32) (v_ga : Nat → Nat → Int32) (v_ra : Nat → Nat → Int32) (p0 : Int32) (n9 : Nat) (v_sw1 : Nat → Nat → Int32) : va_W := [(sw, .inr (4, [.ref ga, .ref ra, .ref sw1, .ref sw2, .int (v_sw0 0 0)])), (sw1, .inl (cI, 256, .inl (v_sw0 1))), (sw2, .inl (cI, 21, .inl (v_sw0 2))), (ga, .inr (5, [.ref ga1, .ref ga2, .ref ga3, .ref ga4, .ref ga5, .int (v_ga 0 0), .int (v_ga 0 1), .int (v_ga 0 2)])), (ga1, .inl (cI, 10, .inl (v_ga 1))), (ga2, .inl (cI, 10, .inl (v_ga 2))), (ga3, .inl (cI, 10, .inl (v_ga 3))), (ga4, .inl (cI, 10, .inl (v_ga 4))), (ga5, .inl (cI, 5, .inl (v_ga 5))), (ra, .inr (2, [.ref ra1, .ref ra2, .ref ra3, .int (v_ra 0 0)])), (ra1, .inl (cI, 1 * 20, .inl (v_ra 1))), (ra2, .inl (cI, 1, .inl (v_ra 2))), (ra3, .inl (cI, 21, .inl (v_ra 3)))]
abbrev at_X4_putNamey (dC : Nat → ClassId) (dI : Nat → Nat → Nat) (cI cJ cB : ClassId) (sw sw1 sw2 ga ga1 ga2 ga3 ga4 ga5 ra ra1 ra2 ra3 : Nat) (sz : Nat) (v_sw0 : Nat → Nat → Int32) (v_ga : Nat → Nat → Int32) (v_ra : Nat → Nat → Int32) (p0 : Int32) (n9 : Nat) (v_sw1 : Nat → Nat → Int32) (u : (Nat → Nat → Int32)) (t : State) : Prop := match u with
  | v_sw => va_P (dC, dI) vwCl [(sw, .inr (4, [.ref ga, .ref ra, .ref sw1, .ref sw2, .int (v_sw 0 0)])), (sw1, .inl (cI, 256, .inl (v_sw 1))), (sw2, .inl (cI, 21, .inl (v_sw 2))), (ga, .inr (5, [.ref ga1, .ref ga2, .ref ga3, .ref ga4, .ref ga5, .int (v_ga 0 0), .int (v_ga 0 1), .int (v_ga 0 2)])), (ga1, .inl (cI, 10, .inl (v_ga 1))), (ga2, .inl (cI, 10, .inl (v_ga 2))), (ga3, .inl (cI, 10, .inl (v_ga 3))), (ga4, .inl (cI, 10, .inl (v_ga 4))), (ga5, .inl (cI, 5, .inl (v_ga 5))), (ra, .inr (2, [.ref ra1, .ref ra2, .ref ra3, .int (v_ra 0 0)])), (ra1, .inl (cI, 1 * 20, .inl (v_ra 1))), (ra2, .inl (cI, 1, .inl (v_ra 2))), (ra3, .inl (cI, 21, .inl (v_ra 3)))] t.heap ∧ va_K (dC, dI) vwCl (tyL cI cJ cB) t ∧ va_D (va_A (ww_X4_putNamey dC dI cI cJ cB sw sw1 sw2 ga ga1 ga2 ga3 ga4 ga5 ra ra1 ra2 ra3 sz v_sw0 v_ga v_ra p0 n9 v_sw1) sz) [(sw, .inr (4, [.ref ga, .ref ra, .ref sw1, .ref sw2, .int (v_sw 0 0)])), (sw1, .inl (cI, 256, .inl (v_sw 1))), (sw2, .inl (cI, 21, .inl (v_sw 2))), (ga, .inr (5, [.ref ga1, .ref ga2, .ref ga3, .ref ga4, .ref ga5, .int (v_ga 0 0), .int (v_ga 0 1), .int (v_ga 0 2)])), (ga1, .inl (cI, 10, .inl (v_ga 1))), (ga2, .inl (cI, 10, .inl (v_ga 2))), (ga3, .inl (cI, 10, .inl (v_ga 3))), (ga4, .inl (cI, 10, .inl (v_ga 4))), (ga5, .inl (cI, 5, .inl (v_ga 5))), (ra, .inr (2, [.ref ra1, .ref ra2, .ref ra3, .int (v_ra 0 0)])), (ra1, .inl (cI, 1 * 20, .inl (v_ra 1))), (ra2, .inl (cI, 1, .inl (v_ra 2))), (ra3, .inl (cI, 21, .inl (v_ra 3)))]
abbrev qc_X4_putNamey (dC : Nat → ClassId) (dI : Nat → Nat → Nat) (cI cJ cB : ClassId) (sw sw1 sw2 ga ga1 ga2 ga3 ga4 ga5 ra ra1 ra2 ra3 : Nat) (sz : Nat) (v_sw0 : Nat → Nat → Int32) (v_ga : Nat → Nat → Int32) (v_ra : Nat → Nat → Int32) (p0 : Int32) (n9 : Nat) (v_sw1 : Nat → Nat → Int32) : Array Value → State → Outcome → State → Prop := va_Qv (fun (u : (Nat → Nat → Int32)) => match u with | v_sw => (v_sw = v_sw1)) (at_X4_putNamey dC dI cI cJ cB sw sw1 sw2 ga ga1 ga2 ga3 ga4 ga5 ra ra1 ra2 ra3 sz v_sw0 v_ga v_ra p0 n9 v_sw1) (va_A (ww_X4_putNamey dC dI cI cJ cB sw sw1 sw2 ga ga1 ga2 ga3 ga4 ga5 ra ra1 ra2 ra3 sz v_sw0 v_ga v_ra p0 n9 v_sw1) sz)
abbrev pc_X4_putNamey (dC : Nat → ClassId) (dI : Nat → Nat → Nat) (cI cJ cB : ClassId) (sw sw1 sw2 ga ga1 ga2 ga3 ga4 ga5 ra ra1 ra2 ra3 : Nat) (sz : Nat) (v_sw0 : Nat → Nat → Int32) (v_ga : Nat → Nat → Int32) (v_ra : Nat → Nat → Int32) (p0 : Int32) (n9 : Nat) (v_sw1 : Nat → Nat → Int32) : Array Value → State → Prop := va_Pc [.ref sw, .int p0] (fun U => U.heap.size = sz ∧ NW U ∧ va_P (dC, dI) vwCl (ww_X4_putNamey dC dI cI cJ cB sw sw1 sw2 ga ga1 ga2 ga3 ga4 ga5 ra ra1 ra2 ra3 sz v_sw0 v_ga v_ra p0 n9 v_sw1) U.heap ∧ va_K (dC, dI) vwCl (tyL cI cJ cB) U ∧ va_D (fun _ => True) (ww_X4_putNamey dC dI cI cJ cB sw sw1 sw2 ga ga1 ga2 ga3 ga4 ga5 ra ra1 ra2 ra3 sz v_sw0 v_ga v_ra p0 n9 v_sw1))
abbrev rm_X4_putNamey : Room := { frames := 1, cells := 0, slots := 0, locals := 21 }
abbrev WW_X4_putNamey (p : Program) (l : Launch) (e : Env) (s : State) (m : MethodId) (below : List Frame) (meth : Method) (c : Code) (dC : Nat → ClassId) (dI : Nat → Nat → Nat) (cI cJ cB : ClassId) (sw sw1 sw2 ga ga1 ga2 ga3 ga4 ga5 ra ra1 ra2 ra3 : Nat) (sz : Nat) (v_sw0 : Nat → Nat → Int32) (v_ga : Nat → Nat → Int32) (v_ra : Nat → Nat → Int32) (p0 : Int32) (n9 : Nat) (v_sw1 : Nat → Nat → Int32) (H : Heap) (locs : List Loc) (g : JFrame) : Prop := W p l e rm_X4_putNamey s m ([.ref sw, .int p0] : List Value).toArray below meth c H locs 0 0 (MQ below (qc_X4_putNamey dC dI cI cJ cB sw sw1 sw2 ga ga1 ga2 ga3 ga4 ga5 ra ra1 ra2 ra3 sz v_sw0 v_ga v_ra p0 n9 v_sw1) ([.ref sw, .int p0] : List Value).toArray s 0 0 (va_A (ww_X4_putNamey dC dI cI cJ cB sw sw1 sw2 ga ga1 ga2 ga3 ga4 ga5 ra ra1 ra2 ra3 sz v_sw0 v_ga v_ra p0 n9 v_sw1) sz)) g
set_option maxHeartbeats 4000000 in
set_option maxRecDepth 100000 in
theorem c_X4_putNamey (l : Launch) (dC : Nat → ClassId) (dI : Nat → Nat → Nat) (cI cJ cB : ClassId) (sw sw1 sw2 ga ga1 ga2 ga3 ga4 ga5 ra ra1 ra2 ra3 : Nat) (sz : Nat) (v_sw0 : Nat → Nat → Int32) (v_ga : Nat → Nat → Int32) (v_ra : Nat → Nat → Int32) (p0 : Int32) (n9 : Nat) (v_sw1 : Nat → Nat → Int32) (hf : fx_X4_putName n9 v_sw0 p0 = some (v_sw1)) : Met l yX4_putName wo_X4_putNamey rm_X4_putNamey (pc_X4_putNamey dC dI cI cJ cB sw sw1 sw2 ga ga1 ga2 ga3 ga4 ga5 ra ra1 ra2 ra3 sz v_sw0 v_ga v_ra p0 n9 v_sw1) (qc_X4_putNamey dC dI cI cJ cB sw sw1 sw2 ga ga1 ga2 ga3 ga4 ga5 ra ra1 ra2 ra3 sz v_sw0 v_ga v_ra p0 n9 v_sw1) 0 0 (va_A (ww_X4_putNamey dC dI cI cJ cB sw sw1 sw2 ga ga1 ga2 ga3 ga4 ga5 ra ra1 ra2 ra3 sz v_sw0 v_ga v_ra p0 n9 v_sw1) sz) := by
  unfold fx_X4_putName at hf
  refine Met.ofW (cc := cX4_putName) (maxL := 4) (ret := none) (by decide) rfl ?_
  intro p e s m args below meth c s₁ B hml hv
  obtain ⟨rfl, hsz, hnw, hP, hK, hD0⟩ := hv
  have hx := B.exec
  have hb := B.bytes
  have hr := B.returns
  have hts := atoms_spec (ws := wo_X4_putNamey) B.pre
  have hown : s.vm.findClass RX4 = some m.cls := findClass_of_methodNamed B.named
  have hlocks := B.notSynchronized
  clear B
  subst hsz
  have hD := hD0.self (sz := s.heap.size)
  clear hD0
  have hA : ∀ q : Nat, s.heap.size ≤ q → (va_A (ww_X4_putNamey dC dI cI cJ cB sw sw1 sw2 ga ga1 ga2 ga3 ga4 ga5 ra ra1 ra2 ra3 s.heap.size v_sw0 v_ga v_ra p0 n9 v_sw1) s.heap.size) q := fun q h => Or.inr h
  have hS : va_S (va_A (ww_X4_putNamey dC dI cI cJ cB sw sw1 sw2 ga ga1 ga2 ga3 ga4 ga5 ra ra1 ra2 ra3 s.heap.size v_sw0 v_ga v_ra p0 n9 v_sw1) s.heap.size) s.heap s.heap [] := va_S.rf
  have hl := lv_entry ([.ref sw, .int p0]) (n := 4) (Nat.le_of_ble_eq_true rfl)
  rw [lg_entry_eq]
  generalize (lg_sl ([.ref sw, .int p0]) ++ List.replicate (4 - (lg_sl ([.ref sw, .int p0])).length) Slot.unset).toArray = ls at hl ⊢
  have hl : lv_has ls 4 [(0, .ref sw), (1, .int p0)] := hl
  have hP : va_P (dC, dI) vwCl [(sw, .inr (4, [.ref ga, .ref ra, .ref sw1, .ref sw2, .int (v_sw0 0 0)])), (sw1, .inl (cI, 256, .inl (v_sw0 1))), (sw2, .inl (cI, 21, .inl (v_sw0 2))), (ga, .inr (5, [.ref ga1, .ref ga2, .ref ga3, .ref ga4, .ref ga5, .int (v_ga 0 0), .int (v_ga 0 1), .int (v_ga 0 2)])), (ga1, .inl (cI, 10, .inl (v_ga 1))), (ga2, .inl (cI, 10, .inl (v_ga 2))), (ga3, .inl (cI, 10, .inl (v_ga 3))), (ga4, .inl (cI, 10, .inl (v_ga 4))), (ga5, .inl (cI, 5, .inl (v_ga 5))), (ra, .inr (2, [.ref ra1, .ref ra2, .ref ra3, .int (v_ra 0 0)])), (ra1, .inl (cI, 1 * 20, .inl (v_ra 1))), (ra2, .inl (cI, 1, .inl (v_ra 2))), (ra3, .inl (cI, 21, .inl (v_ra 3)))] s.heap := hP
  have hD : va_D (va_A (ww_X4_putNamey dC dI cI cJ cB sw sw1 sw2 ga ga1 ga2 ga3 ga4 ga5 ra ra1 ra2 ra3 s.heap.size v_sw0 v_ga v_ra p0 n9 v_sw1) s.heap.size) [(sw, .inr (4, [.ref ga, .ref ra, .ref sw1, .ref sw2, .int (v_sw0 0 0)])), (sw1, .inl (cI, 256, .inl (v_sw0 1))), (sw2, .inl (cI, 21, .inl (v_sw0 2))), (ga, .inr (5, [.ref ga1, .ref ga2, .ref ga3, .ref ga4, .ref ga5, .int (v_ga 0 0), .int (v_ga 0 1), .int (v_ga 0 2)])), (ga1, .inl (cI, 10, .inl (v_ga 1))), (ga2, .inl (cI, 10, .inl (v_ga 2))), (ga3, .inl (cI, 10, .inl (v_ga 3))), (ga4, .inl (cI, 10, .inl (v_ga 4))), (ga5, .inl (cI, 5, .inl (v_ga 5))), (ra, .inr (2, [.ref ra1, .ref ra2, .ref ra3, .int (v_ra 0 0)])), (ra1, .inl (cI, 1 * 20, .inl (v_ra 1))), (ra2, .inl (cI, 1, .inl (v_ra 2))), (ra3, .inl (cI, 21, .inl (v_ra 3)))] := hD
  obtain ⟨H, hH⟩ : ∃ H, H = s.heap := ⟨_, rfl⟩
  obtain ⟨locs, hlc⟩ : ∃ L : List Loc, L = [] := ⟨_, rfl⟩
  have hS : va_S (va_A (ww_X4_putNamey dC dI cI cJ cB sw sw1 sw2 ga ga1 ga2 ga3 ga4 ga5 ra ra1 ra2 ra3 s.heap.size v_sw0 v_ga v_ra p0 n9 v_sw1) s.heap.size) s.heap H locs := by rw [hH, hlc]; exact hS
  have hP : va_P (dC, dI) vwCl [(sw, .inr (4, [.ref ga, .ref ra, .ref sw1, .ref sw2, .int (v_sw0 0 0)])), (sw1, .inl (cI, 256, .inl (v_sw0 1))), (sw2, .inl (cI, 21, .inl (v_sw0 2))), (ga, .inr (5, [.ref ga1, .ref ga2, .ref ga3, .ref ga4, .ref ga5, .int (v_ga 0 0), .int (v_ga 0 1), .int (v_ga 0 2)])), (ga1, .inl (cI, 10, .inl (v_ga 1))), (ga2, .inl (cI, 10, .inl (v_ga 2))), (ga3, .inl (cI, 10, .inl (v_ga 3))), (ga4, .inl (cI, 10, .inl (v_ga 4))), (ga5, .inl (cI, 5, .inl (v_ga 5))), (ra, .inr (2, [.ref ra1, .ref ra2, .ref ra3, .int (v_ra 0 0)])), (ra1, .inl (cI, 1 * 20, .inl (v_ra 1))), (ra2, .inl (cI, 1, .inl (v_ra 2))), (ra3, .inl (cI, 21, .inl (v_ra 3)))] H := by rw [hH]; exact hP
  suffices hgo : WW_X4_putNamey p l e s m below meth c dC dI cI cJ cB sw sw1 sw2 ga ga1 ga2 ga3 ga4 ga5 ra ra1 ra2 ra3 s.heap.size v_sw0 v_ga v_ra p0 n9 v_sw1 H locs (F0 m 0 ls []) by rw [hH, hlc] at hgo; exact hgo
  clear hH hlc
  have L_3 : ∀ (N_3 : Nat), ∀ (x2 : Int32) (v_sw : Nat → Nat → Int32), lx_X4_putName_3 n9 p0 N_3 x2 v_sw = some (v_sw1) → ∀ (H : Heap) (locs : List Loc), va_P (dC, dI) vwCl [(sw, .inr (4, [.ref ga, .ref ra, .ref sw1, .ref sw2, .int (v_sw 0 0)])), (sw1, .inl (cI, 256, .inl (v_sw 1))), (sw2, .inl (cI, 21, .inl (v_sw 2))), (ga, .inr (5, [.ref ga1, .ref ga2, .ref ga3, .ref ga4, .ref ga5, .int (v_ga 0 0), .int (v_ga 0 1), .int (v_ga 0 2)])), (ga1, .inl (cI, 10, .inl (v_ga 1))), (ga2, .inl (cI, 10, .inl (v_ga 2))), (ga3, .inl (cI, 10, .inl (v_ga 3))), (ga4, .inl (cI, 10, .inl (v_ga 4))), (ga5, .inl (cI, 5, .inl (v_ga 5))), (ra, .inr (2, [.ref ra1, .ref ra2, .ref ra3, .int (v_ra 0 0)])), (ra1, .inl (cI, 1 * 20, .inl (v_ra 1))), (ra2, .inl (cI, 1, .inl (v_ra 2))), (ra3, .inl (cI, 21, .inl (v_ra 3)))] H → va_D (va_A (ww_X4_putNamey dC dI cI cJ cB sw sw1 sw2 ga ga1 ga2 ga3 ga4 ga5 ra ra1 ra2 ra3 s.heap.size v_sw0 v_ga v_ra p0 n9 v_sw1) s.heap.size) [(sw, .inr (4, [.ref ga, .ref ra, .ref sw1, .ref sw2, .int (v_sw 0 0)])), (sw1, .inl (cI, 256, .inl (v_sw 1))), (sw2, .inl (cI, 21, .inl (v_sw 2))), (ga, .inr (5, [.ref ga1, .ref ga2, .ref ga3, .ref ga4, .ref ga5, .int (v_ga 0 0), .int (v_ga 0 1), .int (v_ga 0 2)])), (ga1, .inl (cI, 10, .inl (v_ga 1))), (ga2, .inl (cI, 10, .inl (v_ga 2))), (ga3, .inl (cI, 10, .inl (v_ga 3))), (ga4, .inl (cI, 10, .inl (v_ga 4))), (ga5, .inl (cI, 5, .inl (v_ga 5))), (ra, .inr (2, [.ref ra1, .ref ra2, .ref ra3, .int (v_ra 0 0)])), (ra1, .inl (cI, 1 * 20, .inl (v_ra 1))), (ra2, .inl (cI, 1, .inl (v_ra 2))), (ra3, .inl (cI, 21, .inl (v_ra 3)))] → va_S (va_A (ww_X4_putNamey dC dI cI cJ cB sw sw1 sw2 ga ga1 ga2 ga3 ga4 ga5 ra ra1 ra2 ra3 s.heap.size v_sw0 v_ga v_ra p0 n9 v_sw1) s.heap.size) s.heap H locs → ∀ ls : Array Slot, lv_has ls 4 [(0, .ref sw), (1, .int p0), (2, .int x2)] → WW_X4_putNamey p l e s m below meth c dC dI cI cJ cB sw sw1 sw2 ga ga1 ga2 ga3 ga4 ga5 ra ra1 ra2 ra3 s.heap.size v_sw0 v_ga v_ra p0 n9 v_sw1 H locs (F0 m 3 ls []) := by
    intro N_3
    induction N_3 with
    | zero => intro x2 v_sw hf; exact xn_to hf
    | succ N_3 ih_3 =>
      intro x2 v_sw hf H locs hP hD hS ls hl
      replace hf : bx_X4_putName_3 n9 p0 (lx_X4_putName_3 n9 p0 N_3) x2 v_sw = some (v_sw1) := hf
      generalize lx_X4_putName_3 n9 p0 N_3 = k_3 at hf ih_3
      unfold bx_X4_putName_3 at hf
      refine lv_iload_n hx hb dX4_putName_3 rfl (lv_at hl 2 rfl) ?_
      refine lv_if_lt (tgt := 34) hx hb dX4_putName_4 (by decide) (fun c_1 => ?_) (fun c_1 => ?_)
      · replace hf := xi_t c_1 hf
        have hP9 := hP.sub (ws' := [(sw, .inr (4, [.ref ga, .ref ra, .ref sw1, .ref sw2, .int (v_sw 0 0)])), (sw1, .inl (cI, 256, .inl (v_sw 1))), (sw2, .inl (cI, 21, .inl (v_sw 2))), (ga, .inr (5, [.ref ga1, .ref ga2, .ref ga3, .ref ga4, .ref ga5, .int (v_ga 0 0), .int (v_ga 0 1), .int (v_ga 0 2)])), (ga1, .inl (cI, 10, .inl (v_ga 1))), (ga2, .inl (cI, 10, .inl (v_ga 2))), (ga3, .inl (cI, 10, .inl (v_ga 3))), (ga4, .inl (cI, 10, .inl (v_ga 4))), (ga5, .inl (cI, 5, .inl (v_ga 5))), (ra, .inr (2, [.ref ra1, .ref ra2, .ref ra3, .int (v_ra 0 0)])), (ra1, .inl (cI, 1 * 20, .inl (v_ra 1))), (ra2, .inl (cI, 1, .inl (v_ra 2))), (ra3, .inl (cI, 21, .inl (v_ra 3)))]) [0, 1, 2, 3, 4, 5, 6, 7, 8, 9, 10, 11, 12] rfl
        have hD9 := hD.sub (ws' := [(sw, .inr (4, [.ref ga, .ref ra, .ref sw1, .ref sw2, .int (v_sw 0 0)])), (sw1, .inl (cI, 256, .inl (v_sw 1))), (sw2, .inl (cI, 21, .inl (v_sw 2))), (ga, .inr (5, [.ref ga1, .ref ga2, .ref ga3, .ref ga4, .ref ga5, .int (v_ga 0 0), .int (v_ga 0 1), .int (v_ga 0 2)])), (ga1, .inl (cI, 10, .inl (v_ga 1))), (ga2, .inl (cI, 10, .inl (v_ga 2))), (ga3, .inl (cI, 10, .inl (v_ga 3))), (ga4, .inl (cI, 10, .inl (v_ga 4))), (ga5, .inl (cI, 5, .inl (v_ga 5))), (ra, .inr (2, [.ref ra1, .ref ra2, .ref ra3, .int (v_ra 0 0)])), (ra1, .inl (cI, 1 * 20, .inl (v_ra 1))), (ra2, .inl (cI, 1, .inl (v_ra 2))), (ra3, .inl (cI, 21, .inl (v_ra 3)))]) [0, 1, 2, 3, 4, 5, 6, 7, 8, 9, 10, 11, 12] (by decide) rfl
        have r9_0 : v_sw = v_sw1 := (Option.some.inj hf)
        exact W.vret hx hb hr (fun t ht hW => ⟨⟨v_sw, rfl, r9_0, by rw [ht]; exact hP9, va_K.moved hW.alike hK, hD9⟩, hS.F ht⟩) hS.2.2 dX4_putName_34
      · replace hf := xi_f c_1 hf
        refine lv_iload_n hx hb dX4_putName_7 rfl (lv_at hl 1 rfl) ?_
        refine lv_iload_n hx hb dX4_putName_8 rfl (lv_at hl 2 rfl) ?_
        refine lv_iushr hx hb dX4_putName_9 rfl ?_
        refine lv_topi (fun y_2 ey_2 => ?_)
        replace hf := xl_to (v := (p0.toUInt32 >>> (x2.toUInt32 &&& Int32.toUInt32 31)).toInt32) ey_2 hf
        refine lv_bipush (v := 31) hx hb dX4_putName_10 (by decide) ?_
        refine lv_iand hx hb dX4_putName_12 ?_
        refine lv_topi (fun y_3 ey_3 => ?_)
        replace hf := xl_to (v := y_2 &&& ((31 : Int32))) ey_3 hf
        refine lv_istore_n (lv' := [(3, .int y_3), (0, .ref sw), (1, .int p0), (2, .int x2)]) hx hb dX4_putName_13 rfl hl (by decide) rfl (fun ls hl => ?_)
        refine lv_iload_n hx hb dX4_putName_14 rfl (lv_at hl 0 rfl) ?_
        refine lv_if_le (tgt := 28) hx hb dX4_putName_15 (by decide) (fun c_4 => ?_) (fun c_4 => ?_)
        · replace hf := xi_t c_4 hf
          obtain ⟨x2_5, ex2_5⟩ : ∃ y : Int32, y = x2 + (-5) := ⟨_, rfl⟩
          refine lv_iinc (v := x2_5) (lv' := [(2, .int x2_5), (3, .int y_3), (0, .ref sw), (1, .int p0)]) hx hb dX4_putName_28 hl (k := 3) rfl (by rw [ex2_5]; rfl) (by decide) rfl (fun ls hl => ?_)
          replace hf := xl_to ex2_5 hf
          refine lv_goto (tgt := 3) hx hb dX4_putName_31 (by decide) ?_
          exact ih_3 x2_5 v_sw hf _ _ (hP.sub [0, 1, 2, 3, 4, 5, 6, 7, 8, 9, 10, 11, 12] rfl) (hD.sub [0, 1, 2, 3, 4, 5, 6, 7, 8, 9, 10, 11, 12] (by decide) rfl) hS ls (lv_sub hl [2, 3, 0] rfl)
        · replace hf := xi_f c_4 hf
          refine lv_aload_n hx hb dX4_putName_18 rfl (lv_at hl 1 rfl) ?_
          refine lv_bipush (v := 97) hx hb dX4_putName_19 (by decide) ?_
          refine lv_iload_n hx hb dX4_putName_21 rfl (lv_at hl 0 rfl) ?_
          refine lv_iadd hx hb dX4_putName_22 ?_
          refine lv_topi (fun y_6 ey_6 => ?_)
          replace hf := xl_to (v := ((97 : Int32)) + y_3) ey_6 hf
          refine lv_iconst (v := 1) hx hb dX4_putName_23 (by decide) ?_
          refine lv_isub hx hb dX4_putName_24 ?_
          refine lv_topi (fun y_7 ey_7 => ?_)
          replace hf := xl_to (v := y_6 - ((1 : Int32))) ey_7 hf
          replace hf := xb1_to hf
          obtain ⟨o_8, g_9, hf⟩ := hf
          have hPc := hP.sub (ws' := [(sw, .inr (4, [.ref ga, .ref ra, .ref sw1, .ref sw2, .int (v_sw 0 0)])), (sw1, .inl (cI, 256, .inl (v_sw 1))), (sw2, .inl (cI, 21, .inl (v_sw 2))), (ga, .inr (5, [.ref ga1, .ref ga2, .ref ga3, .ref ga4, .ref ga5, .int (v_ga 0 0), .int (v_ga 0 1), .int (v_ga 0 2)])), (ga1, .inl (cI, 10, .inl (v_ga 1))), (ga2, .inl (cI, 10, .inl (v_ga 2))), (ga3, .inl (cI, 10, .inl (v_ga 3))), (ga4, .inl (cI, 10, .inl (v_ga 4))), (ga5, .inl (cI, 5, .inl (v_ga 5))), (ra, .inr (2, [.ref ra1, .ref ra2, .ref ra3, .int (v_ra 0 0)])), (ra1, .inl (cI, 1 * 20, .inl (v_ra 1))), (ra2, .inl (cI, 1, .inl (v_ra 2))), (ra3, .inl (cI, 21, .inl (v_ra 3)))]) [0, 1, 2, 3, 4, 5, 6, 7, 8, 9, 10, 11, 12] rfl
          have hDc := hD.sub (ws' := [(sw, .inr (4, [.ref ga, .ref ra, .ref sw1, .ref sw2, .int (v_sw 0 0)])), (sw1, .inl (cI, 256, .inl (v_sw 1))), (sw2, .inl (cI, 21, .inl (v_sw 2))), (ga, .inr (5, [.ref ga1, .ref ga2, .ref ga3, .ref ga4, .ref ga5, .int (v_ga 0 0), .int (v_ga 0 1), .int (v_ga 0 2)])), (ga1, .inl (cI, 10, .inl (v_ga 1))), (ga2, .inl (cI, 10, .inl (v_ga 2))), (ga3, .inl (cI, 10, .inl (v_ga 3))), (ga4, .inl (cI, 10, .inl (v_ga 4))), (ga5, .inl (cI, 5, .inl (v_ga 5))), (ra, .inr (2, [.ref ra1, .ref ra2, .ref ra3, .int (v_ra 0 0)])), (ra1, .inl (cI, 1 * 20, .inl (v_ra 1))), (ra2, .inl (cI, 1, .inl (v_ra 2))), (ra3, .inl (cI, 21, .inl (v_ra 3)))]) [0, 1, 2, 3, 4, 5, 6, 7, 8, 9, 10, 11, 12] (by decide) rfl
          have hFc := va_free (wc := [(sw, .inr (4, [.ref ga, .ref ra, .ref sw1, .ref sw2, .int (v_sw 0 0)])), (sw1, .inl (cI, 256, .inl (v_sw 1))), (sw2, .inl (cI, 21, .inl (v_sw 2))), (ga, .inr (5, [.ref ga1, .ref ga2, .ref ga3, .ref ga4, .ref ga5, .int (v_ga 0 0), .int (v_ga 0 1), .int (v_ga 0 2)])), (ga1, .inl (cI, 10, .inl (v_ga 1))), (ga2, .inl (cI, 10, .inl (v_ga 2))), (ga3, .inl (cI, 10, .inl (v_ga 3))), (ga4, .inl (cI, 10, .inl (v_ga 4))), (ga5, .inl (cI, 5, .inl (v_ga 5))), (ra, .inr (2, [.ref ra1, .ref ra2, .ref ra3, .int (v_ra 0 0)])), (ra1, .inl (cI, 1 * 20, .inl (v_ra 1))), (ra2, .inl (cI, 1, .inl (v_ra 2))), (ra3, .inl (cI, 21, .inl (v_ra 3)))]) hD hS hA [0, 1, 2, 3, 4, 5, 6, 7, 8, 9, 10, 11, 12] rfl
          refine va_callv (va_runV (As := [.int y_7]) (rest := []) ⟨hx, hb, hml, hown, hts⟩ (c_X4_putBytey l dC dI cI cJ cB sw sw1 sw2 ga ga1 ga2 ga3 ga4 ga5 ra ra1 ra2 ra3 H.size v_sw v_ga v_ra y_7 n9 o_8 g_9) (cwV 1 hts go_wo_X4_putNamey_0 rfl rfl rfl (by decide +kernel) ⟨Nat.le_of_ble_eq_true rfl, Nat.le_of_ble_eq_true rfl⟩) ⟨fun a U g mk q => by obtain ⟨q0, q1, qN, qP, qK, qD⟩ := q; exact ⟨q0, q1, NW.calling qN, qP, va_K.moved (u := U) (U := U.calling g mk a) (Vm.Alike.refl U.vm) qK, qD⟩, va_recv hK hPc (ci := 4) (q0 := 0) rfl rfl, fun U hU hW => ⟨rfl, by rw [hU], NW.warm hW hnw, by rw [hU]; exact hPc, va_K.moved hW.alike hK, hDc.weaken (fun _ _ _ _ => trivial)⟩⟩ rfl rfl hl.1 rfl (lv_room (Nat.le_of_ble_eq_true rfl)) dX4_putName_25 ⟨Nat.zero_le _, Nat.zero_le _⟩) hS (fun q _ h => hFc q h) hFc (fun u t H1 locs ht hvm hw hB hz1 hk1 hS => ?_)
          obtain ⟨v_sw_11, rfl⟩ : ∃ z, z = u := ⟨_, rfl⟩
          obtain ⟨hP1, hK1, hD1⟩ := hB
          rw [ht] at hP1
          have hw : (v_sw_11 = o_8) := hw
          subst hw
          obtain ⟨hP, hD⟩ := va_join (wr := []) (w1 := [(sw, .inr (4, [.ref ga, .ref ra, .ref sw1, .ref sw2, .int (v_sw_11 0 0)])), (sw1, .inl (cI, 256, .inl (v_sw_11 1))), (sw2, .inl (cI, 21, .inl (v_sw_11 2))), (ga, .inr (5, [.ref ga1, .ref ga2, .ref ga3, .ref ga4, .ref ga5, .int (v_ga 0 0), .int (v_ga 0 1), .int (v_ga 0 2)])), (ga1, .inl (cI, 10, .inl (v_ga 1))), (ga2, .inl (cI, 10, .inl (v_ga 2))), (ga3, .inl (cI, 10, .inl (v_ga 3))), (ga4, .inl (cI, 10, .inl (v_ga 4))), (ga5, .inl (cI, 5, .inl (v_ga 5))), (ra, .inr (2, [.ref ra1, .ref ra2, .ref ra3, .int (v_ra 0 0)])), (ra1, .inl (cI, 1 * 20, .inl (v_ra 1))), (ra2, .inl (cI, 1, .inl (v_ra 2))), (ra3, .inl (cI, 21, .inl (v_ra 3)))]) hP hD [0, 1, 2, 3, 4, 5, 6, 7, 8, 9, 10, 11, 12] [] rfl rfl (by decide) (by decide) hk1 hFc hP1 hD1
          generalize H1 = H at hP hS ⊢
          have hP : va_P (dC, dI) vwCl [(sw, .inr (4, [.ref ga, .ref ra, .ref sw1, .ref sw2, .int (v_sw_11 0 0)])), (sw1, .inl (cI, 256, .inl (v_sw_11 1))), (sw2, .inl (cI, 21, .inl (v_sw_11 2))), (ga, .inr (5, [.ref ga1, .ref ga2, .ref ga3, .ref ga4, .ref ga5, .int (v_ga 0 0), .int (v_ga 0 1), .int (v_ga 0 2)])), (ga1, .inl (cI, 10, .inl (v_ga 1))), (ga2, .inl (cI, 10, .inl (v_ga 2))), (ga3, .inl (cI, 10, .inl (v_ga 3))), (ga4, .inl (cI, 10, .inl (v_ga 4))), (ga5, .inl (cI, 5, .inl (v_ga 5))), (ra, .inr (2, [.ref ra1, .ref ra2, .ref ra3, .int (v_ra 0 0)])), (ra1, .inl (cI, 1 * 20, .inl (v_ra 1))), (ra2, .inl (cI, 1, .inl (v_ra 2))), (ra3, .inl (cI, 21, .inl (v_ra 3)))] H := hP
          have hD : va_D (va_A (ww_X4_putNamey dC dI cI cJ cB sw sw1 sw2 ga ga1 ga2 ga3 ga4 ga5 ra ra1 ra2 ra3 s.heap.size v_sw0 v_ga v_ra p0 n9 v_sw1) s.heap.size) [(sw, .inr (4, [.ref ga, .ref ra, .ref sw1, .ref sw2, .int (v_sw_11 0 0)])), (sw1, .inl (cI, 256, .inl (v_sw_11 1))), (sw2, .inl (cI, 21, .inl (v_sw_11 2))), (ga, .inr (5, [.ref ga1, .ref ga2, .ref ga3, .ref ga4, .ref ga5, .int (v_ga 0 0), .int (v_ga 0 1), .int (v_ga 0 2)])), (ga1, .inl (cI, 10, .inl (v_ga 1))), (ga2, .inl (cI, 10, .inl (v_ga 2))), (ga3, .inl (cI, 10, .inl (v_ga 3))), (ga4, .inl (cI, 10, .inl (v_ga 4))), (ga5, .inl (cI, 5, .inl (v_ga 5))), (ra, .inr (2, [.ref ra1, .ref ra2, .ref ra3, .int (v_ra 0 0)])), (ra1, .inl (cI, 1 * 20, .inl (v_ra 1))), (ra2, .inl (cI, 1, .inl (v_ra 2))), (ra3, .inl (cI, 21, .inl (v_ra 3)))] := hD
          clear hPc hDc hFc hP1 hK1 hD1 hk1 hz1 ht hvm g_9
          obtain ⟨x2_13, ex2_13⟩ : ∃ y : Int32, y = x2 + (-5) := ⟨_, rfl⟩
          refine lv_iinc (v := x2_13) (lv' := [(2, .int x2_13), (3, .int y_3), (0, .ref sw), (1, .int p0)]) hx hb dX4_putName_28 hl (k := 3) rfl (by rw [ex2_13]; rfl) (by decide) rfl (fun ls hl => ?_)
          replace hf := xl_to ex2_13 hf
          refine lv_goto (tgt := 3) hx hb dX4_putName_31 (by decide) ?_
          exact ih_3 x2_13 v_sw_11 hf _ _ (hP.sub [0, 1, 2, 3, 4, 5, 6, 7, 8, 9, 10, 11, 12] rfl) (hD.sub [0, 1, 2, 3, 4, 5, 6, 7, 8, 9, 10, 11, 12] (by decide) rfl) hS ls (lv_sub hl [2, 3, 0] rfl)
  refine lv_bipush (v := 25) hx hb dX4_putName_0 (by decide) ?_
  refine lv_istore_n (lv' := [(2, .int ((25 : Int32))), (0, .ref sw), (1, .int p0)]) hx hb dX4_putName_2 rfl hl (by decide) rfl (fun ls hl => ?_)
  exact L_3 n9 ((25 : Int32)) v_sw0 hf _ _ (hP.sub [0, 1, 2, 3, 4, 5, 6, 7, 8, 9, 10, 11, 12] rfl) (hD.sub [0, 1, 2, 3, 4, 5, 6, 7, 8, 9, 10, 11, 12] (by decide) rfl) hS ls (lv_sub hl [1, 2, 0] rfl)
def wo_X4_closeAlly : List Cond := .code yX4_closeAll cX4_closeAll 3 (some .int) :: (([.fieldLink RX4 24 "SumRewriter$Shown" "awaited" "[I"] : List Cond) ++ ((wsX40) ++ ((wsV RX4 64 RX4 yX4_putByte wo_X4_putBytey))))
set_option maxRecDepth 20000 in
theorem go_wo_X4_closeAlly_1 : GoodIn wo_X4_closeAlly (wsV RX4 64 RX4 yX4_putByte wo_X4_putBytey) := goodIn_sub (fun _ h => (List.mem_cons_of_mem _ (List.mem_append_right _ (List.mem_append_right _ h)))) (by decide +kernel)
abbrev ww_X4_closeAlly (dC : Nat → ClassId) (dI : Nat → Nat → Nat) (cI cJ cB : ClassId) (sw sw1 sw2 ga ga1 ga2 ga3 ga4 ga5 ra ra1 ra2 ra3 : Nat) (sz : Nat) (v_sw0 : Nat → Nat → Int32) (v_ga : Nat → Nat → Int32) (v_ra : Nat → Nat → Int32) (p0 : Int32) (n9 : Nat) (r1 : Int32) (v_sw1 : Nat → Nat → Int32) : va_W := [(sw, .inr (4, [.ref ga, .ref ra, .ref sw1, .ref sw2, .int (v_sw0 0 0)])), (sw1, .inl (cI, 256, .inl (v_sw0 1))), (sw2, .inl (cI, 21, .inl (v_sw0 2))), (ga, .inr (5, [.ref ga1, .ref ga2, .ref ga3, .ref ga4, .ref ga5, .int (v_ga 0 0), .int (v_ga 0 1), .int (v_ga 0 2)])), (ga1, .inl (cI, 10, .inl (v_ga 1))), (ga2, .inl (cI, 10, .inl (v_ga 2))), (ga3, .inl (cI, 10, .inl (v_ga 3))), (ga4, .inl (cI, 10, .inl (v_ga 4))), (ga5, .inl (cI, 5, .inl (v_ga 5))), (ra, .inr (2, [.ref ra1, .ref ra2, .ref ra3, .int (v_ra 0 0)])), (ra1, .inl (cI, 1 * 20, .inl (v_ra 1))), (ra2, .inl (cI, 1, .inl (v_ra 2))), (ra3, .inl (cI, 21, .inl (v_ra 3)))]
abbrev at_X4_closeAlly (dC : Nat → ClassId) (dI : Nat → Nat → Nat) (cI cJ cB : ClassId) (sw sw1 sw2 ga ga1 ga2 ga3 ga4 ga5 ra ra1 ra2 ra3 : Nat) (sz : Nat) (v_sw0 : Nat → Nat → Int32) (v_ga : Nat → Nat → Int32) (v_ra : Nat → Nat → Int32) (p0 : Int32) (n9 : Nat) (r1 : Int32) (v_sw1 : Nat → Nat → Int32) (u : (Nat → Nat → Int32)) (t : State) : Prop := match u with
  | v_sw => va_P (dC, dI) vwCl [(sw, .inr (4, [.ref ga, .ref ra, .ref sw1, .ref sw2, .int (v_sw 0 0)])), (sw1, .inl (cI, 256, .inl (v_sw 1))), (sw2, .inl (cI, 21, .inl (v_sw 2))), (ga, .inr (5, [.ref ga1, .ref ga2, .ref ga3, .ref ga4, .ref ga5, .int (v_ga 0 0), .int (v_ga 0 1), .int (v_ga 0 2)])), (ga1, .inl (cI, 10, .inl (v_ga 1))), (ga2, .inl (cI, 10, .inl (v_ga 2))), (ga3, .inl (cI, 10, .inl (v_ga 3))), (ga4, .inl (cI, 10, .inl (v_ga 4))), (ga5, .inl (cI, 5, .inl (v_ga 5))), (ra, .inr (2, [.ref ra1, .ref ra2, .ref ra3, .int (v_ra 0 0)])), (ra1, .inl (cI, 1 * 20, .inl (v_ra 1))), (ra2, .inl (cI, 1, .inl (v_ra 2))), (ra3, .inl (cI, 21, .inl (v_ra 3)))] t.heap ∧ va_K (dC, dI) vwCl (tyL cI cJ cB) t ∧ va_D (va_A (ww_X4_closeAlly dC dI cI cJ cB sw sw1 sw2 ga ga1 ga2 ga3 ga4 ga5 ra ra1 ra2 ra3 sz v_sw0 v_ga v_ra p0 n9 r1 v_sw1) sz) [(sw, .inr (4, [.ref ga, .ref ra, .ref sw1, .ref sw2, .int (v_sw 0 0)])), (sw1, .inl (cI, 256, .inl (v_sw 1))), (sw2, .inl (cI, 21, .inl (v_sw 2))), (ga, .inr (5, [.ref ga1, .ref ga2, .ref ga3, .ref ga4, .ref ga5, .int (v_ga 0 0), .int (v_ga 0 1), .int (v_ga 0 2)])), (ga1, .inl (cI, 10, .inl (v_ga 1))), (ga2, .inl (cI, 10, .inl (v_ga 2))), (ga3, .inl (cI, 10, .inl (v_ga 3))), (ga4, .inl (cI, 10, .inl (v_ga 4))), (ga5, .inl (cI, 5, .inl (v_ga 5))), (ra, .inr (2, [.ref ra1, .ref ra2, .ref ra3, .int (v_ra 0 0)])), (ra1, .inl (cI, 1 * 20, .inl (v_ra 1))), (ra2, .inl (cI, 1, .inl (v_ra 2))), (ra3, .inl (cI, 21, .inl (v_ra 3)))]
abbrev qc_X4_closeAlly (dC : Nat → ClassId) (dI : Nat → Nat → Nat) (cI cJ cB : ClassId) (sw sw1 sw2 ga ga1 ga2 ga3 ga4 ga5 ra ra1 ra2 ra3 : Nat) (sz : Nat) (v_sw0 : Nat → Nat → Int32) (v_ga : Nat → Nat → Int32) (v_ra : Nat → Nat → Int32) (p0 : Int32) (n9 : Nat) (r1 : Int32) (v_sw1 : Nat → Nat → Int32) : Array Value → State → Outcome → State → Prop := va_Qi (fun (r : Int32) (u : (Nat → Nat → Int32)) => match u with | v_sw => (r = r1) ∧ (v_sw = v_sw1)) (at_X4_closeAlly dC dI cI cJ cB sw sw1 sw2 ga ga1 ga2 ga3 ga4 ga5 ra ra1 ra2 ra3 sz v_sw0 v_ga v_ra p0 n9 r1 v_sw1) (va_A (ww_X4_closeAlly dC dI cI cJ cB sw sw1 sw2 ga ga1 ga2 ga3 ga4 ga5 ra ra1 ra2 ra3 sz v_sw0 v_ga v_ra p0 n9 r1 v_sw1) sz)
abbrev pc_X4_closeAlly (dC : Nat → ClassId) (dI : Nat → Nat → Nat) (cI cJ cB : ClassId) (sw sw1 sw2 ga ga1 ga2 ga3 ga4 ga5 ra ra1 ra2 ra3 : Nat) (sz : Nat) (v_sw0 : Nat → Nat → Int32) (v_ga : Nat → Nat → Int32) (v_ra : Nat → Nat → Int32) (p0 : Int32) (n9 : Nat) (r1 : Int32) (v_sw1 : Nat → Nat → Int32) : Array Value → State → Prop := va_Pc [.ref sw, .int p0] (fun U => U.heap.size = sz ∧ NW U ∧ va_P (dC, dI) vwCl (ww_X4_closeAlly dC dI cI cJ cB sw sw1 sw2 ga ga1 ga2 ga3 ga4 ga5 ra ra1 ra2 ra3 sz v_sw0 v_ga v_ra p0 n9 r1 v_sw1) U.heap ∧ va_K (dC, dI) vwCl (tyL cI cJ cB) U ∧ va_D (fun _ => True) (ww_X4_closeAlly dC dI cI cJ cB sw sw1 sw2 ga ga1 ga2 ga3 ga4 ga5 ra ra1 ra2 ra3 sz v_sw0 v_ga v_ra p0 n9 r1 v_sw1))
abbrev rm_X4_closeAlly : Room := { frames := 1, cells := 0, slots := 0, locals := 21 }
abbrev WW_X4_closeAlly (p : Program) (l : Launch) (e : Env) (s : State) (m : MethodId) (below : List Frame) (meth : Method) (c : Code) (dC : Nat → ClassId) (dI : Nat → Nat → Nat) (cI cJ cB : ClassId) (sw sw1 sw2 ga ga1 ga2 ga3 ga4 ga5 ra ra1 ra2 ra3 : Nat) (sz : Nat) (v_sw0 : Nat → Nat → Int32) (v_ga : Nat → Nat → Int32) (v_ra : Nat → Nat → Int32) (p0 : Int32) (n9 : Nat) (r1 : Int32) (v_sw1 : Nat → Nat → Int32) (H : Heap) (locs : List Loc) (g : JFrame) : Prop := W p l e rm_X4_closeAlly s m ([.ref sw, .int p0] : List Value).toArray below meth c H locs 0 0 (MQ below (qc_X4_closeAlly dC dI cI cJ cB sw sw1 sw2 ga ga1 ga2 ga3 ga4 ga5 ra ra1 ra2 ra3 sz v_sw0 v_ga v_ra p0 n9 r1 v_sw1) ([.ref sw, .int p0] : List Value).toArray s 0 0 (va_A (ww_X4_closeAlly dC dI cI cJ cB sw sw1 sw2 ga ga1 ga2 ga3 ga4 ga5 ra ra1 ra2 ra3 sz v_sw0 v_ga v_ra p0 n9 r1 v_sw1) sz)) g
set_option maxHeartbeats 4000000 in
set_option maxRecDepth 100000 in
theorem c_X4_closeAlly (l : Launch) (dC : Nat → ClassId) (dI : Nat → Nat → Nat) (cI cJ cB : ClassId) (sw sw1 sw2 ga ga1 ga2 ga3 ga4 ga5 ra ra1 ra2 ra3 : Nat) (sz : Nat) (v_sw0 : Nat → Nat → Int32) (v_ga : Nat → Nat → Int32) (v_ra : Nat → Nat → Int32) (p0 : Int32) (n9 : Nat) (r1 : Int32) (v_sw1 : Nat → Nat → Int32) (hf : fx_X4_closeAll n9 v_sw0 p0 = some (r1, v_sw1)) : Met l yX4_closeAll wo_X4_closeAlly rm_X4_closeAlly (pc_X4_closeAlly dC dI cI cJ cB sw sw1 sw2 ga ga1 ga2 ga3 ga4 ga5 ra ra1 ra2 ra3 sz v_sw0 v_ga v_ra p0 n9 r1 v_sw1) (qc_X4_closeAlly dC dI cI cJ cB sw sw1 sw2 ga ga1 ga2 ga3 ga4 ga5 ra ra1 ra2 ra3 sz v_sw0 v_ga v_ra p0 n9 r1 v_sw1) 0 0 (va_A (ww_X4_closeAlly dC dI cI cJ cB sw sw1 sw2 ga ga1 ga2 ga3 ga4 ga5 ra ra1 ra2 ra3 sz v_sw0 v_ga v_ra p0 n9 r1 v_sw1) sz) := by
  unfold fx_X4_closeAll at hf
  refine Met.ofW (cc := cX4_closeAll) (maxL := 3) (ret := (some .int)) (by decide) rfl ?_
  intro p e s m args below meth c s₁ B hml hv
  obtain ⟨rfl, hsz, hnw, hP, hK, hD0⟩ := hv
  have hx := B.exec
  have hb := B.bytes
  have hr := B.returns
  have hts := atoms_spec (ws := wo_X4_closeAlly) B.pre
  have hown : s.vm.findClass RX4 = some m.cls := findClass_of_methodNamed B.named
  have hlocks := B.notSynchronized
  clear B
  subst hsz
  have hD := hD0.self (sz := s.heap.size)
  clear hD0
  have kk0_ := hts (.fieldLink RX4 24 "SumRewriter$Shown" "awaited" "[I") (by decide +kernel)
  have kk1_ : ∀ w ∈ wsX40, w ∈ wo_X4_closeAlly := fun _ h => (List.mem_cons_of_mem _ (List.mem_append_right _ (List.mem_append_left _ h)))
  have hA : ∀ q : Nat, s.heap.size ≤ q → (va_A (ww_X4_closeAlly dC dI cI cJ cB sw sw1 sw2 ga ga1 ga2 ga3 ga4 ga5 ra ra1 ra2 ra3 s.heap.size v_sw0 v_ga v_ra p0 n9 r1 v_sw1) s.heap.size) q := fun q h => Or.inr h
  have hS : va_S (va_A (ww_X4_closeAlly dC dI cI cJ cB sw sw1 sw2 ga ga1 ga2 ga3 ga4 ga5 ra ra1 ra2 ra3 s.heap.size v_sw0 v_ga v_ra p0 n9 r1 v_sw1) s.heap.size) s.heap s.heap [] := va_S.rf
  have hl := lv_entry ([.ref sw, .int p0]) (n := 3) (Nat.le_of_ble_eq_true rfl)
  rw [lg_entry_eq]
  generalize (lg_sl ([.ref sw, .int p0]) ++ List.replicate (3 - (lg_sl ([.ref sw, .int p0])).length) Slot.unset).toArray = ls at hl ⊢
  have hl : lv_has ls 3 [(0, .ref sw), (1, .int p0)] := hl
  have hP : va_P (dC, dI) vwCl [(sw, .inr (4, [.ref ga, .ref ra, .ref sw1, .ref sw2, .int (v_sw0 0 0)])), (sw1, .inl (cI, 256, .inl (v_sw0 1))), (sw2, .inl (cI, 21, .inl (v_sw0 2))), (ga, .inr (5, [.ref ga1, .ref ga2, .ref ga3, .ref ga4, .ref ga5, .int (v_ga 0 0), .int (v_ga 0 1), .int (v_ga 0 2)])), (ga1, .inl (cI, 10, .inl (v_ga 1))), (ga2, .inl (cI, 10, .inl (v_ga 2))), (ga3, .inl (cI, 10, .inl (v_ga 3))), (ga4, .inl (cI, 10, .inl (v_ga 4))), (ga5, .inl (cI, 5, .inl (v_ga 5))), (ra, .inr (2, [.ref ra1, .ref ra2, .ref ra3, .int (v_ra 0 0)])), (ra1, .inl (cI, 1 * 20, .inl (v_ra 1))), (ra2, .inl (cI, 1, .inl (v_ra 2))), (ra3, .inl (cI, 21, .inl (v_ra 3)))] s.heap := hP
  have hD : va_D (va_A (ww_X4_closeAlly dC dI cI cJ cB sw sw1 sw2 ga ga1 ga2 ga3 ga4 ga5 ra ra1 ra2 ra3 s.heap.size v_sw0 v_ga v_ra p0 n9 r1 v_sw1) s.heap.size) [(sw, .inr (4, [.ref ga, .ref ra, .ref sw1, .ref sw2, .int (v_sw0 0 0)])), (sw1, .inl (cI, 256, .inl (v_sw0 1))), (sw2, .inl (cI, 21, .inl (v_sw0 2))), (ga, .inr (5, [.ref ga1, .ref ga2, .ref ga3, .ref ga4, .ref ga5, .int (v_ga 0 0), .int (v_ga 0 1), .int (v_ga 0 2)])), (ga1, .inl (cI, 10, .inl (v_ga 1))), (ga2, .inl (cI, 10, .inl (v_ga 2))), (ga3, .inl (cI, 10, .inl (v_ga 3))), (ga4, .inl (cI, 10, .inl (v_ga 4))), (ga5, .inl (cI, 5, .inl (v_ga 5))), (ra, .inr (2, [.ref ra1, .ref ra2, .ref ra3, .int (v_ra 0 0)])), (ra1, .inl (cI, 1 * 20, .inl (v_ra 1))), (ra2, .inl (cI, 1, .inl (v_ra 2))), (ra3, .inl (cI, 21, .inl (v_ra 3)))] := hD
  obtain ⟨H, hH⟩ : ∃ H, H = s.heap := ⟨_, rfl⟩
  obtain ⟨locs, hlc⟩ : ∃ L : List Loc, L = [] := ⟨_, rfl⟩
  have hS : va_S (va_A (ww_X4_closeAlly dC dI cI cJ cB sw sw1 sw2 ga ga1 ga2 ga3 ga4 ga5 ra ra1 ra2 ra3 s.heap.size v_sw0 v_ga v_ra p0 n9 r1 v_sw1) s.heap.size) s.heap H locs := by rw [hH, hlc]; exact hS
  have hP : va_P (dC, dI) vwCl [(sw, .inr (4, [.ref ga, .ref ra, .ref sw1, .ref sw2, .int (v_sw0 0 0)])), (sw1, .inl (cI, 256, .inl (v_sw0 1))), (sw2, .inl (cI, 21, .inl (v_sw0 2))), (ga, .inr (5, [.ref ga1, .ref ga2, .ref ga3, .ref ga4, .ref ga5, .int (v_ga 0 0), .int (v_ga 0 1), .int (v_ga 0 2)])), (ga1, .inl (cI, 10, .inl (v_ga 1))), (ga2, .inl (cI, 10, .inl (v_ga 2))), (ga3, .inl (cI, 10, .inl (v_ga 3))), (ga4, .inl (cI, 10, .inl (v_ga 4))), (ga5, .inl (cI, 5, .inl (v_ga 5))), (ra, .inr (2, [.ref ra1, .ref ra2, .ref ra3, .int (v_ra 0 0)])), (ra1, .inl (cI, 1 * 20, .inl (v_ra 1))), (ra2, .inl (cI, 1, .inl (v_ra 2))), (ra3, .inl (cI, 21, .inl (v_ra 3)))] H := by rw [hH]; exact hP
  suffices hgo : WW_X4_closeAlly p l e s m below meth c dC dI cI cJ cB sw sw1 sw2 ga ga1 ga2 ga3 ga4 ga5 ra ra1 ra2 ra3 s.heap.size v_sw0 v_ga v_ra p0 n9 r1 v_sw1 H locs (F0 m 0 ls []) by rw [hH, hlc] at hgo; exact hgo
  clear hH hlc
  have L_2 : ∀ (N_2 : Nat), ∀ (x2 : Int32) (v_sw : Nat → Nat → Int32), lx_X4_closeAll_2 n9 p0 N_2 x2 v_sw = some (r1, v_sw1) → ∀ (H : Heap) (locs : List Loc), va_P (dC, dI) vwCl [(sw, .inr (4, [.ref ga, .ref ra, .ref sw1, .ref sw2, .int (v_sw 0 0)])), (sw1, .inl (cI, 256, .inl (v_sw 1))), (sw2, .inl (cI, 21, .inl (v_sw 2))), (ga, .inr (5, [.ref ga1, .ref ga2, .ref ga3, .ref ga4, .ref ga5, .int (v_ga 0 0), .int (v_ga 0 1), .int (v_ga 0 2)])), (ga1, .inl (cI, 10, .inl (v_ga 1))), (ga2, .inl (cI, 10, .inl (v_ga 2))), (ga3, .inl (cI, 10, .inl (v_ga 3))), (ga4, .inl (cI, 10, .inl (v_ga 4))), (ga5, .inl (cI, 5, .inl (v_ga 5))), (ra, .inr (2, [.ref ra1, .ref ra2, .ref ra3, .int (v_ra 0 0)])), (ra1, .inl (cI, 1 * 20, .inl (v_ra 1))), (ra2, .inl (cI, 1, .inl (v_ra 2))), (ra3, .inl (cI, 21, .inl (v_ra 3)))] H → va_D (va_A (ww_X4_closeAlly dC dI cI cJ cB sw sw1 sw2 ga ga1 ga2 ga3 ga4 ga5 ra ra1 ra2 ra3 s.heap.size v_sw0 v_ga v_ra p0 n9 r1 v_sw1) s.heap.size) [(sw, .inr (4, [.ref ga, .ref ra, .ref sw1, .ref sw2, .int (v_sw 0 0)])), (sw1, .inl (cI, 256, .inl (v_sw 1))), (sw2, .inl (cI, 21, .inl (v_sw 2))), (ga, .inr (5, [.ref ga1, .ref ga2, .ref ga3, .ref ga4, .ref ga5, .int (v_ga 0 0), .int (v_ga 0 1), .int (v_ga 0 2)])), (ga1, .inl (cI, 10, .inl (v_ga 1))), (ga2, .inl (cI, 10, .inl (v_ga 2))), (ga3, .inl (cI, 10, .inl (v_ga 3))), (ga4, .inl (cI, 10, .inl (v_ga 4))), (ga5, .inl (cI, 5, .inl (v_ga 5))), (ra, .inr (2, [.ref ra1, .ref ra2, .ref ra3, .int (v_ra 0 0)])), (ra1, .inl (cI, 1 * 20, .inl (v_ra 1))), (ra2, .inl (cI, 1, .inl (v_ra 2))), (ra3, .inl (cI, 21, .inl (v_ra 3)))] → va_S (va_A (ww_X4_closeAlly dC dI cI cJ cB sw sw1 sw2 ga ga1 ga2 ga3 ga4 ga5 ra ra1 ra2 ra3 s.heap.size v_sw0 v_ga v_ra p0 n9 r1 v_sw1) s.heap.size) s.heap H locs → ∀ ls : Array Slot, lv_has ls 3 [(0, .ref sw), (1, .int p0), (2, .int x2)] → WW_X4_closeAlly p l e s m below meth c dC dI cI cJ cB sw sw1 sw2 ga ga1 ga2 ga3 ga4 ga5 ra ra1 ra2 ra3 s.heap.size v_sw0 v_ga v_ra p0 n9 r1 v_sw1 H locs (F0 m 2 ls []) := by
    intro N_2
    induction N_2 with
    | zero => intro x2 v_sw hf; exact xn_to hf
    | succ N_2 ih_2 =>
      intro x2 v_sw hf H locs hP hD hS ls hl
      replace hf : bx_X4_closeAll_2 n9 p0 (lx_X4_closeAll_2 n9 p0 N_2) x2 v_sw = some (r1, v_sw1) := hf
      generalize lx_X4_closeAll_2 n9 p0 N_2 = k_2 at hf ih_2
      unfold bx_X4_closeAll_2 at hf
      refine lv_iload_n hx hb dX4_closeAll_2 rfl (lv_at hl 2 rfl) ?_
      refine lv_if_le (tgt := 52) hx hb dX4_closeAll_3 (by decide) (fun c_1 => ?_) (fun c_1 => ?_)
      · replace hf := xi_t c_1 hf
        refine lv_iload_n hx hb dX4_closeAll_52 rfl (lv_at hl 2 rfl) ?_
        have hP9 := hP.sub (ws' := [(sw, .inr (4, [.ref ga, .ref ra, .ref sw1, .ref sw2, .int (v_sw 0 0)])), (sw1, .inl (cI, 256, .inl (v_sw 1))), (sw2, .inl (cI, 21, .inl (v_sw 2))), (ga, .inr (5, [.ref ga1, .ref ga2, .ref ga3, .ref ga4, .ref ga5, .int (v_ga 0 0), .int (v_ga 0 1), .int (v_ga 0 2)])), (ga1, .inl (cI, 10, .inl (v_ga 1))), (ga2, .inl (cI, 10, .inl (v_ga 2))), (ga3, .inl (cI, 10, .inl (v_ga 3))), (ga4, .inl (cI, 10, .inl (v_ga 4))), (ga5, .inl (cI, 5, .inl (v_ga 5))), (ra, .inr (2, [.ref ra1, .ref ra2, .ref ra3, .int (v_ra 0 0)])), (ra1, .inl (cI, 1 * 20, .inl (v_ra 1))), (ra2, .inl (cI, 1, .inl (v_ra 2))), (ra3, .inl (cI, 21, .inl (v_ra 3)))]) [0, 1, 2, 3, 4, 5, 6, 7, 8, 9, 10, 11, 12] rfl
        have hD9 := hD.sub (ws' := [(sw, .inr (4, [.ref ga, .ref ra, .ref sw1, .ref sw2, .int (v_sw 0 0)])), (sw1, .inl (cI, 256, .inl (v_sw 1))), (sw2, .inl (cI, 21, .inl (v_sw 2))), (ga, .inr (5, [.ref ga1, .ref ga2, .ref ga3, .ref ga4, .ref ga5, .int (v_ga 0 0), .int (v_ga 0 1), .int (v_ga 0 2)])), (ga1, .inl (cI, 10, .inl (v_ga 1))), (ga2, .inl (cI, 10, .inl (v_ga 2))), (ga3, .inl (cI, 10, .inl (v_ga 3))), (ga4, .inl (cI, 10, .inl (v_ga 4))), (ga5, .inl (cI, 5, .inl (v_ga 5))), (ra, .inr (2, [.ref ra1, .ref ra2, .ref ra3, .int (v_ra 0 0)])), (ra1, .inl (cI, 1 * 20, .inl (v_ra 1))), (ra2, .inl (cI, 1, .inl (v_ra 2))), (ra3, .inl (cI, 21, .inl (v_ra 3)))]) [0, 1, 2, 3, 4, 5, 6, 7, 8, 9, 10, 11, 12] (by decide) rfl
        have r9_0 : x2 = r1 := (Prod.mk.inj (Option.some.inj hf)).1
        have r9_1 : v_sw = v_sw1 := (Prod.mk.inj (Option.some.inj hf)).2
        exact W.iret (v := x2) hx hb hr (fun t ht hW => ⟨⟨x2, v_sw, rfl, ⟨r9_0, r9_1⟩, by rw [ht]; exact hP9, va_K.moved hW.alike hK, hD9⟩, hS.F ht⟩) hS.2.2 dX4_closeAll_53
      · replace hf := xi_f c_1 hf
        refine lv_iload_n hx hb dX4_closeAll_6 rfl (lv_at hl 2 rfl) ?_
        refine lv_bipush (v := 20) hx hb dX4_closeAll_7 (by decide) ?_
        refine lv_icmp_gt (tgt := 52) hx hb dX4_closeAll_9 (by decide) (fun c_2 => ?_) (fun c_2 => ?_)
        · replace hf := xi_t c_2 hf
          refine lv_iload_n hx hb dX4_closeAll_52 rfl (lv_at hl 2 rfl) ?_
          have hP9 := hP.sub (ws' := [(sw, .inr (4, [.ref ga, .ref ra, .ref sw1, .ref sw2, .int (v_sw 0 0)])), (sw1, .inl (cI, 256, .inl (v_sw 1))), (sw2, .inl (cI, 21, .inl (v_sw 2))), (ga, .inr (5, [.ref ga1, .ref ga2, .ref ga3, .ref ga4, .ref ga5, .int (v_ga 0 0), .int (v_ga 0 1), .int (v_ga 0 2)])), (ga1, .inl (cI, 10, .inl (v_ga 1))), (ga2, .inl (cI, 10, .inl (v_ga 2))), (ga3, .inl (cI, 10, .inl (v_ga 3))), (ga4, .inl (cI, 10, .inl (v_ga 4))), (ga5, .inl (cI, 5, .inl (v_ga 5))), (ra, .inr (2, [.ref ra1, .ref ra2, .ref ra3, .int (v_ra 0 0)])), (ra1, .inl (cI, 1 * 20, .inl (v_ra 1))), (ra2, .inl (cI, 1, .inl (v_ra 2))), (ra3, .inl (cI, 21, .inl (v_ra 3)))]) [0, 1, 2, 3, 4, 5, 6, 7, 8, 9, 10, 11, 12] rfl
          have hD9 := hD.sub (ws' := [(sw, .inr (4, [.ref ga, .ref ra, .ref sw1, .ref sw2, .int (v_sw 0 0)])), (sw1, .inl (cI, 256, .inl (v_sw 1))), (sw2, .inl (cI, 21, .inl (v_sw 2))), (ga, .inr (5, [.ref ga1, .ref ga2, .ref ga3, .ref ga4, .ref ga5, .int (v_ga 0 0), .int (v_ga 0 1), .int (v_ga 0 2)])), (ga1, .inl (cI, 10, .inl (v_ga 1))), (ga2, .inl (cI, 10, .inl (v_ga 2))), (ga3, .inl (cI, 10, .inl (v_ga 3))), (ga4, .inl (cI, 10, .inl (v_ga 4))), (ga5, .inl (cI, 5, .inl (v_ga 5))), (ra, .inr (2, [.ref ra1, .ref ra2, .ref ra3, .int (v_ra 0 0)])), (ra1, .inl (cI, 1 * 20, .inl (v_ra 1))), (ra2, .inl (cI, 1, .inl (v_ra 2))), (ra3, .inl (cI, 21, .inl (v_ra 3)))]) [0, 1, 2, 3, 4, 5, 6, 7, 8, 9, 10, 11, 12] (by decide) rfl
          have r9_0 : x2 = r1 := (Prod.mk.inj (Option.some.inj hf)).1
          have r9_1 : v_sw = v_sw1 := (Prod.mk.inj (Option.some.inj hf)).2
          exact W.iret (v := x2) hx hb hr (fun t ht hW => ⟨⟨x2, v_sw, rfl, ⟨r9_0, r9_1⟩, by rw [ht]; exact hP9, va_K.moved hW.alike hK, hD9⟩, hS.F ht⟩) hS.2.2 dX4_closeAll_53
        · replace hf := xi_f c_2 hf
          refine lv_aload_n hx hb dX4_closeAll_12 rfl (lv_at hl 0 rfl) ?_
          refine va_get (D := (dC, dI)) (ci := 4) (v := .ref sw2) (C := RX4) (T := TX4) (N := 5) hx hb hts kk1_ hown hK hP 0 rfl rfl 3 (by decide) kk0_ (fun _ h9 => h9) rfl dX4_closeAll_13 ?_
          refine lv_iload_n hx hb dX4_closeAll_16 rfl (lv_at hl 2 rfl) ?_
          refine lv_dup2_11 hx hb dX4_closeAll_17 rfl rfl ?_
          refine va_iald hx hb hK hP 2 0 rfl rfl (vp_in_iff.mpr (xr_in hf)) dX4_closeAll_18 ?_
          refine lv_topi (fun y_3 ey_3 => ?_)
          replace hf := xr_to ey_3 hf
          refine lv_iconst (v := 1) hx hb dX4_closeAll_19 (by decide) ?_
          refine lv_isub hx hb dX4_closeAll_20 ?_
          refine lv_topi (fun y_4 ey_4 => ?_)
          replace hf := xl_to (v := y_3 - ((1 : Int32))) ey_4 hf
          refine va_iast hx hb hK hP hD hS 2 0 rfl rfl (vp_in_iff.mpr (xwp_in hf)) dX4_closeAll_21 (fun H locs hP hD hS => ?_)
          obtain ⟨v_sw_5, ev_sw_5⟩ : ∃ z, z = mu v_sw 2 (x2).toNatClampNeg y_4 := ⟨_, rfl⟩
          have hP : va_P (dC, dI) vwCl [(sw, .inr (4, [.ref ga, .ref ra, .ref sw1, .ref sw2, .int (v_sw_5 0 0)])), (sw1, .inl (cI, 256, .inl (v_sw_5 1))), (sw2, .inl (cI, 21, .inl (v_sw_5 2))), (ga, .inr (5, [.ref ga1, .ref ga2, .ref ga3, .ref ga4, .ref ga5, .int (v_ga 0 0), .int (v_ga 0 1), .int (v_ga 0 2)])), (ga1, .inl (cI, 10, .inl (v_ga 1))), (ga2, .inl (cI, 10, .inl (v_ga 2))), (ga3, .inl (cI, 10, .inl (v_ga 3))), (ga4, .inl (cI, 10, .inl (v_ga 4))), (ga5, .inl (cI, 5, .inl (v_ga 5))), (ra, .inr (2, [.ref ra1, .ref ra2, .ref ra3, .int (v_ra 0 0)])), (ra1, .inl (cI, 1 * 20, .inl (v_ra 1))), (ra2, .inl (cI, 1, .inl (v_ra 2))), (ra3, .inl (cI, 21, .inl (v_ra 3)))] H := by rw [ev_sw_5]; exact hP
          have hD : va_D (va_A (ww_X4_closeAlly dC dI cI cJ cB sw sw1 sw2 ga ga1 ga2 ga3 ga4 ga5 ra ra1 ra2 ra3 s.heap.size v_sw0 v_ga v_ra p0 n9 r1 v_sw1) s.heap.size) [(sw, .inr (4, [.ref ga, .ref ra, .ref sw1, .ref sw2, .int (v_sw_5 0 0)])), (sw1, .inl (cI, 256, .inl (v_sw_5 1))), (sw2, .inl (cI, 21, .inl (v_sw_5 2))), (ga, .inr (5, [.ref ga1, .ref ga2, .ref ga3, .ref ga4, .ref ga5, .int (v_ga 0 0), .int (v_ga 0 1), .int (v_ga 0 2)])), (ga1, .inl (cI, 10, .inl (v_ga 1))), (ga2, .inl (cI, 10, .inl (v_ga 2))), (ga3, .inl (cI, 10, .inl (v_ga 3))), (ga4, .inl (cI, 10, .inl (v_ga 4))), (ga5, .inl (cI, 5, .inl (v_ga 5))), (ra, .inr (2, [.ref ra1, .ref ra2, .ref ra3, .int (v_ra 0 0)])), (ra1, .inl (cI, 1 * 20, .inl (v_ra 1))), (ra2, .inl (cI, 1, .inl (v_ra 2))), (ra3, .inl (cI, 21, .inl (v_ra 3)))] := by rw [ev_sw_5]; exact hD
          replace hf := xwp_to ev_sw_5 hf
          refine lv_aload_n hx hb dX4_closeAll_22 rfl (lv_at hl 0 rfl) ?_
          refine va_get (D := (dC, dI)) (ci := 4) (v := .ref sw2) (C := RX4) (T := TX4) (N := 5) hx hb hts kk1_ hown hK hP 0 rfl rfl 3 (by decide) kk0_ (fun _ h9 => h9) rfl dX4_closeAll_23 ?_
          refine lv_iload_n hx hb dX4_closeAll_26 rfl (lv_at hl 2 rfl) ?_
          refine va_iald hx hb hK hP 2 0 rfl rfl (vp_in_iff.mpr (xr_in hf)) dX4_closeAll_27 ?_
          refine lv_topi (fun y_6 ey_6 => ?_)
          replace hf := xr_to ey_6 hf
          refine lv_if_le (tgt := 40) hx hb dX4_closeAll_28 (by decide) (fun c_7 => ?_) (fun c_7 => ?_)
          · replace hf := xi_t c_7 hf
            refine lv_aload_n hx hb dX4_closeAll_40 rfl (lv_at hl 0 rfl) ?_
            refine lv_bipush (v := 41) hx hb dX4_closeAll_41 (by decide) ?_
            replace hf := xb1_to hf
            obtain ⟨o_8, g_9, hf⟩ := hf
            have hPc := hP.sub (ws' := [(sw, .inr (4, [.ref ga, .ref ra, .ref sw1, .ref sw2, .int (v_sw_5 0 0)])), (sw1, .inl (cI, 256, .inl (v_sw_5 1))), (sw2, .inl (cI, 21, .inl (v_sw_5 2))), (ga, .inr (5, [.ref ga1, .ref ga2, .ref ga3, .ref ga4, .ref ga5, .int (v_ga 0 0), .int (v_ga 0 1), .int (v_ga 0 2)])), (ga1, .inl (cI, 10, .inl (v_ga 1))), (ga2, .inl (cI, 10, .inl (v_ga 2))), (ga3, .inl (cI, 10, .inl (v_ga 3))), (ga4, .inl (cI, 10, .inl (v_ga 4))), (ga5, .inl (cI, 5, .inl (v_ga 5))), (ra, .inr (2, [.ref ra1, .ref ra2, .ref ra3, .int (v_ra 0 0)])), (ra1, .inl (cI, 1 * 20, .inl (v_ra 1))), (ra2, .inl (cI, 1, .inl (v_ra 2))), (ra3, .inl (cI, 21, .inl (v_ra 3)))]) [0, 1, 2, 3, 4, 5, 6, 7, 8, 9, 10, 11, 12] rfl
            have hDc := hD.sub (ws' := [(sw, .inr (4, [.ref ga, .ref ra, .ref sw1, .ref sw2, .int (v_sw_5 0 0)])), (sw1, .inl (cI, 256, .inl (v_sw_5 1))), (sw2, .inl (cI, 21, .inl (v_sw_5 2))), (ga, .inr (5, [.ref ga1, .ref ga2, .ref ga3, .ref ga4, .ref ga5, .int (v_ga 0 0), .int (v_ga 0 1), .int (v_ga 0 2)])), (ga1, .inl (cI, 10, .inl (v_ga 1))), (ga2, .inl (cI, 10, .inl (v_ga 2))), (ga3, .inl (cI, 10, .inl (v_ga 3))), (ga4, .inl (cI, 10, .inl (v_ga 4))), (ga5, .inl (cI, 5, .inl (v_ga 5))), (ra, .inr (2, [.ref ra1, .ref ra2, .ref ra3, .int (v_ra 0 0)])), (ra1, .inl (cI, 1 * 20, .inl (v_ra 1))), (ra2, .inl (cI, 1, .inl (v_ra 2))), (ra3, .inl (cI, 21, .inl (v_ra 3)))]) [0, 1, 2, 3, 4, 5, 6, 7, 8, 9, 10, 11, 12] (by decide) rfl
            have hFc := va_free (wc := [(sw, .inr (4, [.ref ga, .ref ra, .ref sw1, .ref sw2, .int (v_sw_5 0 0)])), (sw1, .inl (cI, 256, .inl (v_sw_5 1))), (sw2, .inl (cI, 21, .inl (v_sw_5 2))), (ga, .inr (5, [.ref ga1, .ref ga2, .ref ga3, .ref ga4, .ref ga5, .int (v_ga 0 0), .int (v_ga 0 1), .int (v_ga 0 2)])), (ga1, .inl (cI, 10, .inl (v_ga 1))), (ga2, .inl (cI, 10, .inl (v_ga 2))), (ga3, .inl (cI, 10, .inl (v_ga 3))), (ga4, .inl (cI, 10, .inl (v_ga 4))), (ga5, .inl (cI, 5, .inl (v_ga 5))), (ra, .inr (2, [.ref ra1, .ref ra2, .ref ra3, .int (v_ra 0 0)])), (ra1, .inl (cI, 1 * 20, .inl (v_ra 1))), (ra2, .inl (cI, 1, .inl (v_ra 2))), (ra3, .inl (cI, 21, .inl (v_ra 3)))]) hD hS hA [0, 1, 2, 3, 4, 5, 6, 7, 8, 9, 10, 11, 12] rfl
            refine va_callv (va_runV (As := [.int ((41 : Int32))]) (rest := []) ⟨hx, hb, hml, hown, hts⟩ (c_X4_putBytey l dC dI cI cJ cB sw sw1 sw2 ga ga1 ga2 ga3 ga4 ga5 ra ra1 ra2 ra3 H.size v_sw_5 v_ga v_ra ((41 : Int32)) n9 o_8 g_9) (cwV 1 hts go_wo_X4_closeAlly_1 rfl rfl rfl (by decide +kernel) ⟨Nat.le_of_ble_eq_true rfl, Nat.le_of_ble_eq_true rfl⟩) ⟨fun a U g mk q => by obtain ⟨q0, q1, qN, qP, qK, qD⟩ := q; exact ⟨q0, q1, NW.calling qN, qP, va_K.moved (u := U) (U := U.calling g mk a) (Vm.Alike.refl U.vm) qK, qD⟩, va_recv hK hPc (ci := 4) (q0 := 0) rfl rfl, fun U hU hW => ⟨rfl, by rw [hU], NW.warm hW hnw, by rw [hU]; exact hPc, va_K.moved hW.alike hK, hDc.weaken (fun _ _ _ _ => trivial)⟩⟩ rfl rfl hl.1 rfl (lv_room (Nat.le_of_ble_eq_true rfl)) dX4_closeAll_43 ⟨Nat.zero_le _, Nat.zero_le _⟩) hS (fun q _ h => hFc q h) hFc (fun u t H1 locs ht hvm hw hB hz1 hk1 hS => ?_)
            obtain ⟨v_sw_11, rfl⟩ : ∃ z, z = u := ⟨_, rfl⟩
            obtain ⟨hP1, hK1, hD1⟩ := hB
            rw [ht] at hP1
            have hw : (v_sw_11 = o_8) := hw
            subst hw
            obtain ⟨hP, hD⟩ := va_join (wr := []) (w1 := [(sw, .inr (4, [.ref ga, .ref ra, .ref sw1, .ref sw2, .int (v_sw_11 0 0)])), (sw1, .inl (cI, 256, .inl (v_sw_11 1))), (sw2, .inl (cI, 21, .inl (v_sw_11 2))), (ga, .inr (5, [.ref ga1, .ref ga2, .ref ga3, .ref ga4, .ref ga5, .int (v_ga 0 0), .int (v_ga 0 1), .int (v_ga 0 2)])), (ga1, .inl (cI, 10, .inl (v_ga 1))), (ga2, .inl (cI, 10, .inl (v_ga 2))), (ga3, .inl (cI, 10, .inl (v_ga 3))), (ga4, .inl (cI, 10, .inl (v_ga 4))), (ga5, .inl (cI, 5, .inl (v_ga 5))), (ra, .inr (2, [.ref ra1, .ref ra2, .ref ra3, .int (v_ra 0 0)])), (ra1, .inl (cI, 1 * 20, .inl (v_ra 1))), (ra2, .inl (cI, 1, .inl (v_ra 2))), (ra3, .inl (cI, 21, .inl (v_ra 3)))]) hP hD [0, 1, 2, 3, 4, 5, 6, 7, 8, 9, 10, 11, 12] [] rfl rfl (by decide) (by decide) hk1 hFc hP1 hD1
            generalize H1 = H at hP hS ⊢
            have hP : va_P (dC, dI) vwCl [(sw, .inr (4, [.ref ga, .ref ra, .ref sw1, .ref sw2, .int (v_sw_11 0 0)])), (sw1, .inl (cI, 256, .inl (v_sw_11 1))), (sw2, .inl (cI, 21, .inl (v_sw_11 2))), (ga, .inr (5, [.ref ga1, .ref ga2, .ref ga3, .ref ga4, .ref ga5, .int (v_ga 0 0), .int (v_ga 0 1), .int (v_ga 0 2)])), (ga1, .inl (cI, 10, .inl (v_ga 1))), (ga2, .inl (cI, 10, .inl (v_ga 2))), (ga3, .inl (cI, 10, .inl (v_ga 3))), (ga4, .inl (cI, 10, .inl (v_ga 4))), (ga5, .inl (cI, 5, .inl (v_ga 5))), (ra, .inr (2, [.ref ra1, .ref ra2, .ref ra3, .int (v_ra 0 0)])), (ra1, .inl (cI, 1 * 20, .inl (v_ra 1))), (ra2, .inl (cI, 1, .inl (v_ra 2))), (ra3, .inl (cI, 21, .inl (v_ra 3)))] H := hP
            have hD : va_D (va_A (ww_X4_closeAlly dC dI cI cJ cB sw sw1 sw2 ga ga1 ga2 ga3 ga4 ga5 ra ra1 ra2 ra3 s.heap.size v_sw0 v_ga v_ra p0 n9 r1 v_sw1) s.heap.size) [(sw, .inr (4, [.ref ga, .ref ra, .ref sw1, .ref sw2, .int (v_sw_11 0 0)])), (sw1, .inl (cI, 256, .inl (v_sw_11 1))), (sw2, .inl (cI, 21, .inl (v_sw_11 2))), (ga, .inr (5, [.ref ga1, .ref ga2, .ref ga3, .ref ga4, .ref ga5, .int (v_ga 0 0), .int (v_ga 0 1), .int (v_ga 0 2)])), (ga1, .inl (cI, 10, .inl (v_ga 1))), (ga2, .inl (cI, 10, .inl (v_ga 2))), (ga3, .inl (cI, 10, .inl (v_ga 3))), (ga4, .inl (cI, 10, .inl (v_ga 4))), (ga5, .inl (cI, 5, .inl (v_ga 5))), (ra, .inr (2, [.ref ra1, .ref ra2, .ref ra3, .int (v_ra 0 0)])), (ra1, .inl (cI, 1 * 20, .inl (v_ra 1))), (ra2, .inl (cI, 1, .inl (v_ra 2))), (ra3, .inl (cI, 21, .inl (v_ra 3)))] := hD
            clear hPc hDc hFc hP1 hK1 hD1 hk1 hz1 ht hvm g_9
            obtain ⟨x2_13, ex2_13⟩ : ∃ y : Int32, y = x2 + (-1) := ⟨_, rfl⟩
            refine lv_iinc (v := x2_13) (lv' := [(2, .int x2_13), (0, .ref sw), (1, .int p0)]) hx hb dX4_closeAll_46 hl (k := 2) rfl (by rw [ex2_13]; rfl) (by decide) rfl (fun ls hl => ?_)
            replace hf := xl_to ex2_13 hf
            refine lv_goto (tgt := 2) hx hb dX4_closeAll_49 (by decide) ?_
            exact ih_2 x2_13 v_sw_11 hf _ _ (hP.sub [0, 1, 2, 3, 4, 5, 6, 7, 8, 9, 10, 11, 12] rfl) (hD.sub [0, 1, 2, 3, 4, 5, 6, 7, 8, 9, 10, 11, 12] (by decide) rfl) hS ls (lv_sub hl [1, 2, 0] rfl)
          · replace hf := xi_f c_7 hf
            refine lv_aload_n hx hb dX4_closeAll_31 rfl (lv_at hl 0 rfl) ?_
            refine lv_bipush (v := 44) hx hb dX4_closeAll_32 (by decide) ?_
            replace hf := xb1_to hf
            obtain ⟨o_14, g_15, hf⟩ := hf
            have hPc := hP.sub (ws' := [(sw, .inr (4, [.ref ga, .ref ra, .ref sw1, .ref sw2, .int (v_sw_5 0 0)])), (sw1, .inl (cI, 256, .inl (v_sw_5 1))), (sw2, .inl (cI, 21, .inl (v_sw_5 2))), (ga, .inr (5, [.ref ga1, .ref ga2, .ref ga3, .ref ga4, .ref ga5, .int (v_ga 0 0), .int (v_ga 0 1), .int (v_ga 0 2)])), (ga1, .inl (cI, 10, .inl (v_ga 1))), (ga2, .inl (cI, 10, .inl (v_ga 2))), (ga3, .inl (cI, 10, .inl (v_ga 3))), (ga4, .inl (cI, 10, .inl (v_ga 4))), (ga5, .inl (cI, 5, .inl (v_ga 5))), (ra, .inr (2, [.ref ra1, .ref ra2, .ref ra3, .int (v_ra 0 0)])), (ra1, .inl (cI, 1 * 20, .inl (v_ra 1))), (ra2, .inl (cI, 1, .inl (v_ra 2))), (ra3, .inl (cI, 21, .inl (v_ra 3)))]) [0, 1, 2, 3, 4, 5, 6, 7, 8, 9, 10, 11, 12] rfl
            have hDc := hD.sub (ws' := [(sw, .inr (4, [.ref ga, .ref ra, .ref sw1, .ref sw2, .int (v_sw_5 0 0)])), (sw1, .inl (cI, 256, .inl (v_sw_5 1))), (sw2, .inl (cI, 21, .inl (v_sw_5 2))), (ga, .inr (5, [.ref ga1, .ref ga2, .ref ga3, .ref ga4, .ref ga5, .int (v_ga 0 0), .int (v_ga 0 1), .int (v_ga 0 2)])), (ga1, .inl (cI, 10, .inl (v_ga 1))), (ga2, .inl (cI, 10, .inl (v_ga 2))), (ga3, .inl (cI, 10, .inl (v_ga 3))), (ga4, .inl (cI, 10, .inl (v_ga 4))), (ga5, .inl (cI, 5, .inl (v_ga 5))), (ra, .inr (2, [.ref ra1, .ref ra2, .ref ra3, .int (v_ra 0 0)])), (ra1, .inl (cI, 1 * 20, .inl (v_ra 1))), (ra2, .inl (cI, 1, .inl (v_ra 2))), (ra3, .inl (cI, 21, .inl (v_ra 3)))]) [0, 1, 2, 3, 4, 5, 6, 7, 8, 9, 10, 11, 12] (by decide) rfl
            have hFc := va_free (wc := [(sw, .inr (4, [.ref ga, .ref ra, .ref sw1, .ref sw2, .int (v_sw_5 0 0)])), (sw1, .inl (cI, 256, .inl (v_sw_5 1))), (sw2, .inl (cI, 21, .inl (v_sw_5 2))), (ga, .inr (5, [.ref ga1, .ref ga2, .ref ga3, .ref ga4, .ref ga5, .int (v_ga 0 0), .int (v_ga 0 1), .int (v_ga 0 2)])), (ga1, .inl (cI, 10, .inl (v_ga 1))), (ga2, .inl (cI, 10, .inl (v_ga 2))), (ga3, .inl (cI, 10, .inl (v_ga 3))), (ga4, .inl (cI, 10, .inl (v_ga 4))), (ga5, .inl (cI, 5, .inl (v_ga 5))), (ra, .inr (2, [.ref ra1, .ref ra2, .ref ra3, .int (v_ra 0 0)])), (ra1, .inl (cI, 1 * 20, .inl (v_ra 1))), (ra2, .inl (cI, 1, .inl (v_ra 2))), (ra3, .inl (cI, 21, .inl (v_ra 3)))]) hD hS hA [0, 1, 2, 3, 4, 5, 6, 7, 8, 9, 10, 11, 12] rfl
            refine va_callv (va_runV (As := [.int ((44 : Int32))]) (rest := []) ⟨hx, hb, hml, hown, hts⟩ (c_X4_putBytey l dC dI cI cJ cB sw sw1 sw2 ga ga1 ga2 ga3 ga4 ga5 ra ra1 ra2 ra3 H.size v_sw_5 v_ga v_ra ((44 : Int32)) n9 o_14 g_15) (cwV 1 hts go_wo_X4_closeAlly_1 rfl rfl rfl (by decide +kernel) ⟨Nat.le_of_ble_eq_true rfl, Nat.le_of_ble_eq_true rfl⟩) ⟨fun a U g mk q => by obtain ⟨q0, q1, qN, qP, qK, qD⟩ := q; exact ⟨q0, q1, NW.calling qN, qP, va_K.moved (u := U) (U := U.calling g mk a) (Vm.Alike.refl U.vm) qK, qD⟩, va_recv hK hPc (ci := 4) (q0 := 0) rfl rfl, fun U hU hW => ⟨rfl, by rw [hU], NW.warm hW hnw, by rw [hU]; exact hPc, va_K.moved hW.alike hK, hDc.weaken (fun _ _ _ _ => trivial)⟩⟩ rfl rfl hl.1 rfl (lv_room (Nat.le_of_ble_eq_true rfl)) dX4_closeAll_34 ⟨Nat.zero_le _, Nat.zero_le _⟩) hS (fun q _ h => hFc q h) hFc (fun u t H1 locs ht hvm hw hB hz1 hk1 hS => ?_)
            obtain ⟨v_sw_17, rfl⟩ : ∃ z, z = u := ⟨_, rfl⟩
            obtain ⟨hP1, hK1, hD1⟩ := hB
            rw [ht] at hP1
            have hw : (v_sw_17 = o_14) := hw
            subst hw
            obtain ⟨hP, hD⟩ := va_join (wr := []) (w1 := [(sw, .inr (4, [.ref ga, .ref ra, .ref sw1, .ref sw2, .int (v_sw_17 0 0)])), (sw1, .inl (cI, 256, .inl (v_sw_17 1))), (sw2, .inl (cI, 21, .inl (v_sw_17 2))), (ga, .inr (5, [.ref ga1, .ref ga2, .ref ga3, .ref ga4, .ref ga5, .int (v_ga 0 0), .int (v_ga 0 1), .int (v_ga 0 2)])), (ga1, .inl (cI, 10, .inl (v_ga 1))), (ga2, .inl (cI, 10, .inl (v_ga 2))), (ga3, .inl (cI, 10, .inl (v_ga 3))), (ga4, .inl (cI, 10, .inl (v_ga 4))), (ga5, .inl (cI, 5, .inl (v_ga 5))), (ra, .inr (2, [.ref ra1, .ref ra2, .ref ra3, .int (v_ra 0 0)])), (ra1, .inl (cI, 1 * 20, .inl (v_ra 1))), (ra2, .inl (cI, 1, .inl (v_ra 2))), (ra3, .inl (cI, 21, .inl (v_ra 3)))]) hP hD [0, 1, 2, 3, 4, 5, 6, 7, 8, 9, 10, 11, 12] [] rfl rfl (by decide) (by decide) hk1 hFc hP1 hD1
            generalize H1 = H at hP hS ⊢
            have hP : va_P (dC, dI) vwCl [(sw, .inr (4, [.ref ga, .ref ra, .ref sw1, .ref sw2, .int (v_sw_17 0 0)])), (sw1, .inl (cI, 256, .inl (v_sw_17 1))), (sw2, .inl (cI, 21, .inl (v_sw_17 2))), (ga, .inr (5, [.ref ga1, .ref ga2, .ref ga3, .ref ga4, .ref ga5, .int (v_ga 0 0), .int (v_ga 0 1), .int (v_ga 0 2)])), (ga1, .inl (cI, 10, .inl (v_ga 1))), (ga2, .inl (cI, 10, .inl (v_ga 2))), (ga3, .inl (cI, 10, .inl (v_ga 3))), (ga4, .inl (cI, 10, .inl (v_ga 4))), (ga5, .inl (cI, 5, .inl (v_ga 5))), (ra, .inr (2, [.ref ra1, .ref ra2, .ref ra3, .int (v_ra 0 0)])), (ra1, .inl (cI, 1 * 20, .inl (v_ra 1))), (ra2, .inl (cI, 1, .inl (v_ra 2))), (ra3, .inl (cI, 21, .inl (v_ra 3)))] H := hP
            have hD : va_D (va_A (ww_X4_closeAlly dC dI cI cJ cB sw sw1 sw2 ga ga1 ga2 ga3 ga4 ga5 ra ra1 ra2 ra3 s.heap.size v_sw0 v_ga v_ra p0 n9 r1 v_sw1) s.heap.size) [(sw, .inr (4, [.ref ga, .ref ra, .ref sw1, .ref sw2, .int (v_sw_17 0 0)])), (sw1, .inl (cI, 256, .inl (v_sw_17 1))), (sw2, .inl (cI, 21, .inl (v_sw_17 2))), (ga, .inr (5, [.ref ga1, .ref ga2, .ref ga3, .ref ga4, .ref ga5, .int (v_ga 0 0), .int (v_ga 0 1), .int (v_ga 0 2)])), (ga1, .inl (cI, 10, .inl (v_ga 1))), (ga2, .inl (cI, 10, .inl (v_ga 2))), (ga3, .inl (cI, 10, .inl (v_ga 3))), (ga4, .inl (cI, 10, .inl (v_ga 4))), (ga5, .inl (cI, 5, .inl (v_ga 5))), (ra, .inr (2, [.ref ra1, .ref ra2, .ref ra3, .int (v_ra 0 0)])), (ra1, .inl (cI, 1 * 20, .inl (v_ra 1))), (ra2, .inl (cI, 1, .inl (v_ra 2))), (ra3, .inl (cI, 21, .inl (v_ra 3)))] := hD
            clear hPc hDc hFc hP1 hK1 hD1 hk1 hz1 ht hvm g_15
            refine lv_goto (tgt := 52) hx hb dX4_closeAll_37 (by decide) ?_
            refine lv_iload_n hx hb dX4_closeAll_52 rfl (lv_at hl 2 rfl) ?_
            have hP9 := hP.sub (ws' := [(sw, .inr (4, [.ref ga, .ref ra, .ref sw1, .ref sw2, .int (v_sw_17 0 0)])), (sw1, .inl (cI, 256, .inl (v_sw_17 1))), (sw2, .inl (cI, 21, .inl (v_sw_17 2))), (ga, .inr (5, [.ref ga1, .ref ga2, .ref ga3, .ref ga4, .ref ga5, .int (v_ga 0 0), .int (v_ga 0 1), .int (v_ga 0 2)])), (ga1, .inl (cI, 10, .inl (v_ga 1))), (ga2, .inl (cI, 10, .inl (v_ga 2))), (ga3, .inl (cI, 10, .inl (v_ga 3))), (ga4, .inl (cI, 10, .inl (v_ga 4))), (ga5, .inl (cI, 5, .inl (v_ga 5))), (ra, .inr (2, [.ref ra1, .ref ra2, .ref ra3, .int (v_ra 0 0)])), (ra1, .inl (cI, 1 * 20, .inl (v_ra 1))), (ra2, .inl (cI, 1, .inl (v_ra 2))), (ra3, .inl (cI, 21, .inl (v_ra 3)))]) [0, 1, 2, 3, 4, 5, 6, 7, 8, 9, 10, 11, 12] rfl
            have hD9 := hD.sub (ws' := [(sw, .inr (4, [.ref ga, .ref ra, .ref sw1, .ref sw2, .int (v_sw_17 0 0)])), (sw1, .inl (cI, 256, .inl (v_sw_17 1))), (sw2, .inl (cI, 21, .inl (v_sw_17 2))), (ga, .inr (5, [.ref ga1, .ref ga2, .ref ga3, .ref ga4, .ref ga5, .int (v_ga 0 0), .int (v_ga 0 1), .int (v_ga 0 2)])), (ga1, .inl (cI, 10, .inl (v_ga 1))), (ga2, .inl (cI, 10, .inl (v_ga 2))), (ga3, .inl (cI, 10, .inl (v_ga 3))), (ga4, .inl (cI, 10, .inl (v_ga 4))), (ga5, .inl (cI, 5, .inl (v_ga 5))), (ra, .inr (2, [.ref ra1, .ref ra2, .ref ra3, .int (v_ra 0 0)])), (ra1, .inl (cI, 1 * 20, .inl (v_ra 1))), (ra2, .inl (cI, 1, .inl (v_ra 2))), (ra3, .inl (cI, 21, .inl (v_ra 3)))]) [0, 1, 2, 3, 4, 5, 6, 7, 8, 9, 10, 11, 12] (by decide) rfl
            have r9_0 : x2 = r1 := (Prod.mk.inj (Option.some.inj hf)).1
            have r9_1 : v_sw_17 = v_sw1 := (Prod.mk.inj (Option.some.inj hf)).2
            exact W.iret (v := x2) hx hb hr (fun t ht hW => ⟨⟨x2, v_sw_17, rfl, ⟨r9_0, r9_1⟩, by rw [ht]; exact hP9, va_K.moved hW.alike hK, hD9⟩, hS.F ht⟩) hS.2.2 dX4_closeAll_53
  refine lv_iload_n hx hb dX4_closeAll_0 rfl (lv_at hl 1 rfl) ?_
  refine lv_istore_n (lv' := [(2, .int p0), (0, .ref sw), (1, .int p0)]) hx hb dX4_closeAll_1 rfl hl (by decide) rfl (fun ls hl => ?_)
  exact L_2 n9 p0 v_sw0 hf _ _ (hP.sub [0, 1, 2, 3, 4, 5, 6, 7, 8, 9, 10, 11, 12] rfl) (hD.sub [0, 1, 2, 3, 4, 5, 6, 7, 8, 9, 10, 11, 12] (by decide) rfl) hS ls (lv_sub hl [1, 2, 0] rfl)
