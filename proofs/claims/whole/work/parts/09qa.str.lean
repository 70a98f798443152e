def wo_J0_coder_7d493 : List Cond := .code yJ0_coder_7d493 cJ0_coder_7d493 1 (some .byte) :: (([.fieldLink RJ0 38 "java/lang/String" "COMPACT_STRINGS" "Z", .fieldLink RJ0 15 "java/lang/String" "coder" "B"] : List Cond))
abbrev ww_J0_coder_7d493 (dC : Nat → ClassId) (dI : Nat → Nat → Nat) (cI cJ cB : ClassId) (st : Nat) (sz : Nat) (sn : Nat) (sb : Nat → Int32) : va_W := []
abbrev at_J0_coder_7d493 (dC : Nat → ClassId) (dI : Nat → Nat → Nat) (cI cJ cB : ClassId) (st : Nat) (sz : Nat) (sn : Nat) (sb : Nat → Int32) (u : Unit) (t : State) : Prop := match u with
  | () => va_P (dC, dI) vwCl [] t.heap ∧ va_K (dC, dI) vwCl (tyL cI cJ cB) t ∧ va_D (va_A (ww_J0_coder_7d493 dC dI cI cJ cB st sz sn sb) sz) []
abbrev qc_J0_coder_7d493 (dC : Nat → ClassId) (dI : Nat → Nat → Nat) (cI cJ cB : ClassId) (st : Nat) (sz : Nat) (sn : Nat) (sb : Nat → Int32) : Array Value → State → Outcome → State → Prop := va_Qi (fun (r : Int32) (u : Unit) => match u with | () => (r = 0)) (at_J0_coder_7d493 dC dI cI cJ cB st sz sn sb) (va_A (ww_J0_coder_7d493 dC dI cI cJ cB st sz sn sb) sz)
abbrev pc_J0_coder_7d493 (dC : Nat → ClassId) (dI : Nat → Nat → Nat) (cI cJ cB : ClassId) (st : Nat) (sz : Nat) (sn : Nat) (sb : Nat → Int32) : Array Value → State → Prop := va_Pc [.ref st] (fun U => U.heap.size = sz ∧ NW U ∧ ZX st sn sb (va_A (ww_J0_coder_7d493 dC dI cI cJ cB st sz sn sb) sz) U U.heap ∧ ZC () (va_A (ww_J0_coder_7d493 dC dI cI cJ cB st sz sn sb) sz) U U.heap ∧ va_P (dC, dI) vwCl (ww_J0_coder_7d493 dC dI cI cJ cB st sz sn sb) U.heap ∧ va_K (dC, dI) vwCl (tyL cI cJ cB) U ∧ va_D (fun _ => True) (ww_J0_coder_7d493 dC dI cI cJ cB st sz sn sb))
abbrev rm_J0_coder_7d493 : Room := { frames := 0, cells := 0, slots := 0, locals := 0 }
abbrev WW_J0_coder_7d493 (p : Program) (l : Launch) (e : Env) (s : State) (m : MethodId) (below : List Frame) (meth : Method) (c : Code) (dC : Nat → ClassId) (dI : Nat → Nat → Nat) (cI cJ cB : ClassId) (st : Nat) (sz : Nat) (sn : Nat) (sb : Nat → Int32) (H : Heap) (locs : List Loc) (g : JFrame) : Prop := W p l e rm_J0_coder_7d493 s m ([.ref st] : List Value).toArray below meth c H locs 0 0 (MQ below (qc_J0_coder_7d493 dC dI cI cJ cB st sz sn sb) ([.ref st] : List Value).toArray s 0 0 (va_A (ww_J0_coder_7d493 dC dI cI cJ cB st sz sn sb) sz)) g
set_option maxHeartbeats 4000000 in
set_option maxRecDepth 100000 in
theorem c_J0_coder_7d493 (l : Launch) (dC : Nat → ClassId) (dI : Nat → Nat → Nat) (cI cJ cB : ClassId) (st : Nat) (sz : Nat) (sn : Nat) (sb : Nat → Int32) : Met l yJ0_coder_7d493 wo_J0_coder_7d493 rm_J0_coder_7d493 (pc_J0_coder_7d493 dC dI cI cJ cB st sz sn sb) (qc_J0_coder_7d493 dC dI cI cJ cB st sz sn sb) 0 0 (va_A (ww_J0_coder_7d493 dC dI cI cJ cB st sz sn sb) sz) := by
  refine Met.ofW (cc := cJ0_coder_7d493) (maxL := 1) (ret := (some .byte)) (by decide) rfl ?_
  intro p e s m args below meth c s₁ B hml hv
  obtain ⟨rfl, hsz, hnw, hsx, hsc, hP, hK, hD0⟩ := hv
  have hx := B.exec
  have hb := B.bytes
  have hr := B.returns
  have hts := atoms_spec (ws := wo_J0_coder_7d493) B.pre
  have hown : s.vm.findClass RJ0 = some m.cls := findClass_of_methodNamed B.named
  have hlocks := B.notSynchronized
  clear B
  subst hsz
  have hD := hD0.self (sz := s.heap.size)
  clear hD0
  have kk0_ := hts (.fieldLink RJ0 38 "java/lang/String" "COMPACT_STRINGS" "Z") (by decide +kernel)
  have kk1_ := hts (.fieldLink RJ0 15 "java/lang/String" "coder" "B") (by decide +kernel)
  have hA : ∀ q : Nat, s.heap.size ≤ q → (va_A (ww_J0_coder_7d493 dC dI cI cJ cB st s.heap.size sn sb) s.heap.size) q := fun q h => Or.inr h
  have hS : va_S (va_A (ww_J0_coder_7d493 dC dI cI cJ cB st s.heap.size sn sb) s.heap.size) s.heap s.heap [] := va_S.rf
  have hl := lv_entry ([.ref st]) (n := 1) (Nat.le_of_ble_eq_true rfl)
  rw [lg_entry_eq]
  generalize (lg_sl ([.ref st]) ++ List.replicate (1 - (lg_sl ([.ref st])).length) Slot.unset).toArray = ls at hl ⊢
  have hl : lv_has ls 1 [(0, .ref st)] := hl
  have hP : va_P (dC, dI) vwCl [] s.heap := hP
  have hD : va_D (va_A (ww_J0_coder_7d493 dC dI cI cJ cB st s.heap.size sn sb) s.heap.size) [] := hD
  obtain ⟨H, hH⟩ : ∃ H, H = s.heap := ⟨_, rfl⟩
  obtain ⟨locs, hlc⟩ : ∃ L : List Loc, L = [] := ⟨_, rfl⟩
  have hS : va_S (va_A (ww_J0_coder_7d493 dC dI cI cJ cB st s.heap.size sn sb) s.heap.size) s.heap H locs := by rw [hH, hlc]; exact hS
  have hP : va_P (dC, dI) vwCl [] H := by rw [hH]; exact hP
  suffices hgo : WW_J0_coder_7d493 p l e s m below meth c dC dI cI cJ cB st s.heap.size sn sb H locs (F0 m 0 ls []) by rw [hH, hlc] at hgo; exact hgo
  clear hH hlc
  obtain ⟨hs4, hsO, hsC, sv, hsV, hsT⟩ := hsx
  refine va_gets hx hb hsc.1 hS hown kk0_ (fun _ h9 => h9) dJ0_coder_7d493_0 ?_
  refine lv_if_eq (tgt := 13) hx hb dJ0_coder_7d493_3 (by decide) (fun c_1 => absurd c_1 (by decide)) (fun _ => ?_)
  refine lv_aload_n hx hb dJ0_coder_7d493_6 rfl (lv_at hl 0 rfl) ?_
  refine vk_getf hx hb hsC hS hown kk1_ (fun _ h9 => h9) dJ0_coder_7d493_7 ?_
  refine lv_goto (tgt := 14) hx hb dJ0_coder_7d493_10 (by decide) ?_
  have hP9 := hP.sub (ws' := []) [] rfl
  have hD9 := hD.sub (ws' := []) [] (by decide) rfl
  have r9_0 : (0 : Int32) = 0 := rfl
  exact W.zret (v := (0 : Int32)) hx hb hr rfl (fun t ht hW => ⟨⟨(0 : Int32), (), rfl, r9_0, by rw [ht]; exact hP9, va_K.moved hW.alike hK, hD9⟩, hS.F ht⟩) hS.2.2 dJ0_coder_7d493_14
def wo_J0_isLatin1_aae02 : List Cond := .code yJ0_isLatin1_aae02 cJ0_isLatin1_aae02 1 (some .boolean) :: (([.fieldLink RJ0 38 "java/lang/String" "COMPACT_STRINGS" "Z", .fieldLink RJ0 15 "java/lang/String" "coder" "B"] : List Cond))
abbrev ww_J0_isLatin1_aae02 (dC : Nat → ClassId) (dI : Nat → Nat → Nat) (cI cJ cB : ClassId) (st : Nat) (sz : Nat) (sn : Nat) (sb : Nat → Int32) : va_W := []
abbrev at_J0_isLatin1_aae02 (dC : Nat → ClassId) (dI : Nat → Nat → Nat) (cI cJ cB : ClassId) (st : Nat) (sz : Nat) (sn : Nat) (sb : Nat → Int32) (u : Unit) (t : State) : Prop := match u with
  | () => va_P (dC, dI) vwCl [] t.heap ∧ va_K (dC, dI) vwCl (tyL cI cJ cB) t ∧ va_D (va_A (ww_J0_isLatin1_aae02 dC dI cI cJ cB st sz sn sb) sz) []
abbrev qc_J0_isLatin1_aae02 (dC : Nat → ClassId) (dI : Nat → Nat → Nat) (cI cJ cB : ClassId) (st : Nat) (sz : Nat) (sn : Nat) (sb : Nat → Int32) : Array Value → State → Outcome → State → Prop := va_Qi (fun (r : Int32) (u : Unit) => match u with | () => (r = 1)) (at_J0_isLatin1_aae02 dC dI cI cJ cB st sz sn sb) (va_A (ww_J0_isLatin1_aae02 dC dI cI cJ cB st sz sn sb) sz)
abbrev pc_J0_isLatin1_aae02 (dC : Nat → ClassId) (dI : Nat → Nat → Nat) (cI cJ cB : ClassId) (st : Nat) (sz : Nat) (sn : Nat) (sb : Nat → Int32) : Array Value → State → Prop := va_Pc [.ref st] (fun U => U.heap.size = sz ∧ NW U ∧ ZX st sn sb (va_A (ww_J0_isLatin1_aae02 dC dI cI cJ cB st sz sn sb) sz) U U.heap ∧ ZC () (va_A (ww_J0_isLatin1_aae02 dC dI cI cJ cB st sz sn sb) sz) U U.heap ∧ va_P (dC, dI) vwCl (ww_J0_isLatin1_aae02 dC dI cI cJ cB st sz sn sb) U.heap ∧ va_K (dC, dI) vwCl (tyL cI cJ cB) U ∧ va_D (fun _ => True) (ww_J0_isLatin1_aae02 dC dI cI cJ cB st sz sn sb))
abbrev rm_J0_isLatin1_aae02 : Room := { frames := 0, cells := 0, slots := 0, locals := 0 }
abbrev WW_J0_isLatin1_aae02 (p : Program) (l : Launch) (e : Env) (s : State) (m : MethodId) (below : List Frame) (meth : Method) (c : Code) (dC : Nat → ClassId) (dI : Nat → Nat → Nat) (cI cJ cB : ClassId) (st : Nat) (sz : Nat) (sn : Nat) (sb : Nat → Int32) (H : Heap) (locs : List Loc) (g : JFrame) : Prop := W p l e rm_J0_isLatin1_aae02 s m ([.ref st] : List Value).toArray below meth c H locs 0 0 (MQ below (qc_J0_isLatin1_aae02 dC dI cI cJ cB st sz sn sb) ([.ref st] : List Value).toArray s 0 0 (va_A (ww_J0_isLatin1_aae02 dC dI cI cJ cB st sz sn sb) sz)) g
set_option maxHeartbeats 4000000 in
set_option maxRecDepth 100000 in
theorem c_J0_isLatin1_aae02 (l : Launch) (dC : Nat → ClassId) (dI : Nat → Nat → Nat) (cI cJ cB : ClassId) (st : Nat) (sz : Nat) (sn : Nat) (sb : Nat → Int32) : Met l yJ0_isLatin1_aae02 wo_J0_isLatin1_aae02 rm_J0_isLatin1_aae02 (pc_J0_isLatin1_aae02 dC dI cI cJ cB st sz sn sb) (qc_J0_isLatin1_aae02 dC dI cI cJ cB st sz sn sb) 0 0 (va_A (ww_J0_isLatin1_aae02 dC dI cI cJ cB st sz sn sb) sz) := by
  refine Met.ofW (cc := cJ0_isLatin1_aae02) (maxL := 1) (ret := (some .boolean)) (by decide) rfl ?_
  intro p e s m args below meth c s₁ B hml hv
  obtain ⟨rfl, hsz, hnw, hsx, hsc, hP, hK, hD0⟩ := hv
  have hx := B.exec
  have hb := B.bytes
  have hr := B.returns
  have hts := atoms_spec (ws := wo_J0_isLatin1_aae02) B.pre
  have hown : s.vm.findClass RJ0 = some m.cls := findClass_of_methodNamed B.named
  have hlocks := B.notSynchronized
  clear B
  subst hsz
  have hD := hD0.self (sz := s.heap.size)
  clear hD0
  have kk0_ := hts (.fieldLink RJ0 38 "java/lang/String" "COMPACT_STRINGS" "Z") (by decide +kernel)
  have kk1_ := hts (.fieldLink RJ0 15 "java/lang/String" "coder" "B") (by decide +kernel)
  have hA : ∀ q : Nat, s.heap.size ≤ q → (va_A (ww_J0_isLatin1_aae02 dC dI cI cJ cB st s.heap.size sn sb) s.heap.size) q := fun q h => Or.inr h
  have hS : va_S (va_A (ww_J0_isLatin1_aae02 dC dI cI cJ cB st s.heap.size sn sb) s.heap.size) s.heap s.heap [] := va_S.rf
  have hl := lv_entry ([.ref st]) (n := 1) (Nat.le_of_ble_eq_true rfl)
  rw [lg_entry_eq]
  generalize (lg_sl ([.ref st]) ++ List.replicate (1 - (lg_sl ([.ref st])).length) Slot.unset).toArray = ls at hl ⊢
  have hl : lv_has ls 1 [(0, .ref st)] := hl
  have hP : va_P (dC, dI) vwCl [] s.heap := hP
  have hD : va_D (va_A (ww_J0_isLatin1_aae02 dC dI cI cJ cB st s.heap.size sn sb) s.heap.size) [] := hD
  obtain ⟨H, hH⟩ : ∃ H, H = s.heap := ⟨_, rfl⟩
  obtain ⟨locs, hlc⟩ : ∃ L : List Loc, L = [] := ⟨_, rfl⟩
  have hS : va_S (va_A (ww_J0_isLatin1_aae02 dC dI cI cJ cB st s.heap.size sn sb) s.heap.size) s.heap H locs := by rw [hH, hlc]; exact hS
  have hP : va_P (dC, dI) vwCl [] H := by rw [hH]; exact hP
  suffices hgo : WW_J0_isLatin1_aae02 p l e s m below meth c dC dI cI cJ cB st s.heap.size sn sb H locs (F0 m 0 ls []) by rw [hH, hlc] at hgo; exact hgo
  clear hH hlc
  obtain ⟨hs4, hsO, hsC, sv, hsV, hsT⟩ := hsx
  refine va_gets hx hb hsc.1 hS hown kk0_ (fun _ h9 => h9) dJ0_isLatin1_aae02_0 ?_
  refine lv_if_eq (tgt := 17) hx hb dJ0_isLatin1_aae02_3 (by decide) (fun c_1 => absurd c_1 (by decide)) (fun _ => ?_)
  refine lv_aload_n hx hb dJ0_isLatin1_aae02_6 rfl (lv_at hl 0 rfl) ?_
  refine vk_getf hx hb hsC hS hown kk1_ (fun _ h9 => h9) dJ0_isLatin1_aae02_7 ?_
  refine lv_if_ne (tgt := 17) hx hb dJ0_isLatin1_aae02_10 (by decide) (fun c_2 => absurd c_2 (by decide)) (fun _ => ?_)
  refine lv_iconst (v := 1) hx hb dJ0_isLatin1_aae02_13 (by decide) ?_
  refine lv_goto (tgt := 18) hx hb dJ0_isLatin1_aae02_14 (by decide) ?_
  have hP9 := hP.sub (ws' := []) [] rfl
  have hD9 := hD.sub (ws' := []) [] (by decide) rfl
  have r9_0 : (1 : Int32) = 1 := rfl
  exact W.zret (v := (1 : Int32)) hx hb hr rfl (fun t ht hW => ⟨⟨(1 : Int32), (), rfl, r9_0, by rw [ht]; exact hP9, va_K.moved hW.alike hK, hD9⟩, hS.F ht⟩) hS.2.2 dJ0_isLatin1_aae02_18
def wo_J3_checkIndex_8e157r : List Cond := .code yJ3_checkIndex_8e157 cJ3_checkIndex_8e157 3 (some .int) :: (([] : List Cond))
abbrev ww_J3_checkIndex_8e157r (dC : Nat → ClassId) (dI : Nat → Nat → Nat) (cI cJ cB : ClassId) (tq : Nat) (sz : Nat) (p0 : Int32) (p1 : Int32) : va_W := []
abbrev at_J3_checkIndex_8e157r (dC : Nat → ClassId) (dI : Nat → Nat → Nat) (cI cJ cB : ClassId) (tq : Nat) (sz : Nat) (p0 : Int32) (p1 : Int32) (u : Unit) (t : State) : Prop := match u with
  | () => va_P (dC, dI) vwCl [] t.heap ∧ va_K (dC, dI) vwCl (tyL cI cJ cB) t ∧ va_D (va_A (ww_J3_checkIndex_8e157r dC dI cI cJ cB tq sz p0 p1) sz) []
abbrev qc_J3_checkIndex_8e157r (dC : Nat → ClassId) (dI : Nat → Nat → Nat) (cI cJ cB : ClassId) (tq : Nat) (sz : Nat) (p0 : Int32) (p1 : Int32) : Array Value → State → Outcome → State → Prop := va_Qi (fun (r : Int32) (u : Unit) => match u with | () => True) (at_J3_checkIndex_8e157r dC dI cI cJ cB tq sz p0 p1) (va_A (ww_J3_checkIndex_8e157r dC dI cI cJ cB tq sz p0 p1) sz)
abbrev pc_J3_checkIndex_8e157r (dC : Nat → ClassId) (dI : Nat → Nat → Nat) (cI cJ cB : ClassId) (tq : Nat) (sz : Nat) (p0 : Int32) (p1 : Int32) : Array Value → State → Prop := va_Pc [.int p0, .int p1, .ref tq] (fun U => U.heap.size = sz ∧ NW U ∧ va_P (dC, dI) vwCl (ww_J3_checkIndex_8e157r dC dI cI cJ cB tq sz p0 p1) U.heap ∧ va_K (dC, dI) vwCl (tyL cI cJ cB) U ∧ va_D (fun _ => True) (ww_J3_checkIndex_8e157r dC dI cI cJ cB tq sz p0 p1))
abbrev rm_J3_checkIndex_8e157r : Room := { frames := 0, cells := 0, slots := 0, locals := 0 }
abbrev WW_J3_checkIndex_8e157r (p : Program) (l : Launch) (e : Env) (s : State) (m : MethodId) (below : List Frame) (meth : Method) (c : Code) (dC : Nat → ClassId) (dI : Nat → Nat → Nat) (cI cJ cB : ClassId) (tq : Nat) (sz : Nat) (p0 : Int32) (p1 : Int32) (H : Heap) (locs : List Loc) (g : JFrame) : Prop := W p l e rm_J3_checkIndex_8e157r s m ([.int p0, .int p1, .ref tq] : List Value).toArray below meth c H locs 0 0 (MQ below (qc_J3_checkIndex_8e157r dC dI cI cJ cB tq sz p0 p1) ([.int p0, .int p1, .ref tq] : List Value).toArray s 0 0 (va_A (ww_J3_checkIndex_8e157r dC dI cI cJ cB tq sz p0 p1) sz)) g
set_option maxHeartbeats 4000000 in
set_option maxRecDepth 100000 in
theorem c_J3_checkIndex_8e157r (l : Launch) (dC : Nat → ClassId) (dI : Nat → Nat → Nat) (cI cJ cB : ClassId) (tq : Nat) (sz : Nat) (p0 : Int32) (p1 : Int32) (hk0 : 0 ≤ p0.toInt ∧ p0.toInt < p1.toInt) : Met l yJ3_checkIndex_8e157 wo_J3_checkIndex_8e157r rm_J3_checkIndex_8e157r (pc_J3_checkIndex_8e157r dC dI cI cJ cB tq sz p0 p1) (qc_J3_checkIndex_8e157r dC dI cI cJ cB tq sz p0 p1) 0 0 (va_A (ww_J3_checkIndex_8e157r dC dI cI cJ cB tq sz p0 p1) sz) := by
  refine Met.ofW (cc := cJ3_checkIndex_8e157) (maxL := 3) (ret := (some .int)) (by decide) rfl ?_
  intro p e s m args below meth c s₁ B hml hv
  obtain ⟨rfl, hsz, hnw, hP, hK, hD0⟩ := hv
  have hx := B.exec
  have hb := B.bytes
  have hr := B.returns
  have hts := atoms_spec (ws := wo_J3_checkIndex_8e157r) B.pre
  have hown : s.vm.findClass RJ3 = some m.cls := findClass_of_methodNamed B.named
  have hlocks := B.notSynchronized
  clear B
  subst hsz
  have hD := hD0.self (sz := s.heap.size)
  clear hD0
  have hA : ∀ q : Nat, s.heap.size ≤ q → (va_A (ww_J3_checkIndex_8e157r dC dI cI cJ cB tq s.heap.size p0 p1) s.heap.size) q := fun q h => Or.inr h
  have hS : va_S (va_A (ww_J3_checkIndex_8e157r dC dI cI cJ cB tq s.heap.size p0 p1) s.heap.size) s.heap s.heap [] := va_S.rf
  have hl := lv_entry ([.int p0, .int p1, .ref tq]) (n := 3) (Nat.le_of_ble_eq_true rfl)
  rw [lg_entry_eq]
  generalize (lg_sl ([.int p0, .int p1, .ref tq]) ++ List.replicate (3 - (lg_sl ([.int p0, .int p1, .ref tq])).length) Slot.unset).toArray = ls at hl ⊢
  have hl : lv_has ls 3 [(0, .int p0), (1, .int p1), (2, .ref tq)] := hl
  have hP : va_P (dC, dI) vwCl [] s.heap := hP
  have hD : va_D (va_A (ww_J3_checkIndex_8e157r dC dI cI cJ cB tq s.heap.size p0 p1) s.heap.size) [] := hD
  obtain ⟨H, hH⟩ : ∃ H, H = s.heap := ⟨_, rfl⟩
  obtain ⟨locs, hlc⟩ : ∃ L : List Loc, L = [] := ⟨_, rfl⟩
  have hS : va_S (va_A (ww_J3_checkIndex_8e157r dC dI cI cJ cB tq s.heap.size p0 p1) s.heap.size) s.heap H locs := by rw [hH, hlc]; exact hS
  have hP : va_P (dC, dI) vwCl [] H := by rw [hH]; exact hP
  suffices hgo : WW_J3_checkIndex_8e157r p l e s m below meth c dC dI cI cJ cB tq s.heap.size p0 p1 H locs (F0 m 0 ls []) by rw [hH, hlc] at hgo; exact hgo
  clear hH hlc
  obtain ⟨hk1, hk2⟩ := hk0
  refine lv_iload_n hx hb dJ3_checkIndex_8e157_0 rfl (lv_at hl 0 rfl) ?_
  refine lv_if_lt (tgt := 9) hx hb dJ3_checkIndex_8e157_1 (by decide) (fun c_1 => ?_) (fun c_1 => ?_)
  · have tc_1 : p0.toInt < 0 := tb_lt_t c_1
    exfalso; omega
  · have tc_1 : 0 ≤ p0.toInt := tb_lt_f c_1
    refine lv_iload_n hx hb dJ3_checkIndex_8e157_4 rfl (lv_at hl 0 rfl) ?_
    refine lv_iload_n hx hb dJ3_checkIndex_8e157_5 rfl (lv_at hl 1 rfl) ?_
    refine lv_icmp_lt (tgt := 16) hx hb dJ3_checkIndex_8e157_6 (by decide) (fun c_2 => ?_) (fun c_2 => ?_)
    · have tc_2 : p0.toInt < p1.toInt := tb_lt_t c_2
      have := ti_rng p1
      refine lv_iload_n hx hb dJ3_checkIndex_8e157_16 rfl (lv_at hl 0 rfl) ?_
      have hP9 := hP.sub (ws' := []) [] rfl
      have hD9 := hD.sub (ws' := []) [] (by decide) rfl
      exact W.iret (v := p0) hx hb hr (fun t ht hW => ⟨⟨p0, (), rfl, trivial, by rw [ht]; exact hP9, va_K.moved hW.alike hK, hD9⟩, hS.F ht⟩) hS.2.2 dJ3_checkIndex_8e157_17
    · have tc_2 : p1.toInt ≤ p0.toInt := tb_lt_f c_2
      have := ti_rng p1
      exfalso; omega
def wo_J3_checkIndex_8e157n : List Cond := .code yJ3_checkIndex_8e157 cJ3_checkIndex_8e157 3 (some .int) :: (([] : List Cond))
abbrev ww_J3_checkIndex_8e157n (dC : Nat → ClassId) (dI : Nat → Nat → Nat) (cI cJ cB : ClassId) (sz : Nat) (p0 : Int32) (p1 : Int32) : va_W := []
abbrev at_J3_checkIndex_8e157n (dC : Nat → ClassId) (dI : Nat → Nat → Nat) (cI cJ cB : ClassId) (sz : Nat) (p0 : Int32) (p1 : Int32) (u : Unit) (t : State) : Prop := match u with
  | () => va_P (dC, dI) vwCl [] t.heap ∧ va_K (dC, dI) vwCl (tyL cI cJ cB) t ∧ va_D (va_A (ww_J3_checkIndex_8e157n dC dI cI cJ cB  sz p0 p1) sz) []
abbrev qc_J3_checkIndex_8e157n (dC : Nat → ClassId) (dI : Nat → Nat → Nat) (cI cJ cB : ClassId) (sz : Nat) (p0 : Int32) (p1 : Int32) : Array Value → State → Outcome → State → Prop := va_Qi (fun (r : Int32) (u : Unit) => match u with | () => True) (at_J3_checkIndex_8e157n dC dI cI cJ cB  sz p0 p1) (va_A (ww_J3_checkIndex_8e157n dC dI cI cJ cB  sz p0 p1) sz)
abbrev pc_J3_checkIndex_8e157n (dC : Nat → ClassId) (dI : Nat → Nat → Nat) (cI cJ cB : ClassId) (sz : Nat) (p0 : Int32) (p1 : Int32) : Array Value → State → Prop := va_Pc [.int p0, .int p1, .null] (fun U => U.heap.size = sz ∧ NW U ∧ va_P (dC, dI) vwCl (ww_J3_checkIndex_8e157n dC dI cI cJ cB  sz p0 p1) U.heap ∧ va_K (dC, dI) vwCl (tyL cI cJ cB) U ∧ va_D (fun _ => True) (ww_J3_checkIndex_8e157n dC dI cI cJ cB  sz p0 p1))
abbrev rm_J3_checkIndex_8e157n : Room := { frames := 0, cells := 0, slots := 0, locals := 0 }
abbrev WW_J3_checkIndex_8e157n (p : Program) (l : Launch) (e : Env) (s : State) (m : MethodId) (below : List Frame) (meth : Method) (c : Code) (dC : Nat → ClassId) (dI : Nat → Nat → Nat) (cI cJ cB : ClassId) (sz : Nat) (p0 : Int32) (p1 : Int32) (H : Heap) (locs : List Loc) (g : JFrame) : Prop := W p l e rm_J3_checkIndex_8e157n s m ([.int p0, .int p1, .null] : List Value).toArray below meth c H locs 0 0 (MQ below (qc_J3_checkIndex_8e157n dC dI cI cJ cB  sz p0 p1) ([.int p0, .int p1, .null] : List Value).toArray s 0 0 (va_A (ww_J3_checkIndex_8e157n dC dI cI cJ cB  sz p0 p1) sz)) g
set_option maxHeartbeats 4000000 in
set_option maxRecDepth 100000 in
theorem c_J3_checkIndex_8e157n (l : Launch) (dC : Nat → ClassId) (dI : Nat → Nat → Nat) (cI cJ cB : ClassId) (sz : Nat) (p0 : Int32) (p1 : Int32) (hk0 : 0 ≤ p0.toInt ∧ p0.toInt < p1.toInt) : Met l yJ3_checkIndex_8e157 wo_J3_checkIndex_8e157n rm_J3_checkIndex_8e157n (pc_J3_checkIndex_8e157n dC dI cI cJ cB  sz p0 p1) (qc_J3_checkIndex_8e157n dC dI cI cJ cB  sz p0 p1) 0 0 (va_A (ww_J3_checkIndex_8e157n dC dI cI cJ cB  sz p0 p1) sz) := by
  refine Met.ofW (cc := cJ3_checkIndex_8e157) (maxL := 3) (ret := (some .int)) (by decide) rfl ?_
  intro p e s m args below meth c s₁ B hml hv
  obtain ⟨rfl, hsz, hnw, hP, hK, hD0⟩ := hv
  have hx := B.exec
  have hb := B.bytes
  have hr := B.returns
  have hts := atoms_spec (ws := wo_J3_checkIndex_8e157n) B.pre
  have hown : s.vm.findClass RJ3 = some m.cls := findClass_of_methodNamed B.named
  have hlocks := B.notSynchronized
  clear B
  subst hsz
  have hD := hD0.self (sz := s.heap.size)
  clear hD0
  have hA : ∀ q : Nat, s.heap.size ≤ q → (va_A (ww_J3_checkIndex_8e157n dC dI cI cJ cB  s.heap.size p0 p1) s.heap.size) q := fun q h => Or.inr h
  have hS : va_S (va_A (ww_J3_checkIndex_8e157n dC dI cI cJ cB  s.heap.size p0 p1) s.heap.size) s.heap s.heap [] := va_S.rf
  have hl := lv_entry ([.int p0, .int p1, .null]) (n := 3) (Nat.le_of_ble_eq_true rfl)
  rw [lg_entry_eq]
  generalize (lg_sl ([.int p0, .int p1, .null]) ++ List.replicate (3 - (lg_sl ([.int p0, .int p1, .null])).length) Slot.unset).toArray = ls at hl ⊢
  have hl : lv_has ls 3 [(0, .int p0), (1, .int p1), (2, .null)] := hl
  have hP : va_P (dC, dI) vwCl [] s.heap := hP
  have hD : va_D (va_A (ww_J3_checkIndex_8e157n dC dI cI cJ cB  s.heap.size p0 p1) s.heap.size) [] := hD
  obtain ⟨H, hH⟩ : ∃ H, H = s.heap := ⟨_, rfl⟩
  obtain ⟨locs, hlc⟩ : ∃ L : List Loc, L = [] := ⟨_, rfl⟩
  have hS : va_S (va_A (ww_J3_checkIndex_8e157n dC dI cI cJ cB  s.heap.size p0 p1) s.heap.size) s.heap H locs := by rw [hH, hlc]; exact hS
  have hP : va_P (dC, dI) vwCl [] H := by rw [hH]; exact hP
  suffices hgo : WW_J3_checkIndex_8e157n p l e s m below meth c dC dI cI cJ cB  s.heap.size p0 p1 H locs (F0 m 0 ls []) by rw [hH, hlc] at hgo; exact hgo
  clear hH hlc
  obtain ⟨hk1, hk2⟩ := hk0
  refine lv_iload_n hx hb dJ3_checkIndex_8e157_0 rfl (lv_at hl 0 rfl) ?_
  refine lv_if_lt (tgt := 9) hx hb dJ3_checkIndex_8e157_1 (by decide) (fun c_1 => ?_) (fun c_1 => ?_)
  · have tc_1 : p0.toInt < 0 := tb_lt_t c_1
    exfalso; omega
  · have tc_1 : 0 ≤ p0.toInt := tb_lt_f c_1
    refine lv_iload_n hx hb dJ3_checkIndex_8e157_4 rfl (lv_at hl 0 rfl) ?_
    refine lv_iload_n hx hb dJ3_checkIndex_8e157_5 rfl (lv_at hl 1 rfl) ?_
    refine lv_icmp_lt (tgt := 16) hx hb dJ3_checkIndex_8e157_6 (by decide) (fun c_2 => ?_) (fun c_2 => ?_)
    · have tc_2 : p0.toInt < p1.toInt := tb_lt_t c_2
      have := ti_rng p1
      refine lv_iload_n hx hb dJ3_checkIndex_8e157_16 rfl (lv_at hl 0 rfl) ?_
      have hP9 := hP.sub (ws' := []) [] rfl
      have hD9 := hD.sub (ws' := []) [] (by decide) rfl
      exact W.iret (v := p0) hx hb hr (fun t ht hW => ⟨⟨p0, (), rfl, trivial, by rw [ht]; exact hP9, va_K.moved hW.alike hK, hD9⟩, hS.F ht⟩) hS.2.2 dJ3_checkIndex_8e157_17
    · have tc_2 : p1.toInt ≤ p0.toInt := tb_lt_f c_2
      have := ti_rng p1
      exfalso; omega
def wo_J0_checkIndex_df160 : List Cond := .code yJ0_checkIndex_df160 cJ0_checkIndex_df160 2 none :: (([.fieldLink RJ0 1053 "jdk/internal/util/Preconditions" "SIOOBE_FORMATTER" "Ljava/util/function/BiFunction;"] : List Cond) ++ ((va_wsS RJ0 1059 yJ3_checkIndex_8e157 wo_J3_checkIndex_8e157n) ++ ((va_wsS RJ0 1059 yJ3_checkIndex_8e157 wo_J3_checkIndex_8e157r))))
set_option maxRecDepth 20000 in
theorem go_wo_J0_checkIndex_df160_0 : GoodIn wo_J0_checkIndex_df160 (va_wsS RJ0 1059 yJ3_checkIndex_8e157 wo_J3_checkIndex_8e157n) := goodIn_sub (fun _ h => (List.mem_cons_of_mem _ (List.mem_append_right _ (List.mem_append_left _ h)))) (by decide +kernel)
set_option maxRecDepth 20000 in
theorem go_wo_J0_checkIndex_df160_1 : GoodIn wo_J0_checkIndex_df160 (va_wsS RJ0 1059 yJ3_checkIndex_8e157 wo_J3_checkIndex_8e157r) := goodIn_sub (fun _ h => (List.mem_cons_of_mem _ (List.mem_append_right _ (List.mem_append_right _ h)))) (by decide +kernel)
abbrev ww_J0_checkIndex_df160 (dC : Nat → ClassId) (dI : Nat → Nat → Nat) (cI cJ cB : ClassId) (sz : Nat) (p0 : Int32) (p1 : Int32) : va_W := []
abbrev at_J0_checkIndex_df160 (dC : Nat → ClassId) (dI : Nat → Nat → Nat) (cI cJ cB : ClassId) (sz : Nat) (p0 : Int32) (p1 : Int32) (u : Unit) (t : State) : Prop := match u with
  | () => va_P (dC, dI) vwCl [] t.heap ∧ va_K (dC, dI) vwCl (tyL cI cJ cB) t ∧ va_D (va_A (ww_J0_checkIndex_df160 dC dI cI cJ cB  sz p0 p1) sz) []
abbrev qc_J0_checkIndex_df160 (dC : Nat → ClassId) (dI : Nat → Nat → Nat) (cI cJ cB : ClassId) (sz : Nat) (p0 : Int32) (p1 : Int32) : Array Value → State → Outcome → State → Prop := va_Qv (fun (u : Unit) => match u with | () => True) (at_J0_checkIndex_df160 dC dI cI cJ cB  sz p0 p1) (va_A (ww_J0_checkIndex_df160 dC dI cI cJ cB  sz p0 p1) sz)
abbrev pc_J0_checkIndex_df160 (dC : Nat → ClassId) (dI : Nat → Nat → Nat) (cI cJ cB : ClassId) (sz : Nat) (p0 : Int32) (p1 : Int32) : Array Value → State → Prop := va_Pc [.int p0, .int p1] (fun U => U.heap.size = sz ∧ NW U ∧ ZC () (va_A (ww_J0_checkIndex_df160 dC dI cI cJ cB  sz p0 p1) sz) U U.heap ∧ va_P (dC, dI) vwCl (ww_J0_checkIndex_df160 dC dI cI cJ cB  sz p0 p1) U.heap ∧ va_K (dC, dI) vwCl (tyL cI cJ cB) U ∧ va_D (fun _ => True) (ww_J0_checkIndex_df160 dC dI cI cJ cB  sz p0 p1))
abbrev rm_J0_checkIndex_df160 : Room := { frames := 1, cells := 0, slots := 0, locals := 22 }
abbrev WW_J0_checkIndex_df160 (p : Program) (l : Launch) (e : Env) (s : State) (m : MethodId) (below : List Frame) (meth : Method) (c : Code) (dC : Nat → ClassId) (dI : Nat → Nat → Nat) (cI cJ cB : ClassId) (sz : Nat) (p0 : Int32) (p1 : Int32) (H : Heap) (locs : List Loc) (g : JFrame) : Prop := W p l e rm_J0_checkIndex_df160 s m ([.int p0, .int p1] : List Value).toArray below meth c H locs 0 0 (MQ below (qc_J0_checkIndex_df160 dC dI cI cJ cB  sz p0 p1) ([.int p0, .int p1] : List Value).toArray s 0 0 (va_A (ww_J0_checkIndex_df160 dC dI cI cJ cB  sz p0 p1) sz)) g
set_option maxHeartbeats 4000000 in
set_option maxRecDepth 100000 in
theorem c_J0_checkIndex_df160 (l : Launch) (dC : Nat → ClassId) (dI : Nat → Nat → Nat) (cI cJ cB : ClassId) (sz : Nat) (p0 : Int32) (p1 : Int32) (hk0 : 0 ≤ p0.toInt ∧ p0.toInt < p1.toInt) : Met l yJ0_checkIndex_df160 wo_J0_checkIndex_df160 rm_J0_checkIndex_df160 (pc_J0_checkIndex_df160 dC dI cI cJ cB  sz p0 p1) (qc_J0_checkIndex_df160 dC dI cI cJ cB  sz p0 p1) 0 0 (va_A (ww_J0_checkIndex_df160 dC dI cI cJ cB  sz p0 p1) sz) := by
  refine Met.ofW (cc := cJ0_checkIndex_df160) (maxL := 2) (ret := none) (by decide) rfl ?_
  intro p e s m args below meth c s₁ B hml hv
  obtain ⟨rfl, hsz, hnw, hsc, hP, hK, hD0⟩ := hv
  have hx := B.exec
  have hb := B.bytes
  have hr := B.returns
  have hts := atoms_spec (ws := wo_J0_checkIndex_df160) B.pre
  have hown : s.vm.findClass RJ0 = some m.cls := findClass_of_methodNamed B.named
  have hlocks := B.notSynchronized
  clear B
  subst hsz
  have hD := hD0.self (sz := s.heap.size)
  clear hD0
  have kk0_ := hts (.fieldLink RJ0 1053 "jdk/internal/util/Preconditions" "SIOOBE_FORMATTER" "Ljava/util/function/BiFunction;") (by decide +kernel)
  have hA : ∀ q : Nat, s.heap.size ≤ q → (va_A (ww_J0_checkIndex_df160 dC dI cI cJ cB  s.heap.size p0 p1) s.heap.size) q := fun q h => Or.inr h
  have hS : va_S (va_A (ww_J0_checkIndex_df160 dC dI cI cJ cB  s.heap.size p0 p1) s.heap.size) s.heap s.heap [] := va_S.rf
  have hl := lv_entry ([.int p0, .int p1]) (n := 2) (Nat.le_of_ble_eq_true rfl)
  rw [lg_entry_eq]
  generalize (lg_sl ([.int p0, .int p1]) ++ List.replicate (2 - (lg_sl ([.int p0, .int p1])).length) Slot.unset).toArray = ls at hl ⊢
  have hl : lv_has ls 2 [(0, .int p0), (1, .int p1)] := hl
  have hP : va_P (dC, dI) vwCl [] s.heap := hP
  have hD : va_D (va_A (ww_J0_checkIndex_df160 dC dI cI cJ cB  s.heap.size p0 p1) s.heap.size) [] := hD
  obtain ⟨H, hH⟩ : ∃ H, H = s.heap := ⟨_, rfl⟩
  obtain ⟨locs, hlc⟩ : ∃ L : List Loc, L = [] := ⟨_, rfl⟩
  have hS : va_S (va_A (ww_J0_checkIndex_df160 dC dI cI cJ cB  s.heap.size p0 p1) s.heap.size) s.heap H locs := by rw [hH, hlc]; exact hS
  have hP : va_P (dC, dI) vwCl [] H := by rw [hH]; exact hP
  suffices hgo : WW_J0_checkIndex_df160 p l e s m below meth c dC dI cI cJ cB  s.heap.size p0 p1 H locs (F0 m 0 ls []) by rw [hH, hlc] at hgo; exact hgo
  clear hH hlc
  refine lv_iload_n hx hb dJ0_checkIndex_df160_0 rfl (lv_at hl 0 rfl) ?_
  refine lv_iload_n hx hb dJ0_checkIndex_df160_1 rfl (lv_at hl 1 rfl) ?_
  rcases hsc.2 with hZq | ⟨tq, hZq⟩
  · refine va_gets hx hb hZq hS hown kk0_ (fun _ h9 => h9) dJ0_checkIndex_df160_2 ?_
    have hPc := hP.sub (ws' := []) [] rfl
    have hDc := hD.sub (ws' := []) [] (by decide) rfl
    have hFc := va_free (wc := []) hD hS hA [] rfl
    refine va_calli (va_runS (As := [.int p0, .int p1, .null]) (rest := []) ⟨hx, hb, hml, hown, hts⟩ (c_J3_checkIndex_8e157n l dC dI cI cJ cB  H.size p0 p1 (hk0)) (va_cwS 3 hts go_wo_J0_checkIndex_df160_0 rfl rfl rfl (by decide +kernel) ⟨Nat.le_of_ble_eq_true rfl, Nat.le_of_ble_eq_true rfl⟩) ⟨fun a U g mk q => by obtain ⟨q0, q1, qN, qP, qK, qD⟩ := q; exact ⟨q0, q1, NW.calling qN, qP, va_K.moved (u := U) (U := U.calling g mk a) (Vm.Alike.refl U.vm) qK, qD⟩, fun U hU hW => ⟨rfl, by rw [hU], NW.warm hW hnw, by rw [hU]; exact hPc, va_K.moved hW.alike hK, hDc.weaken (fun _ _ _ _ => trivial)⟩⟩ rfl rfl hl.1 rfl (lv_room (Nat.le_of_ble_eq_true rfl)) dJ0_checkIndex_df160_5 ⟨Nat.zero_le _, Nat.zero_le _⟩) hS (fun q _ h => hFc q h) hFc (fun r_1 u t H1 locs ht hvm hw hB hz1 hk1 hS => ?_)
    cases u
    obtain ⟨hP1, hK1, hD1⟩ := hB
    rw [ht] at hP1
    clear hw
    obtain ⟨hP, hD⟩ := va_join (wr := []) (w1 := []) hP hD [] [] rfl rfl (by decide) (by decide) hk1 hFc hP1 hD1
    generalize H1 = H at hP hS ⊢
    have hP : va_P (dC, dI) vwCl [] H := hP
    have hD : va_D (va_A (ww_J0_checkIndex_df160 dC dI cI cJ cB  s.heap.size p0 p1) s.heap.size) [] := hD
    clear hPc hDc hFc hP1 hK1 hD1 hk1 hz1 ht hvm
    refine lv_pop hx hb dJ0_checkIndex_df160_8 rfl ?_
    have hP9 := hP.sub (ws' := []) [] rfl
    have hD9 := hD.sub (ws' := []) [] (by decide) rfl
    exact W.vret hx hb hr (fun t ht hW => ⟨⟨(), rfl, trivial, by rw [ht]; exact hP9, va_K.moved hW.alike hK, hD9⟩, hS.F ht⟩) hS.2.2 dJ0_checkIndex_df160_9
  · refine va_gets hx hb hZq hS hown kk0_ (fun _ h9 => h9) dJ0_checkIndex_df160_2 ?_
    have hPc := hP.sub (ws' := []) [] rfl
    have hDc := hD.sub (ws' := []) [] (by decide) rfl
    have hFc := va_free (wc := []) hD hS hA [] rfl
    refine va_calli (va_runS (As := [.int p0, .int p1, .ref tq]) (rest := []) ⟨hx, hb, hml, hown, hts⟩ (c_J3_checkIndex_8e157r l dC dI cI cJ cB tq H.size p0 p1 (hk0)) (va_cwS 3 hts go_wo_J0_checkIndex_df160_1 rfl rfl rfl (by decide +kernel) ⟨Nat.le_of_ble_eq_true rfl, Nat.le_of_ble_eq_true rfl⟩) ⟨fun a U g mk q => by obtain ⟨q0, q1, qN, qP, qK, qD⟩ := q; exact ⟨q0, q1, NW.calling qN, qP, va_K.moved (u := U) (U := U.calling g mk a) (Vm.Alike.refl U.vm) qK, qD⟩, fun U hU hW => ⟨rfl, by rw [hU], NW.warm hW hnw, by rw [hU]; exact hPc, va_K.moved hW.alike hK, hDc.weaken (fun _ _ _ _ => trivial)⟩⟩ rfl rfl hl.1 rfl (lv_room (Nat.le_of_ble_eq_true rfl)) dJ0_checkIndex_df160_5 ⟨Nat.zero_le _, Nat.zero_le _⟩) hS (fun q _ h => hFc q h) hFc (fun r_2 u t H1 locs ht hvm hw hB hz1 hk1 hS => ?_)
    cases u
    obtain ⟨hP1, hK1, hD1⟩ := hB
    rw [ht] at hP1
    clear hw
    obtain ⟨hP, hD⟩ := va_join (wr := []) (w1 := []) hP hD [] [] rfl rfl (by decide) (by decide) hk1 hFc hP1 hD1
    generalize H1 = H at hP hS ⊢
    have hP : va_P (dC, dI) vwCl [] H := hP
    have hD : va_D (va_A (ww_J0_checkIndex_df160 dC dI cI cJ cB  s.heap.size p0 p1) s.heap.size) [] := hD
    clear hPc hDc hFc hP1 hK1 hD1 hk1 hz1 ht hvm
    refine lv_pop hx hb dJ0_checkIndex_df160_8 rfl ?_
    have hP9 := hP.sub (ws' := []) [] rfl
    have hD9 := hD.sub (ws' := []) [] (by decide) rfl
    exact W.vret hx hb hr (fun t ht hW => ⟨⟨(), rfl, trivial, by rw [ht]; exact hP9, va_K.moved hW.alike hK, hD9⟩, hS.F ht⟩) hS.2.2 dJ0_checkIndex_df160_9
def wo_J1_charAt_3b067 : List Cond := .code yJ1_charAt_3b067 cJ1_charAt_3b067 2 (some .char) :: (([] : List Cond) ++ ((va_wsS RJ1 9 yJ0_checkIndex_df160 wo_J0_checkIndex_df160)))
set_option maxRecDepth 20000 in
theorem go_wo_J1_charAt_3b067_0 : GoodIn wo_J1_charAt_3b067 (va_wsS RJ1 9 yJ0_checkIndex_df160 wo_J0_checkIndex_df160) := goodIn_sub (fun _ h => (List.mem_cons_of_mem _ (List.mem_append_right _ h))) (by decide +kernel)
abbrev ww_J1_charAt_3b067 (dC : Nat → ClassId) (dI : Nat → Nat → Nat) (cI cJ cB : ClassId) (sv : Nat) (sz : Nat) (sn : Nat) (sb : Nat → Int32) (p0 : Int32) : va_W := []
abbrev at_J1_charAt_3b067 (dC : Nat → ClassId) (dI : Nat → Nat → Nat) (cI cJ cB : ClassId) (sv : Nat) (sz : Nat) (sn : Nat) (sb : Nat → Int32) (p0 : Int32) (u : Unit) (t : State) : Prop := match u with
  | () => va_P (dC, dI) vwCl [] t.heap ∧ va_K (dC, dI) vwCl (tyL cI cJ cB) t ∧ va_D (va_A (ww_J1_charAt_3b067 dC dI cI cJ cB sv sz sn sb p0) sz) []
abbrev qc_J1_charAt_3b067 (dC : Nat → ClassId) (dI : Nat → Nat → Nat) (cI cJ cB : ClassId) (sv : Nat) (sz : Nat) (sn : Nat) (sb : Nat → Int32) (p0 : Int32) : Array Value → State → Outcome → State → Prop := va_Qi (fun (r : Int32) (u : Unit) => match u with | () => (narrow .char (.int r) = .int r) ∧ (r = sb (p0).toNatClampNeg &&& 255)) (at_J1_charAt_3b067 dC dI cI cJ cB sv sz sn sb p0) (va_A (ww_J1_charAt_3b067 dC dI cI cJ cB sv sz sn sb p0) sz)
abbrev pc_J1_charAt_3b067 (dC : Nat → ClassId) (dI : Nat → Nat → Nat) (cI cJ cB : ClassId) (sv : Nat) (sz : Nat) (sn : Nat) (sb : Nat → Int32) (p0 : Int32) : Array Value → State → Prop := va_Pc [.ref sv, .int p0] (fun U => U.heap.size = sz ∧ NW U ∧ ZV sv sn sb (va_A (ww_J1_charAt_3b067 dC dI cI cJ cB sv sz sn sb p0) sz) U U.heap ∧ ZC () (va_A (ww_J1_charAt_3b067 dC dI cI cJ cB sv sz sn sb p0) sz) U U.heap ∧ va_P (dC, dI) vwCl (ww_J1_charAt_3b067 dC dI cI cJ cB sv sz sn sb p0) U.heap ∧ va_K (dC, dI) vwCl (tyL cI cJ cB) U ∧ va_D (fun _ => True) (ww_J1_charAt_3b067 dC dI cI cJ cB sv sz sn sb p0))
abbrev rm_J1_charAt_3b067 : Room := { frames := 2, cells := 0, slots := 0, locals := 43 }
abbrev WW_J1_charAt_3b067 (p : Program) (l : Launch) (e : Env) (s : State) (m : MethodId) (below : List Frame) (meth : Method) (c : Code) (dC : Nat → ClassId) (dI : Nat → Nat → Nat) (cI cJ cB : ClassId) (sv : Nat) (sz : Nat) (sn : Nat) (sb : Nat → Int32) (p0 : Int32) (H : Heap) (locs : List Loc) (g : JFrame) : Prop := W p l e rm_J1_charAt_3b067 s m ([.ref sv, .int p0] : List Value).toArray below meth c H locs 0 0 (MQ below (qc_J1_charAt_3b067 dC dI cI cJ cB sv sz sn sb p0) ([.ref sv, .int p0] : List Value).toArray s 0 0 (va_A (ww_J1_charAt_3b067 dC dI cI cJ cB sv sz sn sb p0) sz)) g
set_option maxHeartbeats 4000000 in
set_option maxRecDepth 100000 in
theorem c_J1_charAt_3b067 (l : Launch) (dC : Nat → ClassId) (dI : Nat → Nat → Nat) (cI cJ cB : ClassId) (sv : Nat) (sz : Nat) (sn : Nat) (sb : Nat → Int32) (p0 : Int32) (hk0 : 0 ≤ p0.toInt ∧ p0.toInt < sn) : Met l yJ1_charAt_3b067 wo_J1_charAt_3b067 rm_J1_charAt_3b067 (pc_J1_charAt_3b067 dC dI cI cJ cB sv sz sn sb p0) (qc_J1_charAt_3b067 dC dI cI cJ cB sv sz sn sb p0) 0 0 (va_A (ww_J1_charAt_3b067 dC dI cI cJ cB sv sz sn sb p0) sz) := by
  refine Met.ofW (cc := cJ1_charAt_3b067) (maxL := 2) (ret := (some .char)) (by decide) rfl ?_
  intro p e s m args below meth c s₁ B hml hv
  obtain ⟨rfl, hsz, hnw, hsv, hsc, hP, hK, hD0⟩ := hv
  have hx := B.exec
  have hb := B.bytes
  have hr := B.returns
  have hts := atoms_spec (ws := wo_J1_charAt_3b067) B.pre
  have hown : s.vm.findClass RJ1 = some m.cls := findClass_of_methodNamed B.named
  have hlocks := B.notSynchronized
  clear B
  subst hsz
  have hD := hD0.self (sz := s.heap.size)
  clear hD0
  have hA : ∀ q : Nat, s.heap.size ≤ q → (va_A (ww_J1_charAt_3b067 dC dI cI cJ cB sv s.heap.size sn sb p0) s.heap.size) q := fun q h => Or.inr h
  have hS : va_S (va_A (ww_J1_charAt_3b067 dC dI cI cJ cB sv s.heap.size sn sb p0) s.heap.size) s.heap s.heap [] := va_S.rf
  have hl := lv_entry ([.ref sv, .int p0]) (n := 2) (Nat.le_of_ble_eq_true rfl)
  rw [lg_entry_eq]
  generalize (lg_sl ([.ref sv, .int p0]) ++ List.replicate (2 - (lg_sl ([.ref sv, .int p0])).length) Slot.unset).toArray = ls at hl ⊢
  have hl : lv_has ls 2 [(0, .ref sv), (1, .int p0)] := hl
  have hP : va_P (dC, dI) vwCl [] s.heap := hP
  have hD : va_D (va_A (ww_J1_charAt_3b067 dC dI cI cJ cB sv s.heap.size sn sb p0) s.heap.size) [] := hD
  obtain ⟨H, hH⟩ : ∃ H, H = s.heap := ⟨_, rfl⟩
  obtain ⟨locs, hlc⟩ : ∃ L : List Loc, L = [] := ⟨_, rfl⟩
  have hS : va_S (va_A (ww_J1_charAt_3b067 dC dI cI cJ cB sv s.heap.size sn sb p0) s.heap.size) s.heap H locs := by rw [hH, hlc]; exact hS
  have hP : va_P (dC, dI) vwCl [] H := by rw [hH]; exact hP
  suffices hgo : WW_J1_charAt_3b067 p l e s m below meth c dC dI cI cJ cB sv s.heap.size sn sb p0 H locs (F0 m 0 ls []) by rw [hH, hlc] at hgo; exact hgo
  clear hH hlc
  obtain ⟨hs4, hsT⟩ := hsv
  obtain ⟨hk1, hk2⟩ := hk0
  refine lv_iload_n hx hb dJ1_charAt_3b067_0 rfl (lv_at hl 1 rfl) ?_
  refine lv_aload_n hx hb dJ1_charAt_3b067_1 rfl (lv_at hl 0 rfl) ?_
  refine va_tlen (v := nI sn) hx hb hsT hS rfl dJ1_charAt_3b067_2 ?_
  refine lv_topi (fun y_1 ey_1 => ?_)
  have tey_1 : y_1.toInt = ((sn : Nat) : Int) := by rw [ey_1]; exact nI_toInt (by omega)
  have hPc := hP.sub (ws' := []) [] rfl
  have hDc := hD.sub (ws' := []) [] (by decide) rfl
  have hFc := va_free (wc := []) hD hS hA [] rfl
  refine va_callv (va_runS (As := [.int p0, .int y_1]) (rest := []) ⟨hx, hb, hml, hown, hts⟩ (c_J0_checkIndex_df160 l dC dI cI cJ cB  H.size p0 y_1 (⟨by omega, by omega⟩)) (va_cwS 2 hts go_wo_J1_charAt_3b067_0 rfl rfl rfl (by decide +kernel) ⟨Nat.le_of_ble_eq_true rfl, Nat.le_of_ble_eq_true rfl⟩) ⟨fun a U g mk q => by obtain ⟨q0, q1, qN, qS0, qP, qK, qD⟩ := q; exact ⟨q0, q1, NW.calling qN, ZC.calling qS0, qP, va_K.moved (u := U) (U := U.calling g mk a) (Vm.Alike.refl U.vm) qK, qD⟩, fun U hU hW => ⟨rfl, by rw [hU], NW.warm hW hnw, ZC.go hW hsc hS hU hFc, by rw [hU]; exact hPc, va_K.moved hW.alike hK, hDc.weaken (fun _ _ _ _ => trivial)⟩⟩ rfl rfl hl.1 rfl (lv_room (Nat.le_of_ble_eq_true rfl)) dJ1_charAt_3b067_3 ⟨Nat.zero_le _, Nat.zero_le _⟩) hS (fun q _ h => hFc q h) hFc (fun u t H1 locs ht hvm hw hB hz1 hk1 hS => ?_)
  cases u
  obtain ⟨hP1, hK1, hD1⟩ := hB
  rw [ht] at hP1
  clear hw
  obtain ⟨hP, hD⟩ := va_join (wr := []) (w1 := []) hP hD [] [] rfl rfl (by decide) (by decide) hk1 hFc hP1 hD1
  generalize H1 = H at hP hS ⊢
  have hP : va_P (dC, dI) vwCl [] H := hP
  have hD : va_D (va_A (ww_J1_charAt_3b067 dC dI cI cJ cB sv s.heap.size sn sb p0) s.heap.size) [] := hD
  clear hPc hDc hFc hP1 hK1 hD1 hk1 hz1 ht hvm
  refine lv_aload_n hx hb dJ1_charAt_3b067_6 rfl (lv_at hl 0 rfl) ?_
  refine lv_iload_n hx hb dJ1_charAt_3b067_7 rfl (lv_at hl 1 rfl) ?_
  refine va_tb (v := .int (sb (p0).toNatClampNeg)) hx hb hsT hS (vp_in_iff.mpr ⟨by omega, by omega⟩) rfl dJ1_charAt_3b067_8 ?_
  refine lv_topi (fun y_3 ey_3 => ?_)
  refine lv_sipush (v := 255) hx hb dJ1_charAt_3b067_9 (by decide) ?_
  refine lv_iand hx hb dJ1_charAt_3b067_12 ?_
  refine lv_topi (fun y_4 ey_4 => ?_)
  have tey_4 := ti_mask (n := 255) ey_4 (by decide)
  refine lv_i2c hx hb dJ1_charAt_3b067_13 rfl ?_
  refine lv_topi (fun y_5 ey_5 => ?_)
  have hP9 := hP.sub (ws' := []) [] rfl
  have hD9 := hD.sub (ws' := []) [] (by decide) rfl
  have r9_0 : narrow .char (.int y_5) = .int y_5 := by rw [ey_5, ey_4, sc_c2]; exact sc_nar _
  have r9_1 : y_5 = sb (p0).toNatClampNeg &&& 255 := by rw [ey_5, ey_4, sc_c2, ey_3]
  exact W.zret (v := y_5) hx hb hr (by rw [ey_5, ey_4, sc_c2]; exact sc_nar _) (fun t ht hW => ⟨⟨y_5, (), rfl, ⟨r9_0, r9_1⟩, by rw [ht]; exact hP9, va_K.moved hW.alike hK, hD9⟩, hS.F ht⟩) hS.2.2 dJ1_charAt_3b067_14
def wo_J0_length_8abf5 : List Cond := .code yJ0_length_8abf5 cJ0_length_8abf5 1 (some .int) :: (([.fieldLink RJ0 9 "java/lang/String" "value" "[B"] : List Cond) ++ ((wsV RJ0 335 RJ0 yJ0_coder_7d493 wo_J0_coder_7d493)))
set_option maxRecDepth 20000 in
theorem go_wo_J0_length_8abf5_0 : GoodIn wo_J0_length_8abf5 (wsV RJ0 335 RJ0 yJ0_coder_7d493 wo_J0_coder_7d493) := goodIn_sub (fun _ h => (List.mem_cons_of_mem _ (List.mem_append_right _ h))) (by decide +kernel)
abbrev ww_J0_length_8abf5 (dC : Nat → ClassId) (dI : Nat → Nat → Nat) (cI cJ cB : ClassId) (st : Nat) (sz : Nat) (sn : Nat) (sb : Nat → Int32) : va_W := []
abbrev at_J0_length_8abf5 (dC : Nat → ClassId) (dI : Nat → Nat → Nat) (cI cJ cB : ClassId) (st : Nat) (sz : Nat) (sn : Nat) (sb : Nat → Int32) (u : Unit) (t : State) : Prop := match u with
  | () => va_P (dC, dI) vwCl [] t.heap ∧ va_K (dC, dI) vwCl (tyL cI cJ cB) t ∧ va_D (va_A (ww_J0_length_8abf5 dC dI cI cJ cB st sz sn sb) sz) []
abbrev qc_J0_length_8abf5 (dC : Nat → ClassId) (dI : Nat → Nat → Nat) (cI cJ cB : ClassId) (st : Nat) (sz : Nat) (sn : Nat) (sb : Nat → Int32) : Array Value → State → Outcome → State → Prop := va_Qi (fun (r : Int32) (u : Unit) => match u with | () => (r = nI sn)) (at_J0_length_8abf5 dC dI cI cJ cB st sz sn sb) (va_A (ww_J0_length_8abf5 dC dI cI cJ cB st sz sn sb) sz)
abbrev pc_J0_length_8abf5 (dC : Nat → ClassId) (dI : Nat → Nat → Nat) (cI cJ cB : ClassId) (st : Nat) (sz : Nat) (sn : Nat) (sb : Nat → Int32) : Array Value → State → Prop := va_Pc [.ref st] (fun U => U.heap.size = sz ∧ NW U ∧ ZX st sn sb (va_A (ww_J0_length_8abf5 dC dI cI cJ cB st sz sn sb) sz) U U.heap ∧ ZC () (va_A (ww_J0_length_8abf5 dC dI cI cJ cB st sz sn sb) sz) U U.heap ∧ va_P (dC, dI) vwCl (ww_J0_length_8abf5 dC dI cI cJ cB st sz sn sb) U.heap ∧ va_K (dC, dI) vwCl (tyL cI cJ cB) U ∧ va_D (fun _ => True) (ww_J0_length_8abf5 dC dI cI cJ cB st sz sn sb))
abbrev rm_J0_length_8abf5 : Room := { frames := 1, cells := 0, slots := 0, locals := 20 }
abbrev WW_J0_length_8abf5 (p : Program) (l : Launch) (e : Env) (s : State) (m : MethodId) (below : List Frame) (meth : Method) (c : Code) (dC : Nat → ClassId) (dI : Nat → Nat → Nat) (cI cJ cB : ClassId) (st : Nat) (sz : Nat) (sn : Nat) (sb : Nat → Int32) (H : Heap) (locs : List Loc) (g : JFrame) : Prop := W p l e rm_J0_length_8abf5 s m ([.ref st] : List Value).toArray below meth c H locs 0 0 (MQ below (qc_J0_length_8abf5 dC dI cI cJ cB st sz sn sb) ([.ref st] : List Value).toArray s 0 0 (va_A (ww_J0_length_8abf5 dC dI cI cJ cB st sz sn sb) sz)) g
set_option maxHeartbeats 4000000 in
set_option maxRecDepth 100000 in
theorem c_J0_length_8abf5 (l : Launch) (dC : Nat → ClassId) (dI : Nat → Nat → Nat) (cI cJ cB : ClassId) (st : Nat) (sz : Nat) (sn : Nat) (sb : Nat → Int32) : Met l yJ0_length_8abf5 wo_J0_length_8abf5 rm_J0_length_8abf5 (pc_J0_length_8abf5 dC dI cI cJ cB st sz sn sb) (qc_J0_length_8abf5 dC dI cI cJ cB st sz sn sb) 0 0 (va_A (ww_J0_length_8abf5 dC dI cI cJ cB st sz sn sb) sz) := by
  refine Met.ofW (cc := cJ0_length_8abf5) (maxL := 1) (ret := (some .int)) (by decide) rfl ?_
  intro p e s m args below meth c s₁ B hml hv
  obtain ⟨rfl, hsz, hnw, hsx, hsc, hP, hK, hD0⟩ := hv
  have hx := B.exec
  have hb := B.bytes
  have hr := B.returns
  have hts := atoms_spec (ws := wo_J0_length_8abf5) B.pre
  have hown : s.vm.findClass RJ0 = some m.cls := findClass_of_methodNamed B.named
  have hlocks := B.notSynchronized
  clear B
  subst hsz
  have hD := hD0.self (sz := s.heap.size)
  clear hD0
  have kk0_ := hts (.fieldLink RJ0 9 "java/lang/String" "value" "[B") (by decide +kernel)
  have hA : ∀ q : Nat, s.heap.size ≤ q → (va_A (ww_J0_length_8abf5 dC dI cI cJ cB st s.heap.size sn sb) s.heap.size) q := fun q h => Or.inr h
  have hS : va_S (va_A (ww_J0_length_8abf5 dC dI cI cJ cB st s.heap.size sn sb) s.heap.size) s.heap s.heap [] := va_S.rf
  have hl := lv_entry ([.ref st]) (n := 1) (Nat.le_of_ble_eq_true rfl)
  rw [lg_entry_eq]
  generalize (lg_sl ([.ref st]) ++ List.replicate (1 - (lg_sl ([.ref st])).length) Slot.unset).toArray = ls at hl ⊢
  have hl : lv_has ls 1 [(0, .ref st)] := hl
  have hP : va_P (dC, dI) vwCl [] s.heap := hP
  have hD : va_D (va_A (ww_J0_length_8abf5 dC dI cI cJ cB st s.heap.size sn sb) s.heap.size) [] := hD
  obtain ⟨H, hH⟩ : ∃ H, H = s.heap := ⟨_, rfl⟩
  obtain ⟨locs, hlc⟩ : ∃ L : List Loc, L = [] := ⟨_, rfl⟩
  have hS : va_S (va_A (ww_J0_length_8abf5 dC dI cI cJ cB st s.heap.size sn sb) s.heap.size) s.heap H locs := by rw [hH, hlc]; exact hS
  have hP : va_P (dC, dI) vwCl [] H := by rw [hH]; exact hP
  suffices hgo : WW_J0_length_8abf5 p l e s m below meth c dC dI cI cJ cB st s.heap.size sn sb H locs (F0 m 0 ls []) by rw [hH, hlc] at hgo; exact hgo
  clear hH hlc
  have hsx8 := hsx; obtain ⟨hs4, hsO, hsC, sv, hsV, hsT⟩ := hsx8
  refine lv_aload_n hx hb dJ0_length_8abf5_0 rfl (lv_at hl 0 rfl) ?_
  refine vk_getf hx hb hsV hS hown kk0_ (fun _ h9 => h9) dJ0_length_8abf5_1 ?_
  refine va_tlen (v := nI sn) hx hb hsT hS rfl dJ0_length_8abf5_4 ?_
  refine lv_topi (fun y_1 ey_1 => ?_)
  have tey_1 : y_1.toInt = ((sn : Nat) : Int) := by rw [ey_1]; exact nI_toInt (by omega)
  refine lv_aload_n hx hb dJ0_length_8abf5_5 rfl (lv_at hl 0 rfl) ?_
  have hPc := hP.sub (ws' := []) [] rfl
  have hDc := hD.sub (ws' := []) [] (by decide) rfl
  have hFc := va_free (wc := []) hD hS hA [] rfl
  refine va_calli (va_runV (As := []) (rest := [.int y_1]) ⟨hx, hb, hml, hown, hts⟩ (c_J0_coder_7d493 l dC dI cI cJ cB st H.size sn sb) (cwV 0 hts go_wo_J0_length_8abf5_0 rfl rfl rfl (by decide +kernel) ⟨Nat.le_of_ble_eq_true rfl, Nat.le_of_ble_eq_true rfl⟩) ⟨fun a U g mk q => by obtain ⟨q0, q1, qN, qS0, qS1, qP, qK, qD⟩ := q; exact ⟨q0, q1, NW.calling qN, ZX.calling qS0, ZC.calling qS1, qP, va_K.moved (u := U) (U := U.calling g mk a) (Vm.Alike.refl U.vm) qK, qD⟩, ZO.recv hsx hS, fun U hU hW => ⟨rfl, by rw [hU], NW.warm hW hnw, ZX.go hW hsx hS hU hFc, ZC.go hW hsc hS hU hFc, by rw [hU]; exact hPc, va_K.moved hW.alike hK, hDc.weaken (fun _ _ _ _ => trivial)⟩⟩ rfl rfl hl.1 rfl (lv_room (Nat.le_of_ble_eq_true rfl)) dJ0_length_8abf5_6 ⟨Nat.zero_le _, Nat.zero_le _⟩) hS (fun q _ h => hFc q h) hFc (fun r_2 u t H1 locs ht hvm hw hB hz1 hk1 hS => ?_)
  cases u
  obtain ⟨hP1, hK1, hD1⟩ := hB
  rw [ht] at hP1
  have hw : (r_2 = 0) := hw
  have h_3 := hw
  subst h_3
  obtain ⟨hP, hD⟩ := va_join (wr := []) (w1 := []) hP hD [] [] rfl rfl (by decide) (by decide) hk1 hFc hP1 hD1
  generalize H1 = H at hP hS ⊢
  have hP : va_P (dC, dI) vwCl [] H := hP
  have hD : va_D (va_A (ww_J0_length_8abf5 dC dI cI cJ cB st s.heap.size sn sb) s.heap.size) [] := hD
  clear hPc hDc hFc hP1 hK1 hD1 hk1 hz1 ht hvm
  refine lv_ishr hx hb dJ0_length_8abf5_9 ?_
  refine lv_topi (fun y_4 ey_4 => ?_)
  skip
  have hP9 := hP.sub (ws' := []) [] rfl
  have hD9 := hD.sub (ws' := []) [] (by decide) rfl
  have r9_0 : y_4 = nI sn := by rw [show y_4 = y_1 from ey_4.trans (sc_shr0z (by omega) (by omega))]; exact ey_1
  exact W.iret (v := y_4) hx hb hr (fun t ht hW => ⟨⟨y_4, (), rfl, r9_0, by rw [ht]; exact hP9, va_K.moved hW.alike hK, hD9⟩, hS.F ht⟩) hS.2.2 dJ0_length_8abf5_10
def wo_J0_charAt_5068e : List Cond := .code yJ0_charAt_5068e cJ0_charAt_5068e 2 (some .char) :: (([.fieldLink RJ0 9 "java/lang/String" "value" "[B"] : List Cond) ++ ((wsV RJ0 492 RJ0 yJ0_isLatin1_aae02 wo_J0_isLatin1_aae02) ++ ((va_wsS RJ0 495 yJ1_charAt_3b067 wo_J1_charAt_3b067))))
set_option maxRecDepth 20000 in
theorem go_wo_J0_charAt_5068e_0 : GoodIn wo_J0_charAt_5068e (wsV RJ0 492 RJ0 yJ0_isLatin1_aae02 wo_J0_isLatin1_aae02) := goodIn_sub (fun _ h => (List.mem_cons_of_mem _ (List.mem_append_right _ (List.mem_append_left _ h)))) (by decide +kernel)
set_option maxRecDepth 20000 in
theorem go_wo_J0_charAt_5068e_1 : GoodIn wo_J0_charAt_5068e (va_wsS RJ0 495 yJ1_charAt_3b067 wo_J1_charAt_3b067) := goodIn_sub (fun _ h => (List.mem_cons_of_mem _ (List.mem_append_right _ (List.mem_append_right _ h)))) (by decide +kernel)
abbrev ww_J0_charAt_5068e (dC : Nat → ClassId) (dI : Nat → Nat → Nat) (cI cJ cB : ClassId) (st : Nat) (sz : Nat) (sn : Nat) (sb : Nat → Int32) (p0 : Int32) : va_W := []
abbrev at_J0_charAt_5068e (dC : Nat → ClassId) (dI : Nat → Nat → Nat) (cI cJ cB : ClassId) (st : Nat) (sz : Nat) (sn : Nat) (sb : Nat → Int32) (p0 : Int32) (u : Unit) (t : State) : Prop := match u with
  | () => va_P (dC, dI) vwCl [] t.heap ∧ va_K (dC, dI) vwCl (tyL cI cJ cB) t ∧ va_D (va_A (ww_J0_charAt_5068e dC dI cI cJ cB st sz sn sb p0) sz) []
abbrev qc_J0_charAt_5068e (dC : Nat → ClassId) (dI : Nat → Nat → Nat) (cI cJ cB : ClassId) (st : Nat) (sz : Nat) (sn : Nat) (sb : Nat → Int32) (p0 : Int32) : Array Value → State → Outcome → State → Prop := va_Qi (fun (r : Int32) (u : Unit) => match u with | () => (r = sb (p0).toNatClampNeg &&& 255)) (at_J0_charAt_5068e dC dI cI cJ cB st sz sn sb p0) (va_A (ww_J0_charAt_5068e dC dI cI cJ cB st sz sn sb p0) sz)
abbrev pc_J0_charAt_5068e (dC : Nat → ClassId) (dI : Nat → Nat → Nat) (cI cJ cB : ClassId) (st : Nat) (sz : Nat) (sn : Nat) (sb : Nat → Int32) (p0 : Int32) : Array Value → State → Prop := va_Pc [.ref st, .int p0] (fun U => U.heap.size = sz ∧ NW U ∧ ZX st sn sb (va_A (ww_J0_charAt_5068e dC dI cI cJ cB st sz sn sb p0) sz) U U.heap ∧ ZC () (va_A (ww_J0_charAt_5068e dC dI cI cJ cB st sz sn sb p0) sz) U U.heap ∧ va_P (dC, dI) vwCl (ww_J0_charAt_5068e dC dI cI cJ cB st sz sn sb p0) U.heap ∧ va_K (dC, dI) vwCl (tyL cI cJ cB) U ∧ va_D (fun _ => True) (ww_J0_charAt_5068e dC dI cI cJ cB st sz sn sb p0))
abbrev rm_J0_charAt_5068e : Room := { frames := 3, cells := 0, slots := 0, locals := 64 }
abbrev WW_J0_charAt_5068e (p : Program) (l : Launch) (e : Env) (s : State) (m : MethodId) (below : List Frame) (meth : Method) (c : Code) (dC : Nat → ClassId) (dI : Nat → Nat → Nat) (cI cJ cB : ClassId) (st : Nat) (sz : Nat) (sn : Nat) (sb : Nat → Int32) (p0 : Int32) (H : Heap) (locs : List Loc) (g : JFrame) : Prop := W p l e rm_J0_charAt_5068e s m ([.ref st, .int p0] : List Value).toArray below meth c H locs 0 0 (MQ below (qc_J0_charAt_5068e dC dI cI cJ cB st sz sn sb p0) ([.ref st, .int p0] : List Value).toArray s 0 0 (va_A (ww_J0_charAt_5068e dC dI cI cJ cB st sz sn sb p0) sz)) g
set_option maxHeartbeats 4000000 in
set_option maxRecDepth 100000 in
theorem c_J0_charAt_5068e (l : Launch) (dC : Nat → ClassId) (dI : Nat → Nat → Nat) (cI cJ cB : ClassId) (st : Nat) (sz : Nat) (sn : Nat) (sb : Nat → Int32) (p0 : Int32) (hk0 : 0 ≤ p0.toInt ∧ p0.toInt < sn) : Met l yJ0_charAt_5068e wo_J0_charAt_5068e rm_J0_charAt_5068e (pc_J0_charAt_5068e dC dI cI cJ cB st sz sn sb p0) (qc_J0_charAt_5068e dC dI cI cJ cB st sz sn sb p0) 0 0 (va_A (ww_J0_charAt_5068e dC dI cI cJ cB st sz sn sb p0) sz) := by
  refine Met.ofW (cc := cJ0_charAt_5068e) (maxL := 2) (ret := (some .char)) (by decide) rfl ?_
  intro p e s m args below meth c s₁ B hml hv
  obtain ⟨rfl, hsz, hnw, hsx, hsc, hP, hK, hD0⟩ := hv
  have hx := B.exec
  have hb := B.bytes
  have hr := B.returns
  have hts := atoms_spec (ws := wo_J0_charAt_5068e) B.pre
  have hown : s.vm.findClass RJ0 = some m.cls := findClass_of_methodNamed B.named
  have hlocks := B.notSynchronized
  clear B
  subst hsz
  have hD := hD0.self (sz := s.heap.size)
  clear hD0
  have kk0_ := hts (.fieldLink RJ0 9 "java/lang/String" "value" "[B") (by decide +kernel)
  have hA : ∀ q : Nat, s.heap.size ≤ q → (va_A (ww_J0_charAt_5068e dC dI cI cJ cB st s.heap.size sn sb p0) s.heap.size) q := fun q h => Or.inr h
  have hS : va_S (va_A (ww_J0_charAt_5068e dC dI cI cJ cB st s.heap.size sn sb p0) s.heap.size) s.heap s.heap [] := va_S.rf
  have hl := lv_entry ([.ref st, .int p0]) (n := 2) (Nat.le_of_ble_eq_true rfl)
  rw [lg_entry_eq]
  generalize (lg_sl ([.ref st, .int p0]) ++ List.replicate (2 - (lg_sl ([.ref st, .int p0])).length) Slot.unset).toArray = ls at hl ⊢
  have hl : lv_has ls 2 [(0, .ref st), (1, .int p0)] := hl
  have hP : va_P (dC, dI) vwCl [] s.heap := hP
  have hD : va_D (va_A (ww_J0_charAt_5068e dC dI cI cJ cB st s.heap.size sn sb p0) s.heap.size) [] := hD
  obtain ⟨H, hH⟩ : ∃ H, H = s.heap := ⟨_, rfl⟩
  obtain ⟨locs, hlc⟩ : ∃ L : List Loc, L = [] := ⟨_, rfl⟩
  have hS : va_S (va_A (ww_J0_charAt_5068e dC dI cI cJ cB st s.heap.size sn sb p0) s.heap.size) s.heap H locs := by rw [hH, hlc]; exact hS
  have hP : va_P (dC, dI) vwCl [] H := by rw [hH]; exact hP
  suffices hgo : WW_J0_charAt_5068e p l e s m below meth c dC dI cI cJ cB st s.heap.size sn sb p0 H locs (F0 m 0 ls []) by rw [hH, hlc] at hgo; exact hgo
  clear hH hlc
  have hsx8 := hsx; obtain ⟨hs4, hsO, hsC, sv, hsV, hsT⟩ := hsx8
  refine lv_aload_n hx hb dJ0_charAt_5068e_0 rfl (lv_at hl 0 rfl) ?_
  have hPc := hP.sub (ws' := []) [] rfl
  have hDc := hD.sub (ws' := []) [] (by decide) rfl
  have hFc := va_free (wc := []) hD hS hA [] rfl
  refine va_calli (va_runV (As := []) (rest := []) ⟨hx, hb, hml, hown, hts⟩ (c_J0_isLatin1_aae02 l dC dI cI cJ cB st H.size sn sb) (cwV 0 hts go_wo_J0_charAt_5068e_0 rfl rfl rfl (by decide +kernel) ⟨Nat.le_of_ble_eq_true rfl, Nat.le_of_ble_eq_true rfl⟩) ⟨fun a U g mk q => by obtain ⟨q0, q1, qN, qS0, qS1, qP, qK, qD⟩ := q; exact ⟨q0, q1, NW.calling qN, ZX.calling qS0, ZC.calling qS1, qP, va_K.moved (u := U) (U := U.calling g mk a) (Vm.Alike.refl U.vm) qK, qD⟩, ZO.recv hsx hS, fun U hU hW => ⟨rfl, by rw [hU], NW.warm hW hnw, ZX.go hW hsx hS hU hFc, ZC.go hW hsc hS hU hFc, by rw [hU]; exact hPc, va_K.moved hW.alike hK, hDc.weaken (fun _ _ _ _ => trivial)⟩⟩ rfl rfl hl.1 rfl (lv_room (Nat.le_of_ble_eq_true rfl)) dJ0_charAt_5068e_1 ⟨Nat.zero_le _, Nat.zero_le _⟩) hS (fun q _ h => hFc q h) hFc (fun r_1 u t H1 locs ht hvm hw hB hz1 hk1 hS => ?_)
  cases u
  obtain ⟨hP1, hK1, hD1⟩ := hB
  rw [ht] at hP1
  have hw : (r_1 = 1) := hw
  have h_2 := hw
  subst h_2
  obtain ⟨hP, hD⟩ := va_join (wr := []) (w1 := []) hP hD [] [] rfl rfl (by decide) (by decide) hk1 hFc hP1 hD1
  generalize H1 = H at hP hS ⊢
  have hP : va_P (dC, dI) vwCl [] H := hP
  have hD : va_D (va_A (ww_J0_charAt_5068e dC dI cI cJ cB st s.heap.size sn sb p0) s.heap.size) [] := hD
  clear hPc hDc hFc hP1 hK1 hD1 hk1 hz1 ht hvm
  refine lv_if_eq (tgt := 16) hx hb dJ0_charAt_5068e_4 (by decide) (fun c_3 => absurd c_3 (by decide)) (fun _ => ?_)
  refine lv_aload_n hx hb dJ0_charAt_5068e_7 rfl (lv_at hl 0 rfl) ?_
  refine vk_getf hx hb hsV hS hown kk0_ (fun _ h9 => h9) dJ0_charAt_5068e_8 ?_
  refine lv_iload_n hx hb dJ0_charAt_5068e_11 rfl (lv_at hl 1 rfl) ?_
  have hPc := hP.sub (ws' := []) [] rfl
  have hDc := hD.sub (ws' := []) [] (by decide) rfl
  have hFc := va_free (wc := []) hD hS hA [] rfl
  refine va_calli (va_runS (As := [.ref sv, .int p0]) (rest := []) ⟨hx, hb, hml, hown, hts⟩ (c_J1_charAt_3b067 l dC dI cI cJ cB sv H.size sn sb p0 (hk0)) (va_cwS 2 hts go_wo_J0_charAt_5068e_1 rfl rfl rfl (by decide +kernel) ⟨Nat.le_of_ble_eq_true rfl, Nat.le_of_ble_eq_true rfl⟩) ⟨fun a U g mk q => by obtain ⟨q0, q1, qN, qS0, qS1, qP, qK, qD⟩ := q; exact ⟨q0, q1, NW.calling qN, ZV.calling qS0, ZC.calling qS1, qP, va_K.moved (u := U) (U := U.calling g mk a) (Vm.Alike.refl U.vm) qK, qD⟩, fun U hU hW => ⟨rfl, by rw [hU], NW.warm hW hnw, ZV.go hW ⟨hs4, hsT⟩ hS hU hFc, ZC.go hW hsc hS hU hFc, by rw [hU]; exact hPc, va_K.moved hW.alike hK, hDc.weaken (fun _ _ _ _ => trivial)⟩⟩ rfl rfl hl.1 rfl (lv_room (Nat.le_of_ble_eq_true rfl)) dJ0_charAt_5068e_12 ⟨Nat.zero_le _, Nat.zero_le _⟩) hS (fun q _ h => hFc q h) hFc (fun r_4 u t H1 locs ht hvm hw hB hz1 hk1 hS => ?_)
  cases u
  obtain ⟨hP1, hK1, hD1⟩ := hB
  rw [ht] at hP1
  have hw : (narrow .char (.int r_4) = .int r_4) ∧ (r_4 = sb (p0).toNatClampNeg &&& 255) := hw
  obtain ⟨h_5, h_6⟩ := hw
  obtain ⟨hP, hD⟩ := va_join (wr := []) (w1 := []) hP hD [] [] rfl rfl (by decide) (by decide) hk1 hFc hP1 hD1
  generalize H1 = H at hP hS ⊢
  have hP : va_P (dC, dI) vwCl [] H := hP
  have hD : va_D (va_A (ww_J0_charAt_5068e dC dI cI cJ cB st s.heap.size sn sb p0) s.heap.size) [] := hD
  clear hPc hDc hFc hP1 hK1 hD1 hk1 hz1 ht hvm
  have hnr9 := h_5; have hnr8 := h_6
  have hP9 := hP.sub (ws' := []) [] rfl
  have hD9 := hD.sub (ws' := []) [] (by decide) rfl
  have r9_0 : r_4 = sb (p0).toNatClampNeg &&& 255 := hnr8
  exact W.zret (v := r_4) hx hb hr (hnr9) (fun t ht hW => ⟨⟨r_4, (), rfl, r9_0, by rw [ht]; exact hP9, va_K.moved hW.alike hK, hD9⟩, hS.F ht⟩) hS.2.2 dJ0_charAt_5068e_15
