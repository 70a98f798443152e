/-! THE CLAIM OUT OF ONE WALK OF THE LAW'S BODY. Your part is whole_start (and what it stands on); all else here is the same for every law, but numbers. -/
def R_law : String := "SumRewriterLaw"
def lw_P (b : Addr) (xs : List Int32) (args : Array Value) (s : State) : Prop := args = #[.ref b] ∧ s.IntsAt b xs ∧ xs.length ≤ 6 ∧ (Jvm.Cond.and given_1 narrow_1).before args s = true
def lw_Q (_ : Array Value) (s : State) (o : Outcome) (t : State) : Prop := o = .returned (some (.int 1)) ∧ Framed s o t [] 600002 7302232
def lw_Z (below : List Frame) (a : Array Value) (s : State) : State → Prop := fun t => ∃ o, t.status = .running ∧ Ended t below o ∧ lw_Q a s o t
/-- the law's own end, with 1 on the stack, nothing written that was there before, its room as the claim has it -/
theorem lw_ret {p : Program} {l : Launch} {e : Env} {s : State} {m : MethodId} {below : List Frame} {meth : Method} {c : Code} {b : Nat} (hx : p.tables.exec = Jvm.exec) (hb : c.code = code) (hr : meth.sig.returnType = ret) (hlocks : meth.locks = false) {pc : Nat} {H : Heap} {ls : Array Slot} (hdg : decode code pc = .ok (.ireturn, 1)) : W p l e room_1 s m #[Value.ref b] below meth c H [] 600002 7302232 (lw_Z below #[Value.ref b] s) (F0 m pc ls [.int 1]) := by
  intro T hT X
  obtain ⟨fs, hret, hrun, hended, hW, hframe⟩ := X.leave (v := some (.int 1)) (hlocks := hlocks) (fun h => by rw [hr] at h; cases h)
  have hmeth' : T.vm.method? m = some meth := X.method'
  refine ⟨T.setFrames fs, ?_, .returned (some (.int 1)), hrun, hended, rfl, ⟨_, rfl⟩, hW, hframe⟩
  jvm_step X.here [X.here.top, hx, hb, hdg, hmeth', hr, ret, narrow_b1]
  (try refine ⟨rfl, ?_⟩); (try refine ⟨rfl, ?_⟩)
  first | (intro acts; rw [hret _ acts rfl rfl rfl]) | rw [hret _ _ rfl rfl rfl]
  exact Steps.refl _
/-- what holds at the law's entry: the machine, the code, the tables' words (any of lw_tbl by 'hts w (by decide +kernel)'), the script of L ints xs at the cell b, what the Statement gives of the start (any of its parts by flat_of_before) -/
def lw_At (p : Program) (s : State) (m : MethodId) (meth : Method) (c : Code) (b L : Nat) (xs : Nat → Int32) : Prop :=
  p.tables.exec = Jvm.exec ∧ c.code = code ∧ meth.sig.returnType = ret ∧ c.maxLocals = 7 ∧ s.vm.findClass R_law = some m.cls ∧ (∀ w ∈ lw_tbl, w.before #[Value.ref b] s = true) ∧ va_X b L xs s s.heap ∧ b < s.heap.size ∧ meth.locks = false ∧ (Jvm.Cond.and given_1 narrow_1).before #[Value.ref b] s = true

theorem vk_Rex {own tx : String} {k : Nat} {cur : ClassId} {A : Array Value} {U : State} (hcur : U.vm.findClass own = some cur) (h : (Cond.stringRef own k tx).before A U = true) : ∃ a : Nat, vk_R own k tx a U := by
  obtain ⟨k9, cf, j, a, -, -, -, -, -, hev⟩ := Cond.stringRef_spec hcur h
  exact ⟨a, vk_R.of h hev⟩
set_option maxRecDepth 100000 in
theorem lb_nw : ∀ w ∈ nws, w ∈ lw_tbl := pl_in [some 201, some 237, some 199, some 205, some 375, some 395, some 439, some 493, some 550, some 553, some 239, some 399, some 279, some 197, some 203, some 198, some 204, some 374, some 492, some 277, some 373, some 438, some 430, some 231, some 234, some 241, some 189, some 225, some 829, some 828, some 1185, some 1340, some 1304, some 1408, some 1399, some 740, some 761, some 754, some 704, some 796] rfl (by decide +kernel)
set_option maxRecDepth 100000 in
theorem lb_nwo : ∀ w ∈ nws, w.onTables = true := by decide +kernel
set_option maxRecDepth 100000 in
theorem lb_str : ∀ q ∈ xstr, Cond.stringRef RX9 q.1 q.2 ∈ lw_tbl := by decide +kernel
set_option maxRecDepth 100000 in
theorem lb_cast : ∀ k, k < 4 → Cond.castable (exN k) (exN k) ∈ lw_tbl := by decide +kernel
set_option maxRecDepth 100000 in
theorem lb_decl : ∀ Y ∈ xsup, Cond.declares (Bundle.initS Y) ∈ lw_tbl := by decide +kernel
set_option maxRecDepth 100000 in
theorem lb_st1 : Cond.laysStatic Bundle.tN "UNASSIGNED_STACK" Bundle.steD ∈ lw_tbl := by decide +kernel
set_option maxRecDepth 100000 in
theorem lb_st2 : Cond.laysStatic Bundle.tN "SUPPRESSED_SENTINEL" Bundle.listD ∈ lw_tbl := by decide +kernel
set_option maxRecDepth 100000 in
theorem lb_ini : Cond.initialized Bundle.tN ∈ lw_tbl := by decide +kernel
set_option maxRecDepth 100000 in
theorem lb_rf1 : Cond.isRef (.static Bundle.tN "UNASSIGNED_STACK" Bundle.steD) ∈ flatC (Jvm.Cond.and given_1 narrow_1) := by decide +kernel
set_option maxRecDepth 100000 in
theorem lb_rf2 : Cond.isRef (.static Bundle.tN "SUPPRESSED_SENTINEL" Bundle.listD) ∈ flatC (Jvm.Cond.and given_1 narrow_1) := by decide +kernel
theorem law_nw {A : Array Value} {s : State} (hts : ∀ w ∈ lw_tbl, w.before A s = true) : NW s := fun w hw => va_Nw.of (lb_nwo w hw) (hts w (lb_nw w hw))
theorem law_xw {A : Array Value} {s : State} {cur : ClassId} (hts : ∀ w ∈ lw_tbl, w.before A s = true) (hgv : (Jvm.Cond.and given_1 narrow_1).before A s = true) (hc : s.vm.findClass RX9 = some cur) : XW (fun q : Nat => s.heap.size ≤ q) s s.heap := by
  have hs := flat_of_before _ hgv
  exact ⟨fun q hq => vk_Rex hc (hts _ (lb_str q hq)), vx_Zqof (hts _ lb_st1) (hts _ lb_ini) (hs _ lb_rf1) (fun a h => Nat.not_le.mpr h), vx_Zqof (hts _ lb_st2) (hts _ lb_ini) (hs _ lb_rf2) (fun a h => Nat.not_le.mpr h), fun k hk => va_Nw.of rfl (hts _ (lb_cast k hk)), fun Y hY => va_Nw.of rfl (hts _ (lb_decl Y hY))⟩
set_option maxRecDepth 100000 in
theorem lb_nX0 : Cond.instantiable RX0 20 ∈ lw_tbl := by decide +kernel
set_option maxRecDepth 100000 in
theorem lb_nX1 : Cond.instantiable RX1 8 ∈ lw_tbl := by decide +kernel
set_option maxRecDepth 100000 in
theorem lb_nX2 : Cond.instantiable RX2 4 ∈ lw_tbl := by decide +kernel
set_option maxRecDepth 100000 in
theorem lb_nX3 : Cond.instantiable RX3 7 ∈ lw_tbl := by decide +kernel
set_option maxRecDepth 100000 in
theorem lb_nX4 : Cond.instantiable RX4 5 ∈ lw_tbl := by decide +kernel
set_option maxRecDepth 100000 in
theorem lb_nX5 : Cond.instantiable RX5 8 ∈ lw_tbl := by decide +kernel
set_option maxRecDepth 100000 in
theorem lb_nX6 : Cond.instantiable RX6 4 ∈ lw_tbl := by decide +kernel
set_option maxRecDepth 100000 in
theorem lb_nX7 : Cond.instantiable RX7 16 ∈ lw_tbl := by decide +kernel
set_option maxRecDepth 100000 in
theorem lb_nX8 : Cond.instantiable RX8 19 ∈ lw_tbl := by decide +kernel
set_option maxRecDepth 100000 in
theorem lb_nX9 : Cond.instantiable RX9 16 ∈ lw_tbl := by decide +kernel
set_option maxRecDepth 100000 in
theorem lb_nX10 : Cond.instantiable RX10 50 ∈ lw_tbl := by decide +kernel
set_option maxRecDepth 100000 in
theorem lb_aint : Cond.arrayClass .int ∈ lw_tbl := by decide +kernel
set_option maxRecDepth 100000 in
theorem lb_along : Cond.arrayClass .long ∈ lw_tbl := by decide +kernel
set_option maxRecDepth 100000 in
theorem lb_abyte : Cond.arrayClass .byte ∈ lw_tbl := by decide +kernel
theorem law_arr {A : Array Value} {s : State} {ty : FieldType} (h : (Cond.arrayClass ty).before A s = true) (hq : ∀ c : ClassId, s.vm.findClass ("[" ++ ty.toString) = some c → va_RA s c ty) : ∃ cA : ClassId, ArrOfT s cA ty ∧ va_RA s cA ty := by
  obtain ⟨c, k, comp, h1, h2, h3⟩ := Cond.arrayClass_spec h
  exact ⟨c, fun n z => ⟨fun k h => (by cases h), k, h2, comp, h3⟩, hq c h1⟩
theorem law_K {A : Array Value} {s : State} (hts : ∀ w ∈ lw_tbl, w.before A s = true) : ∃ (dC : Nat → ClassId) (dI : Nat → Nat → Nat) (cI cJ cB : ClassId), va_K (dC, dI) vwCl (tyL cI cJ cB) s := by
  obtain ⟨c0, i0, h0⟩ := u_known (C := RX0) (T := TX0) (N := 20) (n := 20) hts lin_wsX00 (hts _ lb_nX0)
  obtain ⟨c1, i1, h1⟩ := u_known (C := RX1) (T := TX1) (N := 8) (n := 8) hts lin_wsX10 (hts _ lb_nX1)
  obtain ⟨c2, i2, h2⟩ := u_known (C := RX2) (T := TX2) (N := 4) (n := 4) hts lin_wsX20 (hts _ lb_nX2)
  obtain ⟨c3, i3, h3⟩ := u_known (C := RX3) (T := TX3) (N := 7) (n := 7) hts lin_wsX30 (hts _ lb_nX3)
  obtain ⟨c4, i4, h4⟩ := u_known (C := RX4) (T := TX4) (N := 5) (n := 5) hts lin_wsX40 (hts _ lb_nX4)
  obtain ⟨c5, i5, h5⟩ := u_known (C := RX5) (T := TX5) (N := 8) (n := 8) hts lin_wsX50 (hts _ lb_nX5)
  obtain ⟨c6, i6, h6⟩ := u_known (C := RX6) (T := TX6) (N := 4) (n := 4) hts lin_wsX60 (hts _ lb_nX6)
  obtain ⟨c7, i7, h7⟩ := u_known (C := RX7) (T := TX7) (N := 16) (n := 16) hts lin_wsX70 (hts _ lb_nX7)
  obtain ⟨c8, i8, h8⟩ := u_known (C := RX8) (T := TX8) (N := 19) (n := 19) hts lin_wsX80 (hts _ lb_nX8)
  obtain ⟨c9, i9, h9⟩ := u_known (C := RX9) (T := TX9) (N := 16) (n := 16) hts lin_wsX90 (hts _ lb_nX9)
  obtain ⟨c10, i10, h10⟩ := u_known (C := RX10) (T := TX10) (N := 50) (n := 50) hts lin_wsX100 (hts _ lb_nX10)
  obtain ⟨cI, acI, bcI⟩ := law_arr (hts _ lb_aint) (fun c h => h)
  obtain ⟨cJ, acJ, bcJ⟩ := law_arr (hts _ lb_along) (fun c h => h)
  obtain ⟨cB, acB, bcB⟩ := law_arr (hts _ lb_abyte) (fun c h => h)
  refine ⟨fun k => match k with | 0 => c0 | 1 => c1 | 2 => c2 | 3 => c3 | 4 => c4 | 5 => c5 | 6 => c6 | 7 => c7 | 8 => c8 | 9 => c9 | _ => c10, fun k => match k with | 0 => i0 | 1 => i1 | 2 => i2 | 3 => i3 | 4 => i4 | 5 => i5 | 6 => i6 | 7 => i7 | 8 => i8 | 9 => i9 | _ => i10, cI, cJ, cB, fun k q hq => ?_, fun k q hq => ?_⟩
  · match k, hq with
    | 0, hq => cases hq; exact h0
    | 1, hq => cases hq; exact h1
    | 2, hq => cases hq; exact h2
    | 3, hq => cases hq; exact h3
    | 4, hq => cases hq; exact h4
    | 5, hq => cases hq; exact h5
    | 6, hq => cases hq; exact h6
    | 7, hq => cases hq; exact h7
    | 8, hq => cases hq; exact h8
    | 9, hq => cases hq; exact h9
    | 10, hq => cases hq; exact h10
    | k + 11, hq => simp [vwCl] at hq
  · match k, hq with
    | 0, hq => cases hq; exact ⟨acI, bcI⟩
    | 1, hq => cases hq; exact ⟨acJ, bcJ⟩
    | 2, hq => cases hq; exact ⟨acB, bcB⟩
    | k + 3, hq => simp [tyL] at hq
