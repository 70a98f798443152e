set_option maxRecDepth 20000 in
theorem lin_wsL_law0_r35 : ∀ w ∈ wsL_law0_r35, w ∈ lw_tbl := by decide +kernel
set_option maxRecDepth 20000 in
theorem lin_wsL_law0_r36 : ∀ w ∈ wsL_law0_r36, w ∈ lw_tbl := by decide +kernel
set_option maxRecDepth 20000 in
theorem lin_wsL_law0_r37 : ∀ w ∈ wsL_law0_r37, w ∈ lw_tbl := by decide +kernel
set_option maxRecDepth 20000 in
theorem lin_wsL_law0_r38 : ∀ w ∈ wsL_law0_r38, w ∈ lw_tbl := by decide +kernel
set_option maxRecDepth 20000 in
theorem lin_wsL_law0_r39 : ∀ w ∈ wsL_law0_r39, w ∈ lw_tbl := by decide +kernel
set_option maxRecDepth 20000 in
theorem lin_wsL_law0_r40 : ∀ w ∈ wsL_law0_r40, w ∈ lw_tbl := by decide +kernel
set_option maxRecDepth 20000 in
theorem lin_wsL_law0_r41 : ∀ w ∈ wsL_law0_r41, w ∈ lw_tbl := by decide +kernel
set_option maxRecDepth 20000 in
theorem lin_wsL_law0_r42 : ∀ w ∈ wsL_law0_r42, w ∈ lw_tbl := by decide +kernel
set_option maxRecDepth 20000 in
theorem lin_wsL_law0_r43 : ∀ w ∈ wsL_law0_r43, w ∈ lw_tbl := by decide +kernel
set_option maxRecDepth 20000 in
theorem lin_wsL_law0_r44 : ∀ w ∈ wsL_law0_r44, w ∈ lw_tbl := by decide +kernel
set_option maxRecDepth 20000 in
theorem lin_wsL_law0_r45 : ∀ w ∈ wsL_law0_r45, w ∈ lw_tbl := by decide +kernel
set_option maxRecDepth 20000 in
theorem lin_wsL_law0_r46 : ∀ w ∈ wsL_law0_r46, w ∈ lw_tbl := by decide +kernel
set_option maxRecDepth 20000 in
theorem lin_wsL_law0_r47 : ∀ w ∈ wsL_law0_r47, w ∈ lw_tbl := by decide +kernel
set_option maxRecDepth 20000 in
theorem lin_wsL_law0_r48 : ∀ w ∈ wsL_law0_r48, w ∈ lw_tbl := by decide +kernel
set_option maxRecDepth 20000 in
theorem lin_wsL_law0_r49 : ∀ w ∈ wsL_law0_r49, w ∈ lw_tbl := by decide +kernel
set_option maxRecDepth 20000 in
theorem lin_wsL_law0_r50 : ∀ w ∈ wsL_law0_r50, w ∈ lw_tbl := by decide +kernel
set_option maxRecDepth 20000 in
theorem lin_wsL_law0_r51 : ∀ w ∈ wsL_law0_r51, w ∈ lw_tbl := by decide +kernel
set_option maxRecDepth 20000 in
theorem lin_wsL_law0_r52 : ∀ w ∈ wsL_law0_r52, w ∈ lw_tbl := by decide +kernel
set_option maxRecDepth 20000 in
theorem lin_wsL_law0_r53 : ∀ w ∈ wsL_law0_r53, w ∈ lw_tbl := by decide +kernel
set_option maxRecDepth 20000 in
theorem lin_wsL_law0_r54 : ∀ w ∈ wsL_law0_r54, w ∈ lw_tbl := by decide +kernel
set_option maxRecDepth 20000 in
theorem lin_wsL_law0_r55 : ∀ w ∈ wsL_law0_r55, w ∈ lw_tbl := by decide +kernel
set_option maxRecDepth 20000 in
theorem lin_wsL_law0_r56 : ∀ w ∈ wsL_law0_r56, w ∈ lw_tbl := by decide +kernel
set_option maxRecDepth 20000 in
theorem lin_wsL_law0_r57 : ∀ w ∈ wsL_law0_r57, w ∈ lw_tbl := by decide +kernel
set_option maxRecDepth 20000 in
theorem lin_wsL_law0_r58 : ∀ w ∈ wsL_law0_r58, w ∈ lw_tbl := by decide +kernel
set_option maxRecDepth 20000 in
theorem lin_wsL_law0_r59 : ∀ w ∈ wsL_law0_r59, w ∈ lw_tbl := by decide +kernel
set_option maxRecDepth 20000 in
theorem lin_wsL_law0_r60 : ∀ w ∈ wsL_law0_r60, w ∈ lw_tbl := by decide +kernel
set_option maxRecDepth 20000 in
theorem lin_wsL_law0_r61 : ∀ w ∈ wsL_law0_r61, w ∈ lw_tbl := by decide +kernel
set_option maxRecDepth 20000 in
theorem lin_wsL_law0_r62 : ∀ w ∈ wsL_law0_r62, w ∈ lw_tbl := by decide +kernel
set_option maxRecDepth 20000 in
theorem lin_wsL_law0_r63 : ∀ w ∈ wsL_law0_r63, w ∈ lw_tbl := by decide +kernel
set_option maxRecDepth 20000 in
theorem lin_wsL_law0_r64 : ∀ w ∈ wsL_law0_r64, w ∈ lw_tbl := by decide +kernel
set_option maxRecDepth 20000 in
theorem lin_wsL_law0_r65 : ∀ w ∈ wsL_law0_r65, w ∈ lw_tbl := by decide +kernel
set_option maxRecDepth 20000 in
theorem lin_wsL_law0_r66 : ∀ w ∈ wsL_law0_r66, w ∈ lw_tbl := by decide +kernel
set_option maxRecDepth 20000 in
theorem lin_wsL_law0_r67 : ∀ w ∈ wsL_law0_r67, w ∈ lw_tbl := by decide +kernel
set_option maxRecDepth 20000 in
theorem lin_wsL_law0_r68 : ∀ w ∈ wsL_law0_r68, w ∈ lw_tbl := by decide +kernel
set_option maxRecDepth 20000 in
theorem lin_wsL_law0_r69 : ∀ w ∈ wsL_law0_r69, w ∈ lw_tbl := by decide +kernel
set_option maxRecDepth 20000 in
theorem lin_wsX90 : ∀ w ∈ wsX90, w ∈ lw_tbl := by decide +kernel
set_option maxRecDepth 20000 in
theorem lin_wsX100 : ∀ w ∈ wsX100, w ∈ lw_tbl := by decide +kernel
set_option maxRecDepth 20000 in
theorem lin_wsX30 : ∀ w ∈ wsX30, w ∈ lw_tbl := by decide +kernel
set_option maxRecDepth 20000 in
theorem lin_wsX50 : ∀ w ∈ wsX50, w ∈ lw_tbl := by decide +kernel
set_option maxRecDepth 20000 in
theorem lin_wsX80 : ∀ w ∈ wsX80, w ∈ lw_tbl := by decide +kernel
set_option maxRecDepth 20000 in
theorem lin_wsX10 : ∀ w ∈ wsX10, w ∈ lw_tbl := by decide +kernel
set_option maxRecDepth 20000 in
theorem lin_wsX20 : ∀ w ∈ wsX20, w ∈ lw_tbl := by decide +kernel
set_option maxRecDepth 20000 in
theorem lin_wsX40 : ∀ w ∈ wsX40, w ∈ lw_tbl := by decide +kernel
set_option maxRecDepth 20000 in
theorem lin_wsX00 : ∀ w ∈ wsX00, w ∈ lw_tbl := by decide +kernel
set_option maxRecDepth 20000 in
theorem lin_wsX70 : ∀ w ∈ wsX70, w ∈ lw_tbl := by decide +kernel
set_option maxRecDepth 20000 in
theorem lin_wsX60 : ∀ w ∈ wsX60, w ∈ lw_tbl := by decide +kernel
set_option maxRecDepth 20000 in
theorem wsL_law_in0 : ∀ w ∈ wsL_law0, w ∈ lw_tbl := List.forall_mem_append.mpr ⟨List.forall_mem_append.mpr ⟨List.forall_mem_append.mpr ⟨List.forall_mem_append.mpr ⟨List.forall_mem_append.mpr ⟨List.forall_mem_append.mpr ⟨List.forall_mem_append.mpr ⟨List.forall_mem_append.mpr ⟨List.forall_mem_append.mpr ⟨List.forall_mem_append.mpr ⟨List.forall_mem_append.mpr ⟨List.forall_mem_append.mpr ⟨List.forall_mem_append.mpr ⟨lin_wsL_law0_r1, List.forall_mem_append.mpr ⟨lin_wsL_law0_r2, List.forall_mem_append.mpr ⟨lin_wsL_law0_r3, List.forall_mem_append.mpr ⟨lin_wsL_law0_r4, List.forall_mem_append.mpr ⟨lin_wsL_law0_r5, List.forall_mem_append.mpr ⟨lin_wsL_law0_r6, List.forall_mem_append.mpr ⟨lin_wsL_law0_r7, List.forall_mem_append.mpr ⟨lin_wsL_law0_r8, List.forall_mem_append.mpr ⟨lin_wsL_law0_r9, List.forall_mem_append.mpr ⟨lin_wsL_law0_r10, List.forall_mem_append.mpr ⟨lin_wsL_law0_r11, List.forall_mem_append.mpr ⟨lin_wsL_law0_r12, List.forall_mem_append.mpr ⟨lin_wsL_law0_r13, List.forall_mem_append.mpr ⟨lin_wsL_law0_r14, List.forall_mem_append.mpr ⟨lin_wsL_law0_r15, List.forall_mem_append.mpr ⟨lin_wsL_law0_r16, List.forall_mem_append.mpr ⟨lin_wsL_law0_r17, List.forall_mem_append.mpr ⟨lin_wsL_law0_r18, List.forall_mem_append.mpr ⟨lin_wsL_law0_r19, List.forall_mem_append.mpr ⟨lin_wsL_law0_r20, List.forall_mem_append.mpr ⟨lin_wsL_law0_r21, List.forall_mem_append.mpr ⟨lin_wsL_law0_r22, List.forall_mem_append.mpr ⟨lin_wsL_law0_r23, List.forall_mem_append.mpr ⟨lin_wsL_law0_r24, List.forall_mem_append.mpr ⟨lin_wsL_law0_r25, List.forall_mem_append.mpr ⟨lin_wsL_law0_r26, List.forall_mem_append.mpr ⟨lin_wsL_law0_r27, List.forall_mem_append.mpr ⟨lin_wsL_law0_r28, List.forall_mem_append.mpr ⟨lin_wsL_law0_r29, List.forall_mem_append.mpr ⟨lin_wsL_law0_r30, List.forall_mem_append.mpr ⟨lin_wsL_law0_r31, List.forall_mem_append.mpr ⟨lin_wsL_law0_r32, List.forall_mem_append.mpr ⟨lin_wsL_law0_r33, List.forall_mem_append.mpr ⟨lin_wsL_law0_r34, List.forall_mem_append.mpr ⟨lin_wsL_law0_r35, List.forall_mem_append.mpr ⟨lin_wsL_law0_r36, List.forall_mem_append.mpr ⟨lin_wsL_law0_r37, List.forall_mem_append.mpr ⟨lin_wsL_law0_r38, List.forall_mem_append.mpr ⟨lin_wsL_law0_r39, List.forall_mem_append.mpr ⟨lin_wsL_law0_r40, List.forall_mem_append.mpr ⟨lin_wsL_law0_r41, List.forall_mem_append.mpr ⟨lin_wsL_law0_r42, List.forall_mem_append.mpr ⟨lin_wsL_law0_r43, List.forall_mem_append.mpr ⟨lin_wsL_law0_r44, List.forall_mem_append.mpr ⟨lin_wsL_law0_r45, List.forall_mem_append.mpr ⟨lin_wsL_law0_r46, List.forall_mem_append.mpr ⟨lin_wsL_law0_r47, List.forall_mem_append.mpr ⟨lin_wsL_law0_r48, List.forall_mem_append.mpr ⟨lin_wsL_law0_r49, List.forall_mem_append.mpr ⟨lin_wsL_law0_r50, List.forall_mem_append.mpr ⟨lin_wsL_law0_r51, List.forall_mem_append.mpr ⟨lin_wsL_law0_r52, List.forall_mem_append.mpr ⟨lin_wsL_law0_r53, List.forall_mem_append.mpr ⟨lin_wsL_law0_r54, List.forall_mem_append.mpr ⟨lin_wsL_law0_r55, List.forall_mem_append.mpr ⟨lin_wsL_law0_r56, List.forall_mem_append.mpr ⟨lin_wsL_law0_r57, List.forall_mem_append.mpr ⟨lin_wsL_law0_r58, List.forall_mem_append.mpr ⟨lin_wsL_law0_r59, List.forall_mem_append.mpr ⟨lin_wsL_law0_r60, List.forall_mem_append.mpr ⟨lin_wsL_law0_r61, List.forall_mem_append.mpr ⟨lin_wsL_law0_r62, List.forall_mem_append.mpr ⟨lin_wsL_law0_r63, List.forall_mem_append.mpr ⟨lin_wsL_law0_r64, List.forall_mem_append.mpr ⟨lin_wsL_law0_r65, List.forall_mem_append.mpr ⟨lin_wsL_law0_r66, List.forall_mem_append.mpr ⟨lin_wsL_law0_r67, List.forall_mem_append.mpr ⟨lin_wsL_law0_r68, lin_wsL_law0_r69⟩⟩⟩⟩⟩⟩⟩⟩⟩⟩⟩⟩⟩⟩⟩⟩⟩⟩⟩⟩⟩⟩⟩⟩⟩⟩⟩⟩⟩⟩⟩⟩⟩⟩⟩⟩⟩⟩⟩⟩⟩⟩⟩⟩⟩⟩⟩⟩⟩⟩⟩⟩⟩⟩⟩⟩⟩⟩⟩⟩⟩⟩⟩⟩⟩⟩⟩⟩, lin_wsX90⟩, lin_wsX100⟩, lin_wsX30⟩, lin_wsX50⟩, lin_wsX80⟩, lin_wsX10⟩, lin_wsX20⟩, lin_wsX40⟩, lin_wsX00⟩, lin_wsX70⟩, lin_wsX60⟩, fun _ h => absurd h List.not_mem_nil⟩

