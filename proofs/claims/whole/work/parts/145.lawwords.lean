set_option maxRecDepth 100000 in
theorem lc_wsL_law_r1 : ∀ w ∈ wsL_law_r1, w ∈ lw_tbl := by decide +kernel
set_option maxRecDepth 100000 in
theorem lc_wsL_law_r2 : ∀ w ∈ wsL_law_r2, w ∈ lw_tbl := by decide +kernel
set_option maxRecDepth 100000 in
theorem lc_wsL_law_r3 : ∀ w ∈ wsL_law_r3, w ∈ lw_tbl := by decide +kernel
set_option maxRecDepth 100000 in
theorem lc_wsL_law_r4 : ∀ w ∈ wsL_law_r4, w ∈ lw_tbl := by decide +kernel
set_option maxRecDepth 100000 in
theorem lc_wsL_law_r5 : ∀ w ∈ wsL_law_r5, w ∈ lw_tbl := by decide +kernel
set_option maxRecDepth 100000 in
theorem lc_wsL_law_r6 : ∀ w ∈ wsL_law_r6, w ∈ lw_tbl := by decide +kernel
set_option maxRecDepth 100000 in
theorem lc_wsL_law_r7 : ∀ w ∈ wsL_law_r7, w ∈ lw_tbl := by decide +kernel
set_option maxRecDepth 100000 in
theorem lc_wsL_law_r8 : ∀ w ∈ wsL_law_r8, w ∈ lw_tbl := by decide +kernel
set_option maxRecDepth 100000 in
theorem lc_wsL_law_r9 : ∀ w ∈ wsL_law_r9, w ∈ lw_tbl := by decide +kernel
set_option maxRecDepth 100000 in
theorem lc_wsL_law_r10 : ∀ w ∈ wsL_law_r10, w ∈ lw_tbl := by decide +kernel
set_option maxRecDepth 100000 in
theorem lc_wsL_law_r11 : ∀ w ∈ wsL_law_r11, w ∈ lw_tbl := by decide +kernel
set_option maxRecDepth 100000 in
theorem lc_wsL_law_r12 : ∀ w ∈ wsL_law_r12, w ∈ lw_tbl := by decide +kernel
set_option maxRecDepth 100000 in
theorem lc_wsL_law_r13 : ∀ w ∈ wsL_law_r13, w ∈ lw_tbl := by decide +kernel
set_option maxRecDepth 100000 in
theorem lc_wsL_law_r14 : ∀ w ∈ wsL_law_r14, w ∈ lw_tbl := by decide +kernel
set_option maxRecDepth 100000 in
theorem lc_wsL_law_r15 : ∀ w ∈ wsL_law_r15, w ∈ lw_tbl := by decide +kernel
set_option maxRecDepth 100000 in
theorem lc_wsL_law_r16 : ∀ w ∈ wsL_law_r16, w ∈ lw_tbl := by decide +kernel
set_option maxRecDepth 100000 in
theorem lc_wsL_law_r17 : ∀ w ∈ wsL_law_r17, w ∈ lw_tbl := by decide +kernel
set_option maxRecDepth 100000 in
theorem lc_wsL_law_r18 : ∀ w ∈ wsL_law_r18, w ∈ lw_tbl := by decide +kernel
set_option maxRecDepth 100000 in
theorem lc_wsL_law_r19 : ∀ w ∈ wsL_law_r19, w ∈ lw_tbl := by decide +kernel
set_option maxRecDepth 100000 in
theorem lc_wsL_law_r20 : ∀ w ∈ wsL_law_r20, w ∈ lw_tbl := by decide +kernel
set_option maxRecDepth 100000 in
theorem lc_wsL_law_r21 : ∀ w ∈ wsL_law_r21, w ∈ lw_tbl := by decide +kernel
set_option maxRecDepth 100000 in
theorem lc_wsL_law_r22 : ∀ w ∈ wsL_law_r22, w ∈ lw_tbl := by decide +kernel
set_option maxRecDepth 100000 in
theorem lc_wsL_law_r23 : ∀ w ∈ wsL_law_r23, w ∈ lw_tbl := by decide +kernel
set_option maxRecDepth 100000 in
theorem lc_wsL_law_r24 : ∀ w ∈ wsL_law_r24, w ∈ lw_tbl := by decide +kernel
set_option maxRecDepth 100000 in
theorem lc_wsL_law_r25 : ∀ w ∈ wsL_law_r25, w ∈ lw_tbl := by decide +kernel
set_option maxRecDepth 100000 in
theorem lc_wsL_law_r26 : ∀ w ∈ wsL_law_r26, w ∈ lw_tbl := by decide +kernel
set_option maxRecDepth 100000 in
theorem lc_wsL_law_r27 : ∀ w ∈ wsL_law_r27, w ∈ lw_tbl := by decide +kernel
set_option maxRecDepth 100000 in
theorem lc_wsL_law_r28 : ∀ w ∈ wsL_law_r28, w ∈ lw_tbl := by decide +kernel
set_option maxRecDepth 100000 in
theorem lc_wsL_law_r29 : ∀ w ∈ wsL_law_r29, w ∈ lw_tbl := by decide +kernel
set_option maxRecDepth 100000 in
theorem lc_wsL_law_r30 : ∀ w ∈ wsL_law_r30, w ∈ lw_tbl := by decide +kernel
set_option maxRecDepth 100000 in
theorem lc_wsL_law_r31 : ∀ w ∈ wsL_law_r31, w ∈ lw_tbl := by decide +kernel
set_option maxRecDepth 100000 in
theorem lc_wsL_law_r32 : ∀ w ∈ wsL_law_r32, w ∈ lw_tbl := by decide +kernel
set_option maxRecDepth 100000 in
theorem lc_wsL_law_r33 : ∀ w ∈ wsL_law_r33, w ∈ lw_tbl := by decide +kernel
set_option maxRecDepth 100000 in
theorem lc_wsL_law_r34 : ∀ w ∈ wsL_law_r34, w ∈ lw_tbl := by decide +kernel
set_option maxRecDepth 100000 in
theorem lc_wsL_law_r35 : ∀ w ∈ wsL_law_r35, w ∈ lw_tbl := by decide +kernel
set_option maxRecDepth 100000 in
theorem lc_wsL_law_r36 : ∀ w ∈ wsL_law_r36, w ∈ lw_tbl := by decide +kernel
set_option maxRecDepth 100000 in
theorem lc_wsL_law_r37 : ∀ w ∈ wsL_law_r37, w ∈ lw_tbl := by decide +kernel
set_option maxRecDepth 100000 in
theorem lc_wsL_law_r38 : ∀ w ∈ wsL_law_r38, w ∈ lw_tbl := by decide +kernel
set_option maxRecDepth 100000 in
theorem lc_wsL_law_r39 : ∀ w ∈ wsL_law_r39, w ∈ lw_tbl := by decide +kernel
set_option maxRecDepth 100000 in
theorem lc_wsL_law_r40 : ∀ w ∈ wsL_law_r40, w ∈ lw_tbl := by decide +kernel
set_option maxRecDepth 100000 in
theorem lc_wsL_law_r41 : ∀ w ∈ wsL_law_r41, w ∈ lw_tbl := by decide +kernel
set_option maxRecDepth 100000 in
theorem lc_wsL_law_r42 : ∀ w ∈ wsL_law_r42, w ∈ lw_tbl := by decide +kernel
set_option maxRecDepth 100000 in
theorem lc_wsL_law_r43 : ∀ w ∈ wsL_law_r43, w ∈ lw_tbl := by decide +kernel
set_option maxRecDepth 100000 in
theorem lc_wsL_law_r44 : ∀ w ∈ wsL_law_r44, w ∈ lw_tbl := by decide +kernel
set_option maxRecDepth 100000 in
theorem lc_wsL_law_r45 : ∀ w ∈ wsL_law_r45, w ∈ lw_tbl := by decide +kernel
set_option maxRecDepth 100000 in
theorem lc_wsL_law_r46 : ∀ w ∈ wsL_law_r46, w ∈ lw_tbl := by decide +kernel
set_option maxRecDepth 100000 in
theorem lc_wsL_law_r47 : ∀ w ∈ wsL_law_r47, w ∈ lw_tbl := by decide +kernel
set_option maxRecDepth 100000 in
theorem lc_wsL_law_r48 : ∀ w ∈ wsL_law_r48, w ∈ lw_tbl := by decide +kernel
set_option maxRecDepth 100000 in
theorem lc_wsL_law_r49 : ∀ w ∈ wsL_law_r49, w ∈ lw_tbl := by decide +kernel
set_option maxRecDepth 100000 in
theorem lc_wsL_law_r50 : ∀ w ∈ wsL_law_r50, w ∈ lw_tbl := by decide +kernel
set_option maxRecDepth 100000 in
theorem lc_wsL_law_r51 : ∀ w ∈ wsL_law_r51, w ∈ lw_tbl := by decide +kernel
set_option maxRecDepth 100000 in
theorem lc_wsL_law_r52 : ∀ w ∈ wsL_law_r52, w ∈ lw_tbl := by decide +kernel
set_option maxRecDepth 100000 in
theorem lc_wsL_law_r53 : ∀ w ∈ wsL_law_r53, w ∈ lw_tbl := by decide +kernel
set_option maxRecDepth 100000 in
theorem lc_wsL_law_r54 : ∀ w ∈ wsL_law_r54, w ∈ lw_tbl := by decide +kernel
set_option maxRecDepth 100000 in
theorem lc_wsL_law_r55 : ∀ w ∈ wsL_law_r55, w ∈ lw_tbl := by decide +kernel
set_option maxRecDepth 100000 in
theorem lc_wsX100 : ∀ w ∈ wsX100, w ∈ lw_tbl := by decide +kernel
set_option maxRecDepth 100000 in
theorem lc_wsX120 : ∀ w ∈ wsX120, w ∈ lw_tbl := by decide +kernel
set_option maxRecDepth 100000 in
theorem lc_wsX20 : ∀ w ∈ wsX20, w ∈ lw_tbl := by decide +kernel
set_option maxRecDepth 100000 in
theorem lc_wsX60 : ∀ w ∈ wsX60, w ∈ lw_tbl := by decide +kernel
set_option maxRecDepth 100000 in
theorem lc_wsX30 : ∀ w ∈ wsX30, w ∈ lw_tbl := by decide +kernel
set_option maxRecDepth 100000 in
theorem lc_wsX80 : ∀ w ∈ wsX80, w ∈ lw_tbl := by decide +kernel
set_option maxRecDepth 100000 in
theorem lc_wsX50 : ∀ w ∈ wsX50, w ∈ lw_tbl := by decide +kernel
set_option maxRecDepth 100000 in
theorem lc_wsX10 : ∀ w ∈ wsX10, w ∈ lw_tbl := by decide +kernel
set_option maxRecDepth 100000 in
theorem lc_wsX70 : ∀ w ∈ wsX70, w ∈ lw_tbl := by decide +kernel
set_option maxRecDepth 100000 in
theorem lc_wsX90 : ∀ w ∈ wsX90, w ∈ lw_tbl := by decide +kernel
set_option maxRecDepth 100000 in
theorem lc_wsX00 : ∀ w ∈ wsX00, w ∈ lw_tbl := by decide +kernel
set_option maxRecDepth 100000 in
theorem lc_wsX40 : ∀ w ∈ wsX40, w ∈ lw_tbl := by decide +kernel
set_option maxRecDepth 100000 in
theorem lc_wsX110 : ∀ w ∈ wsX110, w ∈ lw_tbl := by decide +kernel
