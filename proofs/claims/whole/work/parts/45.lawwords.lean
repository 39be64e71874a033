/-! the law's words are among the tables' -/
set_option maxRecDepth 20000 in
theorem lwi_wsL_law_r1 : GoodIn lw_tbl wsL_law_r1 := goodIn_p wsL_law_r1 [51, 54] rfl (by decide +kernel)
set_option maxRecDepth 20000 in
theorem lwi_wsL_law_r2 : GoodIn lw_tbl wsL_law_r2 := goodIn_p wsL_law_r2 [59, 80] rfl (by decide +kernel)
set_option maxRecDepth 20000 in
theorem lwi_wsL_law_r3 : GoodIn lw_tbl wsL_law_r3 := goodIn_p wsL_law_r3 [95, 115, 130, 147] rfl (by decide +kernel)
set_option maxRecDepth 20000 in
theorem lwi_wsL_law_r4 : GoodIn lw_tbl wsL_law_r4 := goodIn_p wsL_law_r4 [524] rfl (by decide +kernel)
set_option maxRecDepth 20000 in
theorem lwi_wsL_law_r5 : GoodIn lw_tbl wsL_law_r5 := goodIn_p wsL_law_r5 [206, 210, 600, 603, 214, 218] rfl (by decide +kernel)
set_option maxRecDepth 20000 in
theorem lwi_wsL_law_r6 : GoodIn lw_tbl wsL_law_r6 := goodIn_p wsL_law_r6 [607, 222, 226, 230, 234, 238] rfl (by decide +kernel)
set_option maxRecDepth 20000 in
theorem lwi_wsL_law_r7 : GoodIn lw_tbl wsL_law_r7 := goodIn_p wsL_law_r7 [242, 246, 250, 254, 260, 264] rfl (by decide +kernel)
set_option maxRecDepth 20000 in
theorem lwi_wsL_law_r8 : GoodIn lw_tbl wsL_law_r8 := goodIn_p wsL_law_r8 [270, 274, 284, 278] rfl (by decide +kernel)
set_option maxRecDepth 20000 in
theorem lwi_wsL_law_r9 : GoodIn lw_tbl wsL_law_r9 := goodIn_p wsL_law_r9 [289, 293, 611, 615, 619] rfl (by decide +kernel)
set_option maxRecDepth 20000 in
theorem lwi_wsL_law_r10 : GoodIn lw_tbl wsL_law_r10 := goodIn_p wsL_law_r10 [623, 626, 630, 634, 638, 297] rfl (by decide +kernel)
set_option maxRecDepth 20000 in
theorem lwi_wsL_law_r11 : GoodIn lw_tbl wsL_law_r11 := goodIn_p wsL_law_r11 [300, 304, 308, 311, 315, 318] rfl (by decide +kernel)
set_option maxRecDepth 20000 in
theorem lwi_wsL_law_r12 : GoodIn lw_tbl wsL_law_r12 := goodIn_p wsL_law_r12 [323, 327, 331, 335, 339] rfl (by decide +kernel)
set_option maxRecDepth 20000 in
theorem lwi_wsL_law_r13 : GoodIn lw_tbl wsL_law_r13 := goodIn_p wsL_law_r13 [343, 646, 650, 654, 658] rfl (by decide +kernel)
set_option maxRecDepth 20000 in
theorem lwi_wsL_law_r14 : GoodIn lw_tbl wsL_law_r14 := goodIn_p wsL_law_r14 [661, 664, 668, 672, 676, 680] rfl (by decide +kernel)
set_option maxRecDepth 20000 in
theorem lwi_wsL_law_r15 : GoodIn lw_tbl wsL_law_r15 := goodIn_p wsL_law_r15 [684, 688, 692, 350, 354, 358] rfl (by decide +kernel)
set_option maxRecDepth 20000 in
theorem lwi_wsL_law_r16 : GoodIn lw_tbl wsL_law_r16 := goodIn_p wsL_law_r16 [696, 700, 363, 704, 367] rfl (by decide +kernel)
set_option maxRecDepth 20000 in
theorem lwi_wsL_law_r17 : GoodIn lw_tbl wsL_law_r17 := goodIn_p wsL_law_r17 [708, 375, 379, 642, 383] rfl (by decide +kernel)
set_option maxRecDepth 20000 in
theorem lwi_wsL_law_r18 : GoodIn lw_tbl wsL_law_r18 := goodIn_p wsL_law_r18 [712, 388, 393, 396, 399, 716] rfl (by decide +kernel)
set_option maxRecDepth 20000 in
theorem lwi_wsL_law_r19 : GoodIn lw_tbl wsL_law_r19 := goodIn_p wsL_law_r19 [720, 723, 404, 727, 410, 731] rfl (by decide +kernel)
set_option maxRecDepth 20000 in
theorem lwi_wsL_law_r20 : GoodIn lw_tbl wsL_law_r20 := goodIn_p wsL_law_r20 [414, 418, 735, 423, 427, 739] rfl (by decide +kernel)
set_option maxRecDepth 20000 in
theorem lwi_wsL_law_r21 : GoodIn lw_tbl wsL_law_r21 := goodIn_p wsL_law_r21 [743, 431, 435, 439, 747, 751] rfl (by decide +kernel)
set_option maxRecDepth 20000 in
theorem lwi_wsL_law_r22 : GoodIn lw_tbl wsL_law_r22 := goodIn_p wsL_law_r22 [443, 447, 755, 451, 759, 455] rfl (by decide +kernel)
set_option maxRecDepth 20000 in
theorem lwi_wsL_law_r23 : GoodIn lw_tbl wsL_law_r23 := goodIn_p wsL_law_r23 [460, 464, 468, 472, 763] rfl (by decide +kernel)
set_option maxRecDepth 20000 in
theorem lwi_wsL_law_r24 : GoodIn lw_tbl wsL_law_r24 := goodIn_p wsL_law_r24 [769, 773, 777, 479, 483] rfl (by decide +kernel)
set_option maxRecDepth 20000 in
theorem lwi_wsL_law_r25 : GoodIn lw_tbl wsL_law_r25 := goodIn_p wsL_law_r25 [488, 781, 785, 492, 496, 789] rfl (by decide +kernel)
set_option maxRecDepth 20000 in
theorem lwi_wsL_law_r26 : GoodIn lw_tbl wsL_law_r26 := goodIn_p wsL_law_r26 [501, 505, 510, 793, 514, 518] rfl (by decide +kernel)
set_option maxRecDepth 20000 in
theorem lwi_wsL_law_r27 : GoodIn lw_tbl wsL_law_r27 := goodIn_p wsL_law_r27 [797] rfl (by decide +kernel)
set_option maxRecDepth 20000 in
theorem lwi_wsX60 : GoodIn lw_tbl wsX60 := goodIn_p wsX60 [] rfl (by decide +kernel)
set_option maxRecDepth 20000 in
theorem lwi_wsX70 : GoodIn lw_tbl wsX70 := goodIn_p wsX70 [] rfl (by decide +kernel)
set_option maxRecDepth 20000 in
theorem lwi_wsX20 : GoodIn lw_tbl wsX20 := goodIn_p wsX20 [] rfl (by decide +kernel)
set_option maxRecDepth 20000 in
theorem lwi_wsX50 : GoodIn lw_tbl wsX50 := goodIn_p wsX50 [] rfl (by decide +kernel)
set_option maxRecDepth 20000 in
theorem lwi_wsX00 : GoodIn lw_tbl wsX00 := goodIn_p wsX00 [] rfl (by decide +kernel)
set_option maxRecDepth 20000 in
theorem lwi_wsX10 : GoodIn lw_tbl wsX10 := goodIn_p wsX10 [] rfl (by decide +kernel)
set_option maxRecDepth 20000 in
theorem lwi_wsX40 : GoodIn lw_tbl wsX40 := goodIn_p wsX40 [] rfl (by decide +kernel)
set_option maxRecDepth 20000 in
theorem lwi_wsX30 : GoodIn lw_tbl wsX30 := goodIn_p wsX30 [] rfl (by decide +kernel)
theorem wsL_law_in : ∀ w ∈ wsL_law, w ∈ lw_tbl := fun w h => ((show GoodIn lw_tbl wsL_law from (goodIn_app (goodIn_app (goodIn_app (goodIn_app (goodIn_app (goodIn_app (goodIn_app (goodIn_app (goodIn_app (goodIn_app lwi_wsL_law_r1 (goodIn_app lwi_wsL_law_r2 (goodIn_app lwi_wsL_law_r3 (goodIn_app lwi_wsL_law_r4 (goodIn_app lwi_wsL_law_r5 (goodIn_app lwi_wsL_law_r6 (goodIn_app lwi_wsL_law_r7 (goodIn_app lwi_wsL_law_r8 (goodIn_app lwi_wsL_law_r9 (goodIn_app lwi_wsL_law_r10 (goodIn_app lwi_wsL_law_r11 (goodIn_app lwi_wsL_law_r12 (goodIn_app lwi_wsL_law_r13 (goodIn_app lwi_wsL_law_r14 (goodIn_app lwi_wsL_law_r15 (goodIn_app lwi_wsL_law_r16 (goodIn_app lwi_wsL_law_r17 (goodIn_app lwi_wsL_law_r18 (goodIn_app lwi_wsL_law_r19 (goodIn_app lwi_wsL_law_r20 (goodIn_app lwi_wsL_law_r21 (goodIn_app lwi_wsL_law_r22 (goodIn_app lwi_wsL_law_r23 (goodIn_app lwi_wsL_law_r24 (goodIn_app lwi_wsL_law_r25 (goodIn_app lwi_wsL_law_r26 lwi_wsL_law_r27)))))))))))))))))))))))))) lwi_wsX60) lwi_wsX70) lwi_wsX20) lwi_wsX50) lwi_wsX00) lwi_wsX10) lwi_wsX40) lwi_wsX30) (fun _ h => absurd h List.not_mem_nil))) w h).1
