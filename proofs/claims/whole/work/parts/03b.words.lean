set_option maxRecDepth 100000 in
theorem wsL_law_gr : GoodIn lw_tbl (wsL_law0_r1 ++ (wsL_law0_r2 ++ (wsL_law0_r3 ++ (wsL_law0_r4 ++ (wsL_law0_r5 ++ (wsL_law0_r6 ++ (wsL_law0_r7 ++ (wsL_law0_r8 ++ (wsL_law0_r9 ++ (wsL_law0_r10 ++ (wsL_law0_r11 ++ (wsL_law0_r12 ++ (wsL_law0_r13 ++ (wsL_law0_r14 ++ (wsL_law0_r15 ++ (wsL_law0_r16 ++ (wsL_law0_r17 ++ (wsL_law0_r18 ++ (wsL_law0_r19 ++ (wsL_law0_r20 ++ (wsL_law0_r21 ++ (wsL_law0_r22 ++ (wsL_law0_r23 ++ (wsL_law0_r24 ++ (wsL_law0_r25 ++ (wsL_law0_r26 ++ (wsL_law0_r27 ++ (wsL_law0_r28 ++ (wsL_law0_r29 ++ (wsL_law0_r30 ++ (wsL_law0_r31 ++ (wsL_law0_r32 ++ (wsL_law0_r33 ++ (wsL_law0_r34 ++ (wsL_law0_r35 ++ (wsL_law0_r36 ++ (wsL_law0_r37 ++ (wsL_law0_r38 ++ (wsL_law0_r39 ++ (wsL_law0_r40 ++ (wsL_law0_r41 ++ (wsL_law0_r42 ++ (wsL_law0_r43 ++ (wsL_law0_r44 ++ (wsL_law0_r45 ++ (wsL_law0_r46 ++ (wsL_law0_r47 ++ (wsL_law0_r48 ++ (wsL_law0_r49 ++ (wsL_law0_r50 ++ (wsL_law0_r51 ++ (wsL_law0_r52 ++ (wsL_law0_r53 ++ (wsL_law0_r54 ++ (wsL_law0_r55 ++ (wsL_law0_r56 ++ (wsL_law0_r57 ++ (wsL_law0_r58 ++ (wsL_law0_r59 ++ (wsL_law0_r60 ++ (wsL_law0_r61 ++ (wsL_law0_r62 ++ (wsL_law0_r63 ++ (wsL_law0_r64 ++ (wsL_law0_r65 ++ (wsL_law0_r66 ++ (wsL_law0_r67 ++ (wsL_law0_r68 ++ (wsL_law0_r69 ++ (wsL_law0_r70 ++ (wsL_law0_r71 ++ (wsL_law0_r72 ++ (wsL_law0_r73 ++ (wsL_law0_r74 ++ (wsL_law0_r75 ++ (wsL_law0_r76 ++ (wsL_law0_r77))))))))))))))))))))))))))))))))))))))))))))))))))))))))))))))))))))))))))))) := goodIn_app wsL_law_g1 (goodIn_app wsL_law_g2 (goodIn_app wsL_law_g3 (goodIn_app wsL_law_g4 (goodIn_app wsL_law_g5 (goodIn_app wsL_law_g6 (goodIn_app wsL_law_g7 (goodIn_app wsL_law_g8 (goodIn_app wsL_law_g9 (goodIn_app wsL_law_g10 (goodIn_app wsL_law_g11 (goodIn_app wsL_law_g12 (goodIn_app wsL_law_g13 (goodIn_app wsL_law_g14 (goodIn_app wsL_law_g15 (goodIn_app wsL_law_g16 (goodIn_app wsL_law_g17 (goodIn_app wsL_law_g18 (goodIn_app wsL_law_g19 (goodIn_app wsL_law_g20 (goodIn_app wsL_law_g21 (goodIn_app wsL_law_g22 (goodIn_app wsL_law_g23 (goodIn_app wsL_law_g24 (goodIn_app wsL_law_g25 (goodIn_app wsL_law_g26 (goodIn_app wsL_law_g27 (goodIn_app wsL_law_g28 (goodIn_app wsL_law_g29 (goodIn_app wsL_law_g30 (goodIn_app wsL_law_g31 (goodIn_app wsL_law_g32 (goodIn_app wsL_law_g33 (goodIn_app wsL_law_g34 (goodIn_app wsL_law_g35 (goodIn_app wsL_law_g36 (goodIn_app wsL_law_g37 (goodIn_app wsL_law_g38 (goodIn_app wsL_law_g39 (goodIn_app wsL_law_g40 (goodIn_app wsL_law_g41 (goodIn_app wsL_law_g42 (goodIn_app wsL_law_g43 (goodIn_app wsL_law_g44 (goodIn_app wsL_law_g45 (goodIn_app wsL_law_g46 (goodIn_app wsL_law_g47 (goodIn_app wsL_law_g48 (goodIn_app wsL_law_g49 (goodIn_app wsL_law_g50 (goodIn_app wsL_law_g51 (goodIn_app wsL_law_g52 (goodIn_app wsL_law_g53 (goodIn_app wsL_law_g54 (goodIn_app wsL_law_g55 (goodIn_app wsL_law_g56 (goodIn_app wsL_law_g57 (goodIn_app wsL_law_g58 (goodIn_app wsL_law_g59 (goodIn_app wsL_law_g60 (goodIn_app wsL_law_g61 (goodIn_app wsL_law_g62 (goodIn_app wsL_law_g63 (goodIn_app wsL_law_g64 (goodIn_app wsL_law_g65 (goodIn_app wsL_law_g66 (goodIn_app wsL_law_g67 (goodIn_app wsL_law_g68 (goodIn_app wsL_law_g69 (goodIn_app wsL_law_g70 (goodIn_app wsL_law_g71 (goodIn_app wsL_law_g72 (goodIn_app wsL_law_g73 (goodIn_app wsL_law_g74 (goodIn_app wsL_law_g75 (goodIn_app wsL_law_g76 (wsL_law_g77))))))))))))))))))))))))))))))))))))))))))))))))))))))))))))))))))))))))))))
set_option maxRecDepth 100000 in
theorem wsL_law_tX9 : GoodIn lw_tbl wsX90 := goodIn_r _ [420, 422, 424, 426, 428, 430, 432, 434, 436] (by decide +kernel) (by decide +kernel)
set_option maxRecDepth 100000 in
theorem wsL_law_tX10 : GoodIn lw_tbl wsX100 := goodIn_r _ [1469, 1471, 1473, 1475, 1477, 1479, 1481, 1483, 1485, 1487, 1489, 1491, 1493, 1495, 1497, 1499, 1501, 1503, 1505, 1507, 1509, 1511, 1513, 1515, 1517, 1519, 1521, 1523, 1525, 1527, 1529, 1531] (by decide +kernel) (by decide +kernel)
set_option maxRecDepth 100000 in
theorem wsL_law_tX4 : GoodIn lw_tbl wsX40 := goodIn_r _ [180, 182, 184, 186, 188, 190, 192, 194, 196, 198] (by decide +kernel) (by decide +kernel)
set_option maxRecDepth 100000 in
theorem wsL_law_tX6 : GoodIn lw_tbl wsX60 := goodIn_r _ [217, 219, 221, 223, 225, 227, 229, 231, 233] (by decide +kernel) (by decide +kernel)
set_option maxRecDepth 100000 in
theorem wsL_law_tX2 : GoodIn lw_tbl wsX20 := goodIn_r _ [366, 368, 370, 372, 374, 376, 378, 380] (by decide +kernel) (by decide +kernel)
set_option maxRecDepth 100000 in
theorem wsL_law_tX3 : GoodIn lw_tbl wsX30 := goodIn_r _ [396, 398, 400] (by decide +kernel) (by decide +kernel)
set_option maxRecDepth 100000 in
theorem wsL_law_tX0 : GoodIn lw_tbl wsX00 := goodIn_r _ [261, 263, 265, 267] (by decide +kernel) (by decide +kernel)
set_option maxRecDepth 100000 in
theorem wsL_law_tX7 : GoodIn lw_tbl wsX70 := goodIn_r _ [301, 303, 305, 307, 309, 311, 313, 315] (by decide +kernel) (by decide +kernel)
set_option maxRecDepth 100000 in
theorem wsL_law_tX5 : GoodIn lw_tbl wsX50 := goodIn_r _ [337, 339, 341, 343] (by decide +kernel) (by decide +kernel)
set_option maxRecDepth 100000 in
theorem wsL_law_g0 : GoodIn lw_tbl wsL_law0 := goodIn_app (goodIn_app (goodIn_app (goodIn_app (goodIn_app (goodIn_app (goodIn_app (goodIn_app (goodIn_app (goodIn_app (wsL_law_gr) wsL_law_tX9) wsL_law_tX10) wsL_law_tX4) wsL_law_tX6) wsL_law_tX2) wsL_law_tX3) wsL_law_tX0) wsL_law_tX7) wsL_law_tX5) (fun _ h => absurd h List.not_mem_nil)
theorem wsL_law_in0 : ∀ w ∈ wsL_law0, w ∈ lw_tbl := fun w h => (wsL_law_g0 w h).1
theorem wsL_law_x0 : ∀ w ∈ (vx_atS RX9 76 "java/lang/IllegalStateException" ["java/lang/RuntimeException", "java/lang/Exception"]).filter goodWord, w ∈ lw_tbl := by decide +kernel
theorem wsL_law_x1 : ∀ w ∈ (vx_atS RX9 89 "java/lang/IllegalArgumentException" ["java/lang/RuntimeException", "java/lang/Exception"]).filter goodWord, w ∈ lw_tbl := by decide +kernel
theorem wsL_law_x2 : ∀ w ∈ (vx_atS RX9 375 "java/lang/IndexOutOfBoundsException" ["java/lang/RuntimeException", "java/lang/Exception"]).filter goodWord, w ∈ lw_tbl := by decide +kernel
theorem wsL_law_in : ∀ w ∈ wsL_law, w ∈ lw_tbl := fun w h => (List.mem_append.mp h).elim (fun h => (List.mem_append.mp h).elim (fun h => (List.mem_append.mp h).elim (fun h => wsL_law_in0 w h) (fun h => wsL_law_x0 w h)) (fun h => wsL_law_x1 w h)) (fun h => wsL_law_x2 w h)
set_option maxRecDepth 100000 in
theorem inlX0 : ∀ w ∈ wsX00, w ∈ wsL_law := fun _ h => List.mem_append_left _ (List.mem_append_left _ (List.mem_append_left _ (List.mem_append_left _ (List.mem_append_left _ (List.mem_append_left _ (List.mem_append_right _ h))))))
set_option maxRecDepth 100000 in
theorem inlX2 : ∀ w ∈ wsX20, w ∈ wsL_law := fun _ h => List.mem_append_left _ (List.mem_append_left _ (List.mem_append_left _ (List.mem_append_left _ (List.mem_append_left _ (List.mem_append_left _ (List.mem_append_left _ (List.mem_append_left _ (List.mem_append_right _ h))))))))
set_option maxRecDepth 100000 in
theorem inlX3 : ∀ w ∈ wsX30, w ∈ wsL_law := fun _ h => List.mem_append_left _ (List.mem_append_left _ (List.mem_append_left _ (List.mem_append_left _ (List.mem_append_left _ (List.mem_append_left _ (List.mem_append_left _ (List.mem_append_right _ h)))))))
set_option maxRecDepth 100000 in
theorem inlX4 : ∀ w ∈ wsX40, w ∈ wsL_law := fun _ h => List.mem_append_left _ (List.mem_append_left _ (List.mem_append_left _ (List.mem_append_left _ (List.mem_append_left _ (List.mem_append_left _ (List.mem_append_left _ (List.mem_append_left _ (List.mem_append_left _ (List.mem_append_left _ (List.mem_append_right _ h))))))))))
set_option maxRecDepth 100000 in
theorem inlX5 : ∀ w ∈ wsX50, w ∈ wsL_law := fun _ h => List.mem_append_left _ (List.mem_append_left _ (List.mem_append_left _ (List.mem_append_left _ (List.mem_append_right _ h))))
set_option maxRecDepth 100000 in
theorem inlX6 : ∀ w ∈ wsX60, w ∈ wsL_law := fun _ h => List.mem_append_left _ (List.mem_append_left _ (List.mem_append_left _ (List.mem_append_left _ (List.mem_append_left _ (List.mem_append_left _ (List.mem_append_left _ (List.mem_append_left _ (List.mem_append_left _ (List.mem_append_right _ h)))))))))
set_option maxRecDepth 100000 in
theorem inlX7 : ∀ w ∈ wsX70, w ∈ wsL_law := fun _ h => List.mem_append_left _ (List.mem_append_left _ (List.mem_append_left _ (List.mem_append_left _ (List.mem_append_left _ (List.mem_append_right _ h)))))
set_option maxRecDepth 100000 in
theorem inlX9 : ∀ w ∈ wsX90, w ∈ wsL_law := fun _ h => List.mem_append_left _ (List.mem_append_left _ (List.mem_append_left _ (List.mem_append_left _ (List.mem_append_left _ (List.mem_append_left _ (List.mem_append_left _ (List.mem_append_left _ (List.mem_append_left _ (List.mem_append_left _ (List.mem_append_left _ (List.mem_append_left _ (List.mem_append_right _ h))))))))))))
set_option maxRecDepth 100000 in
theorem inlX10 : ∀ w ∈ wsX100, w ∈ wsL_law := fun _ h => List.mem_append_left _ (List.mem_append_left _ (List.mem_append_left _ (List.mem_append_left _ (List.mem_append_left _ (List.mem_append_left _ (List.mem_append_left _ (List.mem_append_left _ (List.mem_append_left _ (List.mem_append_left _ (List.mem_append_left _ (List.mem_append_right _ h)))))))))))
abbrev vwCl : List vw_C := [(RX0, TX0, 4), (RX2, TX2, 8), (RX3, TX3, 3), (RX4, TX4, 10), (RX5, TX5, 4), (RX6, TX6, 9), (RX7, TX7, 8), (RX9, TX9, 9), (RX10, TX10, 32)]

