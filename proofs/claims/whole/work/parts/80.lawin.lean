set_option maxRecDepth 20000 in
theorem wsL_law_r1_g : GoodIn lw_tbl wsL_law_r1 := goodIn_p wsL_law_r1 [59, 62] (by decide +kernel) (by decide +kernel)
set_option maxRecDepth 20000 in
theorem wsL_law_r2_g : GoodIn lw_tbl wsL_law_r2 := goodIn_p wsL_law_r2 [67, 74] (by decide +kernel) (by decide +kernel)
set_option maxRecDepth 20000 in
theorem wsL_law_r3_g : GoodIn lw_tbl wsL_law_r3 := goodIn_p wsL_law_r3 [145, 517] (by decide +kernel) (by decide +kernel)
set_option maxRecDepth 20000 in
theorem wsL_law_r4_g : GoodIn lw_tbl wsL_law_r4 := goodIn_p wsL_law_r4 [178, 182, 186, 190, 197] (by decide +kernel) (by decide +kernel)
set_option maxRecDepth 20000 in
theorem wsL_law_r5_g : GoodIn lw_tbl wsL_law_r5 := goodIn_p wsL_law_r5 [201, 205, 209, 213, 217, 220] (by decide +kernel) (by decide +kernel)
set_option maxRecDepth 20000 in
theorem wsL_law_r6_g : GoodIn lw_tbl wsL_law_r6 := goodIn_p wsL_law_r6 [224, 606, 609, 566, 602, 578] (by decide +kernel) (by decide +kernel)
set_option maxRecDepth 20000 in
theorem wsL_law_r7_g : GoodIn lw_tbl wsL_law_r7 := goodIn_p wsL_law_r7 [613, 617, 574, 590, 594, 621] (by decide +kernel) (by decide +kernel)
set_option maxRecDepth 20000 in
theorem wsL_law_r8_g : GoodIn lw_tbl wsL_law_r8 := goodIn_p wsL_law_r8 [228, 232, 236, 240, 244] (by decide +kernel) (by decide +kernel)
set_option maxRecDepth 20000 in
theorem wsL_law_r9_g : GoodIn lw_tbl wsL_law_r9 := goodIn_p wsL_law_r9 [249, 253, 257, 625, 628, 632, 636] (by decide +kernel) (by decide +kernel)
set_option maxRecDepth 20000 in
theorem wsL_law_r10_g : GoodIn lw_tbl wsL_law_r10 := goodIn_p wsL_law_r10 [640, 644, 648, 652, 656, 660] (by decide +kernel) (by decide +kernel)
set_option maxRecDepth 20000 in
theorem wsL_law_r11_g : GoodIn lw_tbl wsL_law_r11 := goodIn_p wsL_law_r11 [663, 261, 265, 667, 671, 269] (by decide +kernel) (by decide +kernel)
set_option maxRecDepth 20000 in
theorem wsL_law_r12_g : GoodIn lw_tbl wsL_law_r12 := goodIn_p wsL_law_r12 [273, 277, 675, 679, 683, 281] (by decide +kernel) (by decide +kernel)
set_option maxRecDepth 20000 in
theorem wsL_law_r13_g : GoodIn lw_tbl wsL_law_r13 := goodIn_p wsL_law_r13 [285, 289, 687, 691, 695] (by decide +kernel) (by decide +kernel)
set_option maxRecDepth 20000 in
theorem wsL_law_r14_g : GoodIn lw_tbl wsL_law_r14 := goodIn_p wsL_law_r14 [293, 297, 301, 699, 703, 707] (by decide +kernel) (by decide +kernel)
set_option maxRecDepth 20000 in
theorem wsL_law_r15_g : GoodIn lw_tbl wsL_law_r15 := goodIn_p wsL_law_r15 [711, 305, 309, 715, 719, 313] (by decide +kernel) (by decide +kernel)
set_option maxRecDepth 20000 in
theorem wsL_law_r16_g : GoodIn lw_tbl wsL_law_r16 := goodIn_p wsL_law_r16 [317, 321, 325, 723, 586] (by decide +kernel) (by decide +kernel)
set_option maxRecDepth 20000 in
theorem wsL_law_r17_g : GoodIn lw_tbl wsL_law_r17 := goodIn_p wsL_law_r17 [727, 329, 333, 338, 731, 735] (by decide +kernel) (by decide +kernel)
set_option maxRecDepth 20000 in
theorem wsL_law_r18_g : GoodIn lw_tbl wsL_law_r18 := goodIn_p wsL_law_r18 [342, 346, 350, 739, 356] (by decide +kernel) (by decide +kernel)
set_option maxRecDepth 20000 in
theorem wsL_law_r19_g : GoodIn lw_tbl wsL_law_r19 := goodIn_p wsL_law_r19 [360, 364, 368, 372, 743, 570] (by decide +kernel) (by decide +kernel)
set_option maxRecDepth 20000 in
theorem wsL_law_r20_g : GoodIn lw_tbl wsL_law_r20 := goodIn_p wsL_law_r20 [582, 376, 380, 384, 747, 751] (by decide +kernel) (by decide +kernel)
set_option maxRecDepth 20000 in
theorem wsL_law_r21_g : GoodIn lw_tbl wsL_law_r21 := goodIn_p wsL_law_r21 [388, 392, 755, 397, 401, 759] (by decide +kernel) (by decide +kernel)
set_option maxRecDepth 20000 in
theorem wsL_law_r22_g : GoodIn lw_tbl wsL_law_r22 := goodIn_p wsL_law_r22 [763, 767, 405, 409, 412, 771] (by decide +kernel) (by decide +kernel)
set_option maxRecDepth 20000 in
theorem wsL_law_r23_g : GoodIn lw_tbl wsL_law_r23 := goodIn_p wsL_law_r23 [416, 420, 424, 775, 431] (by decide +kernel) (by decide +kernel)
set_option maxRecDepth 20000 in
theorem wsL_law_r24_g : GoodIn lw_tbl wsL_law_r24 := goodIn_p wsL_law_r24 [435, 780, 439, 443, 447, 451] (by decide +kernel) (by decide +kernel)
set_option maxRecDepth 20000 in
theorem wsL_law_r25_g : GoodIn lw_tbl wsL_law_r25 := goodIn_p wsL_law_r25 [455, 459, 463, 784, 788] (by decide +kernel) (by decide +kernel)
set_option maxRecDepth 20000 in
theorem wsL_law_r26_g : GoodIn lw_tbl wsL_law_r26 := goodIn_p wsL_law_r26 [792, 796, 800, 804, 808, 812] (by decide +kernel) (by decide +kernel)
set_option maxRecDepth 20000 in
theorem wsL_law_r27_g : GoodIn lw_tbl wsL_law_r27 := goodIn_p wsL_law_r27 [467, 471, 475, 479, 483, 488] (by decide +kernel) (by decide +kernel)
set_option maxRecDepth 20000 in
theorem wsL_law_r28_g : GoodIn lw_tbl wsL_law_r28 := goodIn_p wsL_law_r28 [492, 496, 816, 820, 824, 500] (by decide +kernel) (by decide +kernel)
set_option maxRecDepth 20000 in
theorem wsL_law_r29_g : GoodIn lw_tbl wsL_law_r29 := goodIn_p wsL_law_r29 [559, 504, 507, 563, 512, 598] (by decide +kernel) (by decide +kernel)
theorem wsXs_0 : GoodIn lw_tbl wsX00 := goodIn_p wsX00 [] (by decide +kernel) (by decide +kernel)
theorem wsXs_1 : GoodIn lw_tbl wsX10 := goodIn_p wsX10 [] (by decide +kernel) (by decide +kernel)
theorem wsXs_2 : GoodIn lw_tbl wsX20 := goodIn_p wsX20 [] (by decide +kernel) (by decide +kernel)
theorem wsXs_3 : GoodIn lw_tbl wsX30 := goodIn_p wsX30 [] (by decide +kernel) (by decide +kernel)
theorem wsXs_4 : GoodIn lw_tbl wsX40 := goodIn_p wsX40 [] (by decide +kernel) (by decide +kernel)
theorem wsL_law_g : GoodIn lw_tbl wsL_law := goodIn_app (goodIn_app (goodIn_app (goodIn_app (goodIn_app (goodIn_app (goodIn_app wsL_law_r1_g (goodIn_app wsL_law_r2_g (goodIn_app wsL_law_r3_g (goodIn_app wsL_law_r4_g (goodIn_app wsL_law_r5_g (goodIn_app wsL_law_r6_g (goodIn_app wsL_law_r7_g (goodIn_app wsL_law_r8_g (goodIn_app wsL_law_r9_g (goodIn_app wsL_law_r10_g (goodIn_app wsL_law_r11_g (goodIn_app wsL_law_r12_g (goodIn_app wsL_law_r13_g (goodIn_app wsL_law_r14_g (goodIn_app wsL_law_r15_g (goodIn_app wsL_law_r16_g (goodIn_app wsL_law_r17_g (goodIn_app wsL_law_r18_g (goodIn_app wsL_law_r19_g (goodIn_app wsL_law_r20_g (goodIn_app wsL_law_r21_g (goodIn_app wsL_law_r22_g (goodIn_app wsL_law_r23_g (goodIn_app wsL_law_r24_g (goodIn_app wsL_law_r25_g (goodIn_app wsL_law_r26_g (goodIn_app wsL_law_r27_g (goodIn_app wsL_law_r28_g (wsL_law_r29_g))))))))))))))))))))))))))))) wsXs_3) wsXs_4) wsXs_2) wsXs_1) wsXs_0) (fun w h => absurd h List.not_mem_nil)
theorem wsL_law_in : ∀ w ∈ wsL_law, w ∈ lw_tbl := fun w h => (wsL_law_g w h).1
theorem inlX0 : ∀ w ∈ wsX00, w ∈ wsL_law := fun _ h => List.mem_append_left _ (List.mem_append_right _ h)
theorem inX0 : ∀ w ∈ wsX00, w ∈ lw_tbl := fun w h => wsL_law_in w (inlX0 w h)
theorem inlX1 : ∀ w ∈ wsX10, w ∈ wsL_law := fun _ h => List.mem_append_left _ (List.mem_append_left _ (List.mem_append_right _ h))
theorem inX1 : ∀ w ∈ wsX10, w ∈ lw_tbl := fun w h => wsL_law_in w (inlX1 w h)
theorem inlX2 : ∀ w ∈ wsX20, w ∈ wsL_law := fun _ h => List.mem_append_left _ (List.mem_append_left _ (List.mem_append_left _ (List.mem_append_right _ h)))
theorem inX2 : ∀ w ∈ wsX20, w ∈ lw_tbl := fun w h => wsL_law_in w (inlX2 w h)
theorem inlX3 : ∀ w ∈ wsX30, w ∈ wsL_law := fun _ h => List.mem_append_left _ (List.mem_append_left _ (List.mem_append_left _ (List.mem_append_left _ (List.mem_append_left _ (List.mem_append_right _ h)))))
theorem inX3 : ∀ w ∈ wsX30, w ∈ lw_tbl := fun w h => wsL_law_in w (inlX3 w h)
theorem inlX4 : ∀ w ∈ wsX40, w ∈ wsL_law := fun _ h => List.mem_append_left _ (List.mem_append_left _ (List.mem_append_left _ (List.mem_append_left _ (List.mem_append_right _ h))))
theorem inX4 : ∀ w ∈ wsX40, w ∈ lw_tbl := fun w h => wsL_law_in w (inlX4 w h)
theorem inJ9 : ∀ w ∈ wsJ90, w ∈ lw_tbl := by decide +kernel
theorem inJ10 : ∀ w ∈ wsJ100, w ∈ lw_tbl := by decide +kernel
