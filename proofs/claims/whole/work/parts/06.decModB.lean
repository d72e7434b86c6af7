theorem dX4_endIt_63 : decode cX4_endIt 63 = .ok (.iconst 3, 1) := by decide +kernel
theorem dX4_endIt_64 : decode cX4_endIt 64 = .ok (.dup2, 1) := by decide +kernel
theorem dX4_endIt_65 : decode cX4_endIt 65 = .ok (.iaload, 1) := by decide +kernel
theorem dX4_endIt_66 : decode cX4_endIt 66 = .ok (.iconst 1, 1) := by decide +kernel
theorem dX4_endIt_67 : decode cX4_endIt 67 = .ok (.iload_n 1, 1) := by decide +kernel
theorem dX4_endIt_68 : decode cX4_endIt 68 = .ok (.isub, 1) := by decide +kernel
theorem dX4_endIt_69 : decode cX4_endIt 69 = .ok (.iadd, 1) := by decide +kernel
theorem dX4_endIt_70 : decode cX4_endIt 70 = .ok (.iastore, 1) := by decide +kernel
theorem dX4_endIt_71 : decode cX4_endIt 71 = .ok (.iload_n 2, 1) := by decide +kernel
theorem dX4_endIt_72 : decode cX4_endIt 72 = .ok (.ireturn, 1) := by decide +kernel
set_option maxRecDepth 20000 in
theorem ggX4_end_X4_in : GoodIn wsX4_end wsX4_in := goodIn_r _ [4] (by decide +kernel) (by decide +kernel)
set_option maxRecDepth 20000 in
theorem gX4_end_X4_in : GoodIn wsX4_end (va_wsS RX4 33 yX4_in wsX4_in) := goodIn_app (goodIn_of _ (by decide +kernel)) ggX4_end_X4_in
set_option maxRecDepth 20000 in
theorem ggX4_end_X4_runs : GoodIn wsX4_end wsX4_runs := goodIn_r _ [8, 9, 64, 65, 66, 67, 68, 69, 70, 71, 72, 73, 74, 75] (by decide +kernel) (by decide +kernel)
set_option maxRecDepth 20000 in
theorem gX4_end_X4_runs : GoodIn wsX4_end (wsV RX4 79 RX4 yX4_runs wsX4_runs) := goodIn_app (goodIn_of _ (by decide +kernel)) ggX4_end_X4_runs
set_option maxRecDepth 20000 in
theorem ggX4_end_X4_record : GoodIn wsX4_end wsX4_record := goodIn_r _ [13, 14, 15, 9, 64, 65, 66, 67, 68, 69, 70, 71, 72, 73, 74, 75] (by decide +kernel) (by decide +kernel)
set_option maxRecDepth 20000 in
theorem gX4_end_X4_record : GoodIn wsX4_end (wsV RX4 57 RX4 yX4_record wsX4_record) := goodIn_app (goodIn_of _ (by decide +kernel)) ggX4_end_X4_record
set_option maxRecDepth 20000 in
theorem ggX4_end_X4_endIt : GoodIn wsX4_end wsX4_endIt := goodIn_r _ [19, 9, 20, 21, 22, 3, 23, 24, 25, 26, 27, 5, 6, 7, 8, 28, 29, 30, 31, 32, 33, 34, 35, 36, 37, 38, 39, 40, 41, 42, 43, 44, 45, 46, 47, 48, 49, 50, 51, 52, 53, 54, 55, 56, 57, 58, 59, 60, 61, 62, 63, 64, 65, 66, 67, 68, 69, 70, 71, 72, 73, 74, 75] (by decide +kernel) (by decide +kernel)
set_option maxRecDepth 20000 in
theorem gX4_end_X4_endIt : GoodIn wsX4_end (wsV RX4 133 RX4 yX4_endIt wsX4_endIt) := goodIn_app (goodIn_of _ (by decide +kernel)) ggX4_end_X4_endIt
theorem dX4_end_0 : decode cX4_end 0 = .ok (.iload_n 1, 1) := by decide +kernel
theorem dX4_end_1 : decode cX4_end 1 = .ok (.iconst 0, 1) := by decide +kernel
theorem dX4_end_2 : decode cX4_end 2 = .ok (.iconst 1, 1) := by decide +kernel
theorem dX4_end_3 : decode cX4_end 3 = .ok (.invokestatic 33, 3) := by decide +kernel
theorem dX4_end_6 : decode cX4_end 6 = .ok (.ifCond .ne 6, 3) := by decide +kernel
theorem dX4_end_9 : decode cX4_end 9 = .ok (.bipush (-2), 2) := by decide +kernel
theorem dX4_end_11 : decode cX4_end 11 = .ok (.ireturn, 1) := by decide +kernel
theorem dX4_end_12 : decode cX4_end 12 = .ok (.aload_n 0, 1) := by decide +kernel
theorem dX4_end_13 : decode cX4_end 13 = .ok (.invokevirtual 79, 3) := by decide +kernel
theorem dX4_end_16 : decode cX4_end 16 = .ok (.ifCond .ne 6, 3) := by decide +kernel
theorem dX4_end_19 : decode cX4_end 19 = .ok (.bipush (-5), 2) := by decide +kernel
theorem dX4_end_21 : decode cX4_end 21 = .ok (.ireturn, 1) := by decide +kernel
theorem dX4_end_22 : decode cX4_end 22 = .ok (.aload_n 0, 1) := by decide +kernel
theorem dX4_end_23 : decode cX4_end 23 = .ok (.invokevirtual 57, 3) := by decide +kernel
theorem dX4_end_26 : decode cX4_end 26 = .ok (.aload_n 0, 1) := by decide +kernel
theorem dX4_end_27 : decode cX4_end 27 = .ok (.iload_n 1, 1) := by decide +kernel
theorem dX4_end_28 : decode cX4_end 28 = .ok (.invokevirtual 133, 3) := by decide +kernel
theorem dX4_end_31 : decode cX4_end 31 = .ok (.ireturn, 1) := by decide +kernel
set_option maxRecDepth 20000 in
theorem ggX4_canAgain_X4_runs : GoodIn wsX4_canAgain wsX4_runs := goodIn_r _ [6, 1, 7, 8, 9, 10, 11, 12, 13, 14, 15, 16, 17, 18] (by decide +kernel) (by decide +kernel)
set_option maxRecDepth 20000 in
theorem gX4_canAgain_X4_runs : GoodIn wsX4_canAgain (wsV RX4 79 RX4 yX4_runs wsX4_runs) := goodIn_app (goodIn_of _ (by decide +kernel)) ggX4_canAgain_X4_runs
theorem dX4_canAgain_0 : decode cX4_canAgain 0 = .ok (.aload_n 0, 1) := by decide +kernel
theorem dX4_canAgain_1 : decode cX4_canAgain 1 = .ok (.invokevirtual 79, 3) := by decide +kernel
theorem dX4_canAgain_4 : decode cX4_canAgain 4 = .ok (.ifCond .ne 17, 3) := by decide +kernel
theorem dX4_canAgain_7 : decode cX4_canAgain 7 = .ok (.aload_n 0, 1) := by decide +kernel
theorem dX4_canAgain_8 : decode cX4_canAgain 8 = .ok (.getfield 7, 3) := by decide +kernel
theorem dX4_canAgain_11 : decode cX4_canAgain 11 = .ok (.iconst 2, 1) := by decide +kernel
theorem dX4_canAgain_12 : decode cX4_canAgain 12 = .ok (.iaload, 1) := by decide +kernel
theorem dX4_canAgain_13 : decode cX4_canAgain 13 = .ok (.iconst 1, 1) := by decide +kernel
theorem dX4_canAgain_14 : decode cX4_canAgain 14 = .ok (.if_icmp .ne 7, 3) := by decide +kernel
theorem dX4_canAgain_17 : decode cX4_canAgain 17 = .ok (.iconst 1, 1) := by decide +kernel
theorem dX4_canAgain_18 : decode cX4_canAgain 18 = .ok (.goto 4, 3) := by decide +kernel
theorem dX4_canAgain_21 : decode cX4_canAgain 21 = .ok (.iconst 0, 1) := by decide +kernel
theorem dX4_canAgain_22 : decode cX4_canAgain 22 = .ok (.ireturn, 1) := by decide +kernel
set_option maxRecDepth 20000 in
theorem ggX4_again_X4_canAgain : GoodIn wsX4_again wsX4_canAgain := goodIn_r _ [5, 6, 7, 8, 9, 4, 10, 25, 26, 27, 28, 29, 30, 31, 32, 33, 34, 35, 36] (by decide +kernel) (by decide +kernel)
set_option maxRecDepth 20000 in
theorem gX4_again_X4_canAgain : GoodIn wsX4_again (wsV RX4 136 RX4 yX4_canAgain wsX4_canAgain) := goodIn_app (goodIn_of _ (by decide +kernel)) ggX4_again_X4_canAgain
set_option maxRecDepth 20000 in
theorem ggX4_again_X4_record : GoodIn wsX4_again wsX4_record := goodIn_r _ [14, 15, 16, 6, 25, 26, 27, 28, 29, 30, 31, 32, 33, 34, 35, 36] (by decide +kernel) (by decide +kernel)
set_option maxRecDepth 20000 in
theorem gX4_again_X4_record : GoodIn wsX4_again (wsV RX4 57 RX4 yX4_record wsX4_record) := goodIn_app (goodIn_of _ (by decide +kernel)) ggX4_again_X4_record
set_option maxRecDepth 20000 in
theorem ggX4_again_X4_start : GoodIn wsX4_again wsX4_start := goodIn_r _ [20, 6, 21, 22, 23, 4, 24, 25, 26, 27, 28, 29, 30, 31, 32, 33, 34, 35, 36] (by decide +kernel) (by decide +kernel)
set_option maxRecDepth 20000 in
theorem gX4_again_X4_start : GoodIn wsX4_again (wsV RX4 121 RX4 yX4_start wsX4_start) := goodIn_app (goodIn_of _ (by decide +kernel)) ggX4_again_X4_start
theorem dX4_again_0 : decode cX4_again 0 = .ok (.aload_n 0, 1) := by decide +kernel
theorem dX4_again_1 : decode cX4_again 1 = .ok (.invokevirtual 136, 3) := by decide +kernel
theorem dX4_again_4 : decode cX4_again 4 = .ok (.ifCond .ne 6, 3) := by decide +kernel
theorem dX4_again_7 : decode cX4_again 7 = .ok (.bipush (-5), 2) := by decide +kernel
theorem dX4_again_9 : decode cX4_again 9 = .ok (.ireturn, 1) := by decide +kernel
theorem dX4_again_10 : decode cX4_again 10 = .ok (.aload_n 0, 1) := by decide +kernel
theorem dX4_again_11 : decode cX4_again 11 = .ok (.invokevirtual 57, 3) := by decide +kernel
theorem dX4_again_14 : decode cX4_again 14 = .ok (.aload_n 0, 1) := by decide +kernel
theorem dX4_again_15 : decode cX4_again 15 = .ok (.invokevirtual 121, 3) := by decide +kernel
theorem dX4_again_18 : decode cX4_again 18 = .ok (.ireturn, 1) := by decide +kernel
set_option maxRecDepth 20000 in
theorem ggX4_holes_X4_many : GoodIn wsX4_holes wsX4_many := goodIn_r _ [5, 6, 7, 8, 4, 9, 10, 19, 20, 21, 22, 23, 24, 25, 26, 27, 28, 29, 30] (by decide +kernel) (by decide +kernel)
set_option maxRecDepth 20000 in
theorem gX4_holes_X4_many : GoodIn wsX4_holes (wsV RX4 60 RX4 yX4_many wsX4_many) := goodIn_app (goodIn_of _ (by decide +kernel)) ggX4_holes_X4_many
set_option maxRecDepth 20000 in
theorem ggX4_holes_X4_isHole : GoodIn wsX4_holes wsX4_isHole := goodIn_r _ [14, 15, 16, 17, 4, 18, 6, 7, 8, 9, 10, 19, 20, 21, 22, 23, 24, 25, 26, 27, 28, 29, 30] (by decide +kernel) (by decide +kernel)
set_option maxRecDepth 20000 in
theorem gX4_holes_X4_isHole : GoodIn wsX4_holes (wsV RX4 64 RX4 yX4_isHole wsX4_isHole) := goodIn_app (goodIn_of _ (by decide +kernel)) ggX4_holes_X4_isHole
theorem dX4_holes_0 : decode cX4_holes 0 = .ok (.iconst 0, 1) := by decide +kernel
theorem dX4_holes_1 : decode cX4_holes 1 = .ok (.istore_n 2, 1) := by decide +kernel
theorem dX4_holes_2 : decode cX4_holes 2 = .ok (.iconst 0, 1) := by decide +kernel
theorem dX4_holes_3 : decode cX4_holes 3 = .ok (.istore_n 3, 1) := by decide +kernel
theorem dX4_holes_4 : decode cX4_holes 4 = .ok (.iload_n 3, 1) := by decide +kernel
theorem dX4_holes_5 : decode cX4_holes 5 = .ok (.aload_n 0, 1) := by decide +kernel
theorem dX4_holes_6 : decode cX4_holes 6 = .ok (.iload_n 1, 1) := by decide +kernel
theorem dX4_holes_7 : decode cX4_holes 7 = .ok (.invokevirtual 60, 3) := by decide +kernel
theorem dX4_holes_10 : decode cX4_holes 10 = .ok (.if_icmp .ge 26, 3) := by decide +kernel
theorem dX4_holes_13 : decode cX4_holes 13 = .ok (.iload_n 2, 1) := by decide +kernel
theorem dX4_holes_14 : decode cX4_holes 14 = .ok (.aload_n 0, 1) := by decide +kernel
theorem dX4_holes_15 : decode cX4_holes 15 = .ok (.iload_n 1, 1) := by decide +kernel
theorem dX4_holes_16 : decode cX4_holes 16 = .ok (.iload_n 3, 1) := by decide +kernel
theorem dX4_holes_17 : decode cX4_holes 17 = .ok (.invokevirtual 64, 3) := by decide +kernel
theorem dX4_holes_20 : decode cX4_holes 20 = .ok (.ifCond .eq 7, 3) := by decide +kernel
theorem dX4_holes_23 : decode cX4_holes 23 = .ok (.iconst 1, 1) := by decide +kernel
theorem dX4_holes_24 : decode cX4_holes 24 = .ok (.goto 4, 3) := by decide +kernel
theorem dX4_holes_27 : decode cX4_holes 27 = .ok (.iconst 0, 1) := by decide +kernel
theorem dX4_holes_28 : decode cX4_holes 28 = .ok (.iadd, 1) := by decide +kernel
theorem dX4_holes_29 : decode cX4_holes 29 = .ok (.istore_n 2, 1) := by decide +kernel
theorem dX4_holes_30 : decode cX4_holes 30 = .ok (.iinc 3 1, 3) := by decide +kernel
theorem dX4_holes_33 : decode cX4_holes 33 = .ok (.goto (-29), 3) := by decide +kernel
theorem dX4_holes_36 : decode cX4_holes 36 = .ok (.iload_n 2, 1) := by decide +kernel
theorem dX4_holes_37 : decode cX4_holes 37 = .ok (.ireturn, 1) := by decide +kernel
set_option maxRecDepth 20000 in
theorem ggX4_allData_X4_many : GoodIn wsX4_allData wsX4_many := goodIn_r _ [5, 6, 7, 8, 4, 9, 10, 19, 20, 21, 22, 23, 24, 25, 26, 27, 28, 29, 30] (by decide +kernel) (by decide +kernel)
set_option maxRecDepth 20000 in
theorem gX4_allData_X4_many : GoodIn wsX4_allData (wsV RX4 60 RX4 yX4_many wsX4_many) := goodIn_app (goodIn_of _ (by decide +kernel)) ggX4_allData_X4_many
set_option maxRecDepth 20000 in
theorem ggX4_allData_X4_isHole : GoodIn wsX4_allData wsX4_isHole := goodIn_r _ [14, 15, 16, 17, 4, 18, 6, 7, 8, 9, 10, 19, 20, 21, 22, 23, 24, 25, 26, 27, 28, 29, 30] (by decide +kernel) (by decide +kernel)
set_option maxRecDepth 20000 in
theorem gX4_allData_X4_isHole : GoodIn wsX4_allData (wsV RX4 64 RX4 yX4_isHole wsX4_isHole) := goodIn_app (goodIn_of _ (by decide +kernel)) ggX4_allData_X4_isHole
set_option maxRecDepth 20000 in
theorem ggX4_allData_X4_gen : GoodIn wsX4_allData wsX4_gen := goodIn_r _ [18, 6, 7, 8, 4, 9, 10, 19, 20, 21, 22, 23, 24, 25, 26, 27, 28, 29, 30] (by decide +kernel) (by decide +kernel)
set_option maxRecDepth 20000 in
theorem gX4_allData_X4_gen : GoodIn wsX4_allData (wsV RX4 45 RX4 yX4_gen wsX4_gen) := goodIn_app (goodIn_of _ (by decide +kernel)) ggX4_allData_X4_gen
theorem dX4_allData_0 : decode cX4_allData 0 = .ok (.iconst 0, 1) := by decide +kernel
theorem dX4_allData_1 : decode cX4_allData 1 = .ok (.istore_n 2, 1) := by decide +kernel
theorem dX4_allData_2 : decode cX4_allData 2 = .ok (.iconst 0, 1) := by decide +kernel
theorem dX4_allData_3 : decode cX4_allData 3 = .ok (.istore_n 3, 1) := by decide +kernel
theorem dX4_allData_4 : decode cX4_allData 4 = .ok (.iload_n 3, 1) := by decide +kernel
theorem dX4_allData_5 : decode cX4_allData 5 = .ok (.aload_n 0, 1) := by decide +kernel
theorem dX4_allData_6 : decode cX4_allData 6 = .ok (.iload_n 1, 1) := by decide +kernel
theorem dX4_allData_7 : decode cX4_allData 7 = .ok (.invokevirtual 60, 3) := by decide +kernel
theorem dX4_allData_10 : decode cX4_allData 10 = .ok (.if_icmp .ge 32, 3) := by decide +kernel
theorem dX4_allData_13 : decode cX4_allData 13 = .ok (.iload_n 2, 1) := by decide +kernel
theorem dX4_allData_14 : decode cX4_allData 14 = .ok (.aload_n 0, 1) := by decide +kernel
theorem dX4_allData_15 : decode cX4_allData 15 = .ok (.iload_n 1, 1) := by decide +kernel
theorem dX4_allData_16 : decode cX4_allData 16 = .ok (.iload_n 3, 1) := by decide +kernel
theorem dX4_allData_17 : decode cX4_allData 17 = .ok (.invokevirtual 64, 3) := by decide +kernel
theorem dX4_allData_20 : decode cX4_allData 20 = .ok (.ifCond .eq 7, 3) := by decide +kernel
theorem dX4_allData_23 : decode cX4_allData 23 = .ok (.iconst 0, 1) := by decide +kernel
theorem dX4_allData_24 : decode cX4_allData 24 = .ok (.goto 10, 3) := by decide +kernel
theorem dX4_allData_27 : decode cX4_allData 27 = .ok (.aload_n 0, 1) := by decide +kernel
theorem dX4_allData_28 : decode cX4_allData 28 = .ok (.iload_n 1, 1) := by decide +kernel
theorem dX4_allData_29 : decode cX4_allData 29 = .ok (.iload_n 3, 1) := by decide +kernel
theorem dX4_allData_30 : decode cX4_allData 30 = .ok (.iconst 2, 1) := by decide +kernel
theorem dX4_allData_31 : decode cX4_allData 31 = .ok (.invokevirtual 45, 3) := by decide +kernel
theorem dX4_allData_34 : decode cX4_allData 34 = .ok (.iadd, 1) := by decide +kernel
theorem dX4_allData_35 : decode cX4_allData 35 = .ok (.istore_n 2, 1) := by decide +kernel
theorem dX4_allData_36 : decode cX4_allData 36 = .ok (.iinc 3 1, 3) := by decide +kernel
theorem dX4_allData_39 : decode cX4_allData 39 = .ok (.goto (-35), 3) := by decide +kernel
theorem dX4_allData_42 : decode cX4_allData 42 = .ok (.iload_n 2, 1) := by decide +kernel
theorem dX4_allData_43 : decode cX4_allData 43 = .ok (.ireturn, 1) := by decide +kernel
set_option maxRecDepth 20000 in
theorem ggX4_ofGroup_X4_isGroup : GoodIn wsX4_ofGroup wsX4_isGroup := goodIn_r _ [4, 5, 6, 3, 7] (by decide +kernel) (by decide +kernel)
set_option maxRecDepth 20000 in
theorem gX4_ofGroup_X4_isGroup : GoodIn wsX4_ofGroup (va_wsS RX4 92 yX4_isGroup wsX4_isGroup) := goodIn_app (goodIn_of _ (by decide +kernel)) ggX4_ofGroup_X4_isGroup
set_option maxRecDepth 20000 in
theorem ggX4_ofGroup_X4_of : GoodIn wsX4_ofGroup wsX4_of := goodIn_r _ [11, 12, 33, 34, 35, 36, 37, 38, 39, 40, 41, 42, 43, 44] (by decide +kernel) (by decide +kernel)
set_option maxRecDepth 20000 in
theorem gX4_ofGroup_X4_of : GoodIn wsX4_ofGroup (wsV RX4 37 RX4 yX4_of wsX4_of) := goodIn_app (goodIn_of _ (by decide +kernel)) ggX4_ofGroup_X4_of
set_option maxRecDepth 20000 in
theorem ggX4_ofGroup_X4_holes : GoodIn wsX4_ofGroup wsX4_holes := goodIn_r _ [16, 17, 18, 19, 3, 20, 8, 9, 10, 11, 12, 21, 22, 23, 24, 25, 26, 27, 28, 33, 34, 35, 36, 37, 38, 39, 40, 41, 42, 43, 44] (by decide +kernel) (by decide +kernel)
set_option maxRecDepth 20000 in
theorem gX4_ofGroup_X4_holes : GoodIn wsX4_ofGroup (wsV RX4 139 RX4 yX4_holes wsX4_holes) := goodIn_app (goodIn_of _ (by decide +kernel)) ggX4_ofGroup_X4_holes
set_option maxRecDepth 20000 in
theorem ggX4_ofGroup_X4_allData : GoodIn wsX4_ofGroup wsX4_allData := goodIn_r _ [32, 17, 18, 19, 3, 20, 8, 9, 10, 11, 12, 21, 22, 23, 24, 25, 26, 27, 28, 33, 34, 35, 36, 37, 38, 39, 40, 41, 42, 43, 44] (by decide +kernel) (by decide +kernel)
set_option maxRecDepth 20000 in
theorem gX4_ofGroup_X4_allData : GoodIn wsX4_ofGroup (wsV RX4 142 RX4 yX4_allData wsX4_allData) := goodIn_app (goodIn_of _ (by decide +kernel)) ggX4_ofGroup_X4_allData
theorem dX4_ofGroup_0 : decode cX4_ofGroup 0 = .ok (.iload_n 1, 1) := by decide +kernel
theorem dX4_ofGroup_1 : decode cX4_ofGroup 1 = .ok (.invokestatic 92, 3) := by decide +kernel
theorem dX4_ofGroup_4 : decode cX4_ofGroup 4 = .ok (.ifCond .ne 5, 3) := by decide +kernel
theorem dX4_ofGroup_7 : decode cX4_ofGroup 7 = .ok (.iconst (-1), 1) := by decide +kernel
theorem dX4_ofGroup_8 : decode cX4_ofGroup 8 = .ok (.ireturn, 1) := by decide +kernel
theorem dX4_ofGroup_9 : decode cX4_ofGroup 9 = .ok (.iload_n 2, 1) := by decide +kernel
theorem dX4_ofGroup_10 : decode cX4_ofGroup 10 = .ok (.tableswitch 70 0 6 #[42, 42, 49, 55, 55, 55, 64], 42) := by decide +kernel
theorem dX4_ofGroup_52 : decode cX4_ofGroup 52 = .ok (.aload_n 0, 1) := by decide +kernel
theorem dX4_ofGroup_53 : decode cX4_ofGroup 53 = .ok (.iload_n 1, 1) := by decide +kernel
theorem dX4_ofGroup_54 : decode cX4_ofGroup 54 = .ok (.iload_n 2, 1) := by decide +kernel
theorem dX4_ofGroup_55 : decode cX4_ofGroup 55 = .ok (.invokevirtual 37, 3) := by decide +kernel
theorem dX4_ofGroup_58 : decode cX4_ofGroup 58 = .ok (.ireturn, 1) := by decide +kernel
theorem dX4_ofGroup_59 : decode cX4_ofGroup 59 = .ok (.aload_n 0, 1) := by decide +kernel
theorem dX4_ofGroup_60 : decode cX4_ofGroup 60 = .ok (.iload_n 1, 1) := by decide +kernel
theorem dX4_ofGroup_61 : decode cX4_ofGroup 61 = .ok (.invokevirtual 139, 3) := by decide +kernel
theorem dX4_ofGroup_64 : decode cX4_ofGroup 64 = .ok (.ireturn, 1) := by decide +kernel
theorem dX4_ofGroup_65 : decode cX4_ofGroup 65 = .ok (.aload_n 0, 1) := by decide +kernel
theorem dX4_ofGroup_66 : decode cX4_ofGroup 66 = .ok (.iload_n 1, 1) := by decide +kernel
theorem dX4_ofGroup_67 : decode cX4_ofGroup 67 = .ok (.iload_n 2, 1) := by decide +kernel
theorem dX4_ofGroup_68 : decode cX4_ofGroup 68 = .ok (.iconst 1, 1) := by decide +kernel
theorem dX4_ofGroup_69 : decode cX4_ofGroup 69 = .ok (.isub, 1) := by decide +kernel
theorem dX4_ofGroup_70 : decode cX4_ofGroup 70 = .ok (.invokevirtual 37, 3) := by decide +kernel
theorem dX4_ofGroup_73 : decode cX4_ofGroup 73 = .ok (.ireturn, 1) := by decide +kernel
theorem dX4_ofGroup_74 : decode cX4_ofGroup 74 = .ok (.aload_n 0, 1) := by decide +kernel
theorem dX4_ofGroup_75 : decode cX4_ofGroup 75 = .ok (.iload_n 1, 1) := by decide +kernel
theorem dX4_ofGroup_76 : decode cX4_ofGroup 76 = .ok (.invokevirtual 142, 3) := by decide +kernel
theorem dX4_ofGroup_79 : decode cX4_ofGroup 79 = .ok (.ireturn, 1) := by decide +kernel
theorem dX4_ofGroup_80 : decode cX4_ofGroup 80 = .ok (.bipush (-2), 2) := by decide +kernel
theorem dX4_ofGroup_82 : decode cX4_ofGroup 82 = .ok (.ireturn, 1) := by decide +kernel
set_option maxRecDepth 20000 in
theorem ggX4_nameOf_X4_runs : GoodIn wsX4_nameOf wsX4_runs := goodIn_r _ [5, 6, 35, 36, 37, 38, 39, 40, 41, 42, 43, 44, 45, 46] (by decide +kernel) (by decide +kernel)
set_option maxRecDepth 20000 in
theorem gX4_nameOf_X4_runs : GoodIn wsX4_nameOf (wsV RX4 79 RX4 yX4_runs wsX4_runs) := goodIn_app (goodIn_of _ (by decide +kernel)) ggX4_nameOf_X4_runs
set_option maxRecDepth 20000 in
theorem ggX4_nameOf_X4_told : GoodIn wsX4_nameOf wsX4_told := goodIn_r _ [10, 1, 2, 3, 4, 5, 6, 11, 12, 13, 14, 15, 16, 17, 18, 19, 20, 21, 22, 23, 24, 25, 26, 27, 28, 29, 30, 31, 32, 33, 34, 35, 36, 37, 38, 39, 40, 41, 42, 43, 44, 45, 46] (by decide +kernel) (by decide +kernel)
set_option maxRecDepth 20000 in
theorem gX4_nameOf_X4_told : GoodIn wsX4_nameOf (wsV RX4 96 RX4 yX4_told wsX4_told) := goodIn_app (goodIn_of _ (by decide +kernel)) ggX4_nameOf_X4_told
theorem dX4_nameOf_0 : decode cX4_nameOf 0 = .ok (.bipush (-6), 2) := by decide +kernel
theorem dX4_nameOf_2 : decode cX4_nameOf 2 = .ok (.istore_n 3, 1) := by decide +kernel
theorem dX4_nameOf_3 : decode cX4_nameOf 3 = .ok (.bipush (-7), 2) := by decide +kernel
theorem dX4_nameOf_5 : decode cX4_nameOf 5 = .ok (.istore 4, 2) := by decide +kernel
theorem dX4_nameOf_7 : decode cX4_nameOf 7 = .ok (.iload 4, 2) := by decide +kernel
theorem dX4_nameOf_9 : decode cX4_nameOf 9 = .ok (.iconst 1, 1) := by decide +kernel
theorem dX4_nameOf_10 : decode cX4_nameOf 10 = .ok (.if_icmp .gt 37, 3) := by decide +kernel
theorem dX4_nameOf_13 : decode cX4_nameOf 13 = .ok (.aload_n 0, 1) := by decide +kernel
theorem dX4_nameOf_14 : decode cX4_nameOf 14 = .ok (.invokevirtual 79, 3) := by decide +kernel
theorem dX4_nameOf_17 : decode cX4_nameOf 17 = .ok (.ifCond .eq 30, 3) := by decide +kernel
theorem dX4_nameOf_20 : decode cX4_nameOf 20 = .ok (.aload_n 0, 1) := by decide +kernel
theorem dX4_nameOf_21 : decode cX4_nameOf 21 = .ok (.iload_n 1, 1) := by decide +kernel
theorem dX4_nameOf_22 : decode cX4_nameOf 22 = .ok (.iload 4, 2) := by decide +kernel
theorem dX4_nameOf_24 : decode cX4_nameOf 24 = .ok (.invokevirtual 96, 3) := by decide +kernel
theorem dX4_nameOf_27 : decode cX4_nameOf 27 = .ok (.iload_n 2, 1) := by decide +kernel
theorem dX4_nameOf_28 : decode cX4_nameOf 28 = .ok (.if_icmp .ne 11, 3) := by decide +kernel
theorem dX4_nameOf_31 : decode cX4_nameOf 31 = .ok (.iload 4, 2) := by decide +kernel
theorem dX4_nameOf_33 : decode cX4_nameOf 33 = .ok (.bipush 10, 2) := by decide +kernel
theorem dX4_nameOf_35 : decode cX4_nameOf 35 = .ok (.iadd, 1) := by decide +kernel
theorem dX4_nameOf_36 : decode cX4_nameOf 36 = .ok (.goto 4, 3) := by decide +kernel
theorem dX4_nameOf_39 : decode cX4_nameOf 39 = .ok (.iload_n 3, 1) := by decide +kernel
theorem dX4_nameOf_40 : decode cX4_nameOf 40 = .ok (.istore_n 3, 1) := by decide +kernel
theorem dX4_nameOf_41 : decode cX4_nameOf 41 = .ok (.iinc 4 1, 3) := by decide +kernel
theorem dX4_nameOf_44 : decode cX4_nameOf 44 = .ok (.goto (-37), 3) := by decide +kernel
theorem dX4_nameOf_47 : decode cX4_nameOf 47 = .ok (.iload_n 3, 1) := by decide +kernel
theorem dX4_nameOf_48 : decode cX4_nameOf 48 = .ok (.ireturn, 1) := by decide +kernel
set_option maxRecDepth 20000 in
theorem ggX4_generation_X4_isGroup : GoodIn wsX4_generation wsX4_isGroup := goodIn_r _ [4, 5, 6, 3, 7] (by decide +kernel) (by decide +kernel)
set_option maxRecDepth 20000 in
theorem gX4_generation_X4_isGroup : GoodIn wsX4_generation (va_wsS RX4 92 yX4_isGroup wsX4_isGroup) := goodIn_app (goodIn_of _ (by decide +kernel)) ggX4_generation_X4_isGroup
set_option maxRecDepth 20000 in
theorem ggX4_generation_X4_many : GoodIn wsX4_generation wsX4_many := goodIn_r _ [11, 12, 13, 14, 3, 15, 16, 45, 46, 47, 48, 49, 50, 51, 52, 53, 54, 55, 56] (by decide +kernel) (by decide +kernel)
set_option maxRecDepth 20000 in
theorem gX4_generation_X4_many : GoodIn wsX4_generation (wsV RX4 60 RX4 yX4_many wsX4_many) := goodIn_app (goodIn_of _ (by decide +kernel)) ggX4_generation_X4_many
set_option maxRecDepth 20000 in
theorem ggX4_generation_X4_in : GoodIn wsX4_generation wsX4_in := goodIn_r _ [7] (by decide +kernel) (by decide +kernel)
set_option maxRecDepth 20000 in
theorem gX4_generation_X4_in : GoodIn wsX4_generation (va_wsS RX4 33 yX4_in wsX4_in) := goodIn_app (goodIn_of _ (by decide +kernel)) ggX4_generation_X4_in
set_option maxRecDepth 20000 in
theorem ggX4_generation_X4_gen : GoodIn wsX4_generation wsX4_gen := goodIn_r _ [20, 12, 13, 14, 3, 15, 16, 45, 46, 47, 48, 49, 50, 51, 52, 53, 54, 55, 56] (by decide +kernel) (by decide +kernel)
set_option maxRecDepth 20000 in
theorem gX4_generation_X4_gen : GoodIn wsX4_generation (wsV RX4 45 RX4 yX4_gen wsX4_gen) := goodIn_app (goodIn_of _ (by decide +kernel)) ggX4_generation_X4_gen
set_option maxRecDepth 20000 in
theorem ggX4_generation_X4_isHole : GoodIn wsX4_generation wsX4_isHole := goodIn_r _ [24, 17, 18, 19, 3, 20, 12, 13, 14, 15, 16, 45, 46, 47, 48, 49, 50, 51, 52, 53, 54, 55, 56] (by decide +kernel) (by decide +kernel)
set_option maxRecDepth 20000 in
theorem gX4_generation_X4_isHole : GoodIn wsX4_generation (wsV RX4 64 RX4 yX4_isHole wsX4_isHole) := goodIn_app (goodIn_of _ (by decide +kernel)) ggX4_generation_X4_isHole
set_option maxRecDepth 20000 in
theorem ggX4_generation_X4_nameOf : GoodIn wsX4_generation wsX4_nameOf := goodIn_r _ [28, 29, 30, 31, 3, 32, 16, 33, 34, 35, 36, 37, 38, 39, 40, 12, 13, 14, 15, 41, 42, 43, 44, 8, 9, 10, 11, 17, 18, 19, 20, 21, 22, 23, 24, 45, 46, 47, 48, 49, 50, 51, 52, 53, 54, 55, 56] (by decide +kernel) (by decide +kernel)
set_option maxRecDepth 20000 in
theorem gX4_generation_X4_nameOf : GoodIn wsX4_generation (wsV RX4 145 RX4 yX4_nameOf wsX4_nameOf) := goodIn_app (goodIn_of _ (by decide +kernel)) ggX4_generation_X4_nameOf
theorem dX4_generation_0 : decode cX4_generation 0 = .ok (.iload_n 1, 1) := by decide +kernel
theorem dX4_generation_1 : decode cX4_generation 1 = .ok (.invokestatic 92, 3) := by decide +kernel
theorem dX4_generation_4 : decode cX4_generation 4 = .ok (.ifCond .eq 18, 3) := by decide +kernel
theorem dX4_generation_7 : decode cX4_generation 7 = .ok (.iload_n 2, 1) := by decide +kernel
theorem dX4_generation_8 : decode cX4_generation 8 = .ok (.iconst 0, 1) := by decide +kernel
theorem dX4_generation_9 : decode cX4_generation 9 = .ok (.aload_n 0, 1) := by decide +kernel
theorem dX4_generation_10 : decode cX4_generation 10 = .ok (.iload_n 1, 1) := by decide +kernel
theorem dX4_generation_11 : decode cX4_generation 11 = .ok (.invokevirtual 60, 3) := by decide +kernel
theorem dX4_generation_14 : decode cX4_generation 14 = .ok (.iconst 1, 1) := by decide +kernel
theorem dX4_generation_15 : decode cX4_generation 15 = .ok (.isub, 1) := by decide +kernel
theorem dX4_generation_16 : decode cX4_generation 16 = .ok (.invokestatic 33, 3) := by decide +kernel
theorem dX4_generation_19 : decode cX4_generation 19 = .ok (.ifCond .ne 5, 3) := by decide +kernel
theorem dX4_generation_22 : decode cX4_generation 22 = .ok (.iconst (-1), 1) := by decide +kernel
theorem dX4_generation_23 : decode cX4_generation 23 = .ok (.ireturn, 1) := by decide +kernel
theorem dX4_generation_24 : decode cX4_generation 24 = .ok (.iload_n 3, 1) := by decide +kernel
theorem dX4_generation_25 : decode cX4_generation 25 = .ok (.tableswitch 93 0 5 #[39, 47, 55, 70, 78, 86], 39) := by decide +kernel
theorem dX4_generation_64 : decode cX4_generation 64 = .ok (.aload_n 0, 1) := by decide +kernel
theorem dX4_generation_65 : decode cX4_generation 65 = .ok (.iload_n 1, 1) := by decide +kernel
theorem dX4_generation_66 : decode cX4_generation 66 = .ok (.iload_n 2, 1) := by decide +kernel
theorem dX4_generation_67 : decode cX4_generation 67 = .ok (.iconst 1, 1) := by decide +kernel
theorem dX4_generation_68 : decode cX4_generation 68 = .ok (.invokevirtual 45, 3) := by decide +kernel
theorem dX4_generation_71 : decode cX4_generation 71 = .ok (.ireturn, 1) := by decide +kernel
theorem dX4_generation_72 : decode cX4_generation 72 = .ok (.aload_n 0, 1) := by decide +kernel
theorem dX4_generation_73 : decode cX4_generation 73 = .ok (.iload_n 1, 1) := by decide +kernel
theorem dX4_generation_74 : decode cX4_generation 74 = .ok (.iload_n 2, 1) := by decide +kernel
theorem dX4_generation_75 : decode cX4_generation 75 = .ok (.iconst 2, 1) := by decide +kernel
theorem dX4_generation_76 : decode cX4_generation 76 = .ok (.invokevirtual 45, 3) := by decide +kernel
theorem dX4_generation_79 : decode cX4_generation 79 = .ok (.ireturn, 1) := by decide +kernel
theorem dX4_generation_80 : decode cX4_generation 80 = .ok (.aload_n 0, 1) := by decide +kernel
theorem dX4_generation_81 : decode cX4_generation 81 = .ok (.iload_n 1, 1) := by decide +kernel
theorem dX4_generation_82 : decode cX4_generation 82 = .ok (.iload_n 2, 1) := by decide +kernel
theorem dX4_generation_83 : decode cX4_generation 83 = .ok (.invokevirtual 64, 3) := by decide +kernel
theorem dX4_generation_86 : decode cX4_generation 86 = .ok (.ifCond .eq 7, 3) := by decide +kernel
theorem dX4_generation_89 : decode cX4_generation 89 = .ok (.iconst 1, 1) := by decide +kernel
theorem dX4_generation_90 : decode cX4_generation 90 = .ok (.goto 4, 3) := by decide +kernel
theorem dX4_generation_93 : decode cX4_generation 93 = .ok (.iconst 0, 1) := by decide +kernel
theorem dX4_generation_94 : decode cX4_generation 94 = .ok (.ireturn, 1) := by decide +kernel
theorem dX4_generation_95 : decode cX4_generation 95 = .ok (.aload_n 0, 1) := by decide +kernel
theorem dX4_generation_96 : decode cX4_generation 96 = .ok (.iload_n 1, 1) := by decide +kernel
theorem dX4_generation_97 : decode cX4_generation 97 = .ok (.iload_n 2, 1) := by decide +kernel
theorem dX4_generation_98 : decode cX4_generation 98 = .ok (.iconst 3, 1) := by decide +kernel
theorem dX4_generation_99 : decode cX4_generation 99 = .ok (.invokevirtual 45, 3) := by decide +kernel
theorem dX4_generation_102 : decode cX4_generation 102 = .ok (.ireturn, 1) := by decide +kernel
theorem dX4_generation_103 : decode cX4_generation 103 = .ok (.aload_n 0, 1) := by decide +kernel
theorem dX4_generation_104 : decode cX4_generation 104 = .ok (.iload_n 1, 1) := by decide +kernel
theorem dX4_generation_105 : decode cX4_generation 105 = .ok (.iload_n 2, 1) := by decide +kernel
theorem dX4_generation_106 : decode cX4_generation 106 = .ok (.iconst 4, 1) := by decide +kernel
theorem dX4_generation_107 : decode cX4_generation 107 = .ok (.invokevirtual 45, 3) := by decide +kernel
theorem dX4_generation_110 : decode cX4_generation 110 = .ok (.ireturn, 1) := by decide +kernel
theorem dX4_generation_111 : decode cX4_generation 111 = .ok (.aload_n 0, 1) := by decide +kernel
theorem dX4_generation_112 : decode cX4_generation 112 = .ok (.iload_n 1, 1) := by decide +kernel
theorem dX4_generation_113 : decode cX4_generation 113 = .ok (.iload_n 2, 1) := by decide +kernel
theorem dX4_generation_114 : decode cX4_generation 114 = .ok (.invokevirtual 145, 3) := by decide +kernel
theorem dX4_generation_117 : decode cX4_generation 117 = .ok (.ireturn, 1) := by decide +kernel
theorem dX4_generation_118 : decode cX4_generation 118 = .ok (.bipush (-2), 2) := by decide +kernel
theorem dX4_generation_120 : decode cX4_generation 120 = .ok (.ireturn, 1) := by decide +kernel
set_option maxRecDepth 20000 in
theorem ggX4_named_X4_isGroup : GoodIn wsX4_named wsX4_isGroup := goodIn_r _ [4, 5, 6, 3, 7] (by decide +kernel) (by decide +kernel)
set_option maxRecDepth 20000 in
theorem gX4_named_X4_isGroup : GoodIn wsX4_named (va_wsS RX4 92 yX4_isGroup wsX4_isGroup) := goodIn_app (goodIn_of _ (by decide +kernel)) ggX4_named_X4_isGroup
set_option maxRecDepth 20000 in
theorem ggX4_named_X4_isName : GoodIn wsX4_named wsX4_isName := goodIn_r _ [10, 5, 6, 3, 7] (by decide +kernel) (by decide +kernel)
set_option maxRecDepth 20000 in
theorem gX4_named_X4_isName : GoodIn wsX4_named (va_wsS RX4 102 yX4_isName wsX4_isName) := goodIn_app (goodIn_of _ (by decide +kernel)) ggX4_named_X4_isName
set_option maxRecDepth 20000 in
theorem ggX4_named_X4_told : GoodIn wsX4_named wsX4_told := goodIn_r _ [14, 15, 16, 17, 3, 18, 19, 20, 21, 22, 23, 24, 25, 26, 27, 28, 29, 30, 31, 32, 33, 34, 35, 36, 37, 38, 39, 40, 41, 42, 43, 44, 45, 46, 47, 48, 49, 50, 51, 52, 53, 54, 55] (by decide +kernel) (by decide +kernel)
set_option maxRecDepth 20000 in
theorem gX4_named_X4_told : GoodIn wsX4_named (wsV RX4 96 RX4 yX4_told wsX4_told) := goodIn_app (goodIn_of _ (by decide +kernel)) ggX4_named_X4_told
set_option maxRecDepth 20000 in
theorem ggX4_named_X4_gen : GoodIn wsX4_named wsX4_gen := goodIn_r _ [39, 24, 25, 26, 3, 27, 19, 44, 45, 46, 47, 48, 49, 50, 51, 52, 53, 54, 55] (by decide +kernel) (by decide +kernel)
set_option maxRecDepth 20000 in
theorem gX4_named_X4_gen : GoodIn wsX4_named (wsV RX4 45 RX4 yX4_gen wsX4_gen) := goodIn_app (goodIn_of _ (by decide +kernel)) ggX4_named_X4_gen
theorem dX4_named_0 : decode cX4_named 0 = .ok (.iload_n 1, 1) := by decide +kernel
theorem dX4_named_1 : decode cX4_named 1 = .ok (.invokestatic 92, 3) := by decide +kernel
theorem dX4_named_4 : decode cX4_named 4 = .ok (.ifCond .ne 5, 3) := by decide +kernel
theorem dX4_named_7 : decode cX4_named 7 = .ok (.iconst (-1), 1) := by decide +kernel
theorem dX4_named_8 : decode cX4_named 8 = .ok (.ireturn, 1) := by decide +kernel
theorem dX4_named_9 : decode cX4_named 9 = .ok (.iload_n 2, 1) := by decide +kernel
theorem dX4_named_10 : decode cX4_named 10 = .ok (.invokestatic 102, 3) := by decide +kernel
theorem dX4_named_13 : decode cX4_named 13 = .ok (.ifCond .ne 6, 3) := by decide +kernel
theorem dX4_named_16 : decode cX4_named 16 = .ok (.bipush (-2), 2) := by decide +kernel
theorem dX4_named_18 : decode cX4_named 18 = .ok (.ireturn, 1) := by decide +kernel
theorem dX4_named_19 : decode cX4_named 19 = .ok (.aload_n 0, 1) := by decide +kernel
theorem dX4_named_20 : decode cX4_named 20 = .ok (.iload_n 1, 1) := by decide +kernel
theorem dX4_named_21 : decode cX4_named 21 = .ok (.iload_n 2, 1) := by decide +kernel
theorem dX4_named_22 : decode cX4_named 22 = .ok (.invokevirtual 96, 3) := by decide +kernel
theorem dX4_named_25 : decode cX4_named 25 = .ok (.istore_n 3, 1) := by decide +kernel
theorem dX4_named_26 : decode cX4_named 26 = .ok (.iload_n 3, 1) := by decide +kernel
theorem dX4_named_27 : decode cX4_named 27 = .ok (.bipush (-6), 2) := by decide +kernel
theorem dX4_named_29 : decode cX4_named 29 = .ok (.if_icmp .ne 8, 3) := by decide +kernel
theorem dX4_named_32 : decode cX4_named 32 = .ok (.bipush (-6), 2) := by decide +kernel
theorem dX4_named_34 : decode cX4_named 34 = .ok (.goto 10, 3) := by decide +kernel
theorem dX4_named_37 : decode cX4_named 37 = .ok (.aload_n 0, 1) := by decide +kernel
theorem dX4_named_38 : decode cX4_named 38 = .ok (.iload_n 1, 1) := by decide +kernel
theorem dX4_named_39 : decode cX4_named 39 = .ok (.iload_n 3, 1) := by decide +kernel
theorem dX4_named_40 : decode cX4_named 40 = .ok (.iconst 1, 1) := by decide +kernel
theorem dX4_named_41 : decode cX4_named 41 = .ok (.invokevirtual 45, 3) := by decide +kernel
theorem dX4_named_44 : decode cX4_named 44 = .ok (.ireturn, 1) := by decide +kernel
set_option maxRecDepth 20000 in
theorem ggX4_allHoles_X4_holes : GoodIn wsX4_allHoles wsX4_holes := goodIn_r _ [5, 6, 7, 8, 4, 9, 10, 11, 12, 13, 14, 15, 16, 17, 18, 19, 20, 21, 22, 23, 24, 25, 26, 27, 28, 29, 30, 31, 32, 33, 34] (by decide +kernel) (by decide +kernel)
set_option maxRecDepth 20000 in
theorem gX4_allHoles_X4_holes : GoodIn wsX4_allHoles (wsV RX4 139 RX4 yX4_holes wsX4_holes) := goodIn_app (goodIn_of _ (by decide +kernel)) ggX4_allHoles_X4_holes
theorem dX4_allHoles_0 : decode cX4_allHoles 0 = .ok (.iconst 0, 1) := by decide +kernel
theorem dX4_allHoles_1 : decode cX4_allHoles 1 = .ok (.istore_n 1, 1) := by decide +kernel
theorem dX4_allHoles_2 : decode cX4_allHoles 2 = .ok (.iconst 0, 1) := by decide +kernel
theorem dX4_allHoles_3 : decode cX4_allHoles 3 = .ok (.istore_n 2, 1) := by decide +kernel
theorem dX4_allHoles_4 : decode cX4_allHoles 4 = .ok (.iload_n 2, 1) := by decide +kernel
theorem dX4_allHoles_5 : decode cX4_allHoles 5 = .ok (.bipush 6, 2) := by decide +kernel
theorem dX4_allHoles_7 : decode cX4_allHoles 7 = .ok (.if_icmp .ge 17, 3) := by decide +kernel
theorem dX4_allHoles_10 : decode cX4_allHoles 10 = .ok (.iload_n 1, 1) := by decide +kernel
theorem dX4_allHoles_11 : decode cX4_allHoles 11 = .ok (.aload_n 0, 1) := by decide +kernel
theorem dX4_allHoles_12 : decode cX4_allHoles 12 = .ok (.iload_n 2, 1) := by decide +kernel
theorem dX4_allHoles_13 : decode cX4_allHoles 13 = .ok (.invokevirtual 139, 3) := by decide +kernel
theorem dX4_allHoles_16 : decode cX4_allHoles 16 = .ok (.iadd, 1) := by decide +kernel
theorem dX4_allHoles_17 : decode cX4_allHoles 17 = .ok (.istore_n 1, 1) := by decide +kernel
theorem dX4_allHoles_18 : decode cX4_allHoles 18 = .ok (.iinc 2 1, 3) := by decide +kernel
theorem dX4_allHoles_21 : decode cX4_allHoles 21 = .ok (.goto (-17), 3) := by decide +kernel
theorem dX4_allHoles_24 : decode cX4_allHoles 24 = .ok (.iload_n 1, 1) := by decide +kernel
theorem dX4_allHoles_25 : decode cX4_allHoles 25 = .ok (.ireturn, 1) := by decide +kernel
set_option maxRecDepth 20000 in
theorem ggX4_wholes_X4_many : GoodIn wsX4_wholes wsX4_many := goodIn_r _ [5, 6, 7, 8, 4, 9, 10, 27, 28, 29, 30, 31, 32, 33, 34, 35, 36, 37, 38] (by decide +kernel) (by decide +kernel)
set_option maxRecDepth 20000 in
theorem gX4_wholes_X4_many : GoodIn wsX4_wholes (wsV RX4 60 RX4 yX4_many wsX4_many) := goodIn_app (goodIn_of _ (by decide +kernel)) ggX4_wholes_X4_many
set_option maxRecDepth 20000 in
theorem ggX4_wholes_X4_allHoles : GoodIn wsX4_wholes wsX4_allHoles := goodIn_r _ [14, 15, 16, 17, 4, 18, 1, 2, 3, 5, 6, 7, 8, 9, 10, 19, 20, 21, 22, 23, 24, 25, 26, 27, 28, 29, 30, 31, 32, 33, 34, 35, 36, 37, 38] (by decide +kernel) (by decide +kernel)
set_option maxRecDepth 20000 in
theorem gX4_wholes_X4_allHoles : GoodIn wsX4_wholes (wsV RX4 148 RX4 yX4_allHoles wsX4_allHoles) := goodIn_app (goodIn_of _ (by decide +kernel)) ggX4_wholes_X4_allHoles
theorem dX4_wholes_0 : decode cX4_wholes 0 = .ok (.iconst 0, 1) := by decide +kernel
theorem dX4_wholes_1 : decode cX4_wholes 1 = .ok (.istore_n 1, 1) := by decide +kernel
theorem dX4_wholes_2 : decode cX4_wholes 2 = .ok (.iconst 0, 1) := by decide +kernel
theorem dX4_wholes_3 : decode cX4_wholes 3 = .ok (.istore_n 2, 1) := by decide +kernel
theorem dX4_wholes_4 : decode cX4_wholes 4 = .ok (.iload_n 2, 1) := by decide +kernel
theorem dX4_wholes_5 : decode cX4_wholes 5 = .ok (.bipush 6, 2) := by decide +kernel
theorem dX4_wholes_7 : decode cX4_wholes 7 = .ok (.if_icmp .ge 17, 3) := by decide +kernel
theorem dX4_wholes_10 : decode cX4_wholes 10 = .ok (.iload_n 1, 1) := by decide +kernel
theorem dX4_wholes_11 : decode cX4_wholes 11 = .ok (.aload_n 0, 1) := by decide +kernel
theorem dX4_wholes_12 : decode cX4_wholes 12 = .ok (.iload_n 2, 1) := by decide +kernel
theorem dX4_wholes_13 : decode cX4_wholes 13 = .ok (.invokevirtual 60, 3) := by decide +kernel
theorem dX4_wholes_16 : decode cX4_wholes 16 = .ok (.iadd, 1) := by decide +kernel
theorem dX4_wholes_17 : decode cX4_wholes 17 = .ok (.istore_n 1, 1) := by decide +kernel
theorem dX4_wholes_18 : decode cX4_wholes 18 = .ok (.iinc 2 1, 3) := by decide +kernel
theorem dX4_wholes_21 : decode cX4_wholes 21 = .ok (.goto (-17), 3) := by decide +kernel
theorem dX4_wholes_24 : decode cX4_wholes 24 = .ok (.iload_n 1, 1) := by decide +kernel
theorem dX4_wholes_25 : decode cX4_wholes 25 = .ok (.aload_n 0, 1) := by decide +kernel
theorem dX4_wholes_26 : decode cX4_wholes 26 = .ok (.invokevirtual 148, 3) := by decide +kernel
theorem dX4_wholes_29 : decode cX4_wholes 29 = .ok (.isub, 1) := by decide +kernel
theorem dX4_wholes_30 : decode cX4_wholes 30 = .ok (.ireturn, 1) := by decide +kernel
set_option maxRecDepth 20000 in
theorem ggX4_count_X4_wholes : GoodIn wsX4_count wsX4_wholes := goodIn_r _ [8, 9, 10, 11, 7, 12, 13, 14, 15, 16, 1, 17, 18, 19, 20, 21, 22, 23, 24, 25, 26, 27, 28, 29, 30, 31, 32, 49, 50, 51, 52, 53, 54, 55, 56, 57, 58, 59, 60] (by decide +kernel) (by decide +kernel)
set_option maxRecDepth 20000 in
theorem gX4_count_X4_wholes : GoodIn wsX4_count (wsV RX4 53 RX4 yX4_wholes wsX4_wholes) := goodIn_app (goodIn_of _ (by decide +kernel)) ggX4_count_X4_wholes
set_option maxRecDepth 20000 in
theorem ggX4_count_X4_allHoles : GoodIn wsX4_count wsX4_allHoles := goodIn_r _ [20, 21, 22, 23, 7, 24, 9, 10, 11, 12, 13, 14, 15, 16, 1, 25, 26, 27, 28, 29, 30, 31, 32, 49, 50, 51, 52, 53, 54, 55, 56, 57, 58, 59, 60] (by decide +kernel) (by decide +kernel)
set_option maxRecDepth 20000 in
theorem gX4_count_X4_allHoles : GoodIn wsX4_count (wsV RX4 148 RX4 yX4_allHoles wsX4_allHoles) := goodIn_app (goodIn_of _ (by decide +kernel)) ggX4_count_X4_allHoles
set_option maxRecDepth 20000 in
theorem ggX4_count_X4_madeMany : GoodIn wsX4_count wsX4_madeMany := goodIn_r _ [36, 37, 38, 39, 7, 40, 13, 14, 15, 16, 1, 41, 42, 43, 44, 45, 46, 47, 48, 9, 10, 11, 12, 29, 30, 31, 32, 25, 26, 27, 28, 49, 50, 51, 52, 53, 54, 55, 56, 57, 58, 59, 60] (by decide +kernel) (by decide +kernel)
set_option maxRecDepth 20000 in
theorem gX4_count_X4_madeMany : GoodIn wsX4_count (wsV RX4 130 RX4 yX4_madeMany wsX4_madeMany) := goodIn_app (goodIn_of _ (by decide +kernel)) ggX4_count_X4_madeMany
theorem dX4_count_0 : decode cX4_count 0 = .ok (.iload_n 1, 1) := by decide +kernel
theorem dX4_count_1 : decode cX4_count 1 = .ok (.tableswitch 115 0 9 #[55, 62, 69, 76, 81, 86, 93, 100, 105, 110], 55) := by decide +kernel
theorem dX4_count_56 : decode cX4_count 56 = .ok (.aload_n 0, 1) := by decide +kernel
theorem dX4_count_57 : decode cX4_count 57 = .ok (.getfield 7, 3) := by decide +kernel
theorem dX4_count_60 : decode cX4_count 60 = .ok (.iconst 0, 1) := by decide +kernel
theorem dX4_count_61 : decode cX4_count 61 = .ok (.iaload, 1) := by decide +kernel
theorem dX4_count_62 : decode cX4_count 62 = .ok (.ireturn, 1) := by decide +kernel
theorem dX4_count_63 : decode cX4_count 63 = .ok (.aload_n 0, 1) := by decide +kernel
theorem dX4_count_64 : decode cX4_count 64 = .ok (.getfield 7, 3) := by decide +kernel
theorem dX4_count_67 : decode cX4_count 67 = .ok (.iconst 1, 1) := by decide +kernel
theorem dX4_count_68 : decode cX4_count 68 = .ok (.iaload, 1) := by decide +kernel
theorem dX4_count_69 : decode cX4_count 69 = .ok (.ireturn, 1) := by decide +kernel
theorem dX4_count_70 : decode cX4_count 70 = .ok (.aload_n 0, 1) := by decide +kernel
theorem dX4_count_71 : decode cX4_count 71 = .ok (.getfield 7, 3) := by decide +kernel
theorem dX4_count_74 : decode cX4_count 74 = .ok (.iconst 3, 1) := by decide +kernel
theorem dX4_count_75 : decode cX4_count 75 = .ok (.iaload, 1) := by decide +kernel
theorem dX4_count_76 : decode cX4_count 76 = .ok (.ireturn, 1) := by decide +kernel
theorem dX4_count_77 : decode cX4_count 77 = .ok (.aload_n 0, 1) := by decide +kernel
theorem dX4_count_78 : decode cX4_count 78 = .ok (.invokevirtual 53, 3) := by decide +kernel
theorem dX4_count_81 : decode cX4_count 81 = .ok (.ireturn, 1) := by decide +kernel
theorem dX4_count_82 : decode cX4_count 82 = .ok (.aload_n 0, 1) := by decide +kernel
theorem dX4_count_83 : decode cX4_count 83 = .ok (.invokevirtual 148, 3) := by decide +kernel
theorem dX4_count_86 : decode cX4_count 86 = .ok (.ireturn, 1) := by decide +kernel
theorem dX4_count_87 : decode cX4_count 87 = .ok (.aload_n 0, 1) := by decide +kernel
theorem dX4_count_88 : decode cX4_count 88 = .ok (.getfield 7, 3) := by decide +kernel
theorem dX4_count_91 : decode cX4_count 91 = .ok (.iconst 4, 1) := by decide +kernel
theorem dX4_count_92 : decode cX4_count 92 = .ok (.iaload, 1) := by decide +kernel
theorem dX4_count_93 : decode cX4_count 93 = .ok (.ireturn, 1) := by decide +kernel
theorem dX4_count_94 : decode cX4_count 94 = .ok (.aload_n 0, 1) := by decide +kernel
theorem dX4_count_95 : decode cX4_count 95 = .ok (.getfield 7, 3) := by decide +kernel
theorem dX4_count_98 : decode cX4_count 98 = .ok (.iconst 5, 1) := by decide +kernel
theorem dX4_count_99 : decode cX4_count 99 = .ok (.iaload, 1) := by decide +kernel
theorem dX4_count_100 : decode cX4_count 100 = .ok (.ireturn, 1) := by decide +kernel
theorem dX4_count_101 : decode cX4_count 101 = .ok (.aload_n 0, 1) := by decide +kernel
theorem dX4_count_102 : decode cX4_count 102 = .ok (.invokevirtual 130, 3) := by decide +kernel
theorem dX4_count_105 : decode cX4_count 105 = .ok (.ireturn, 1) := by decide +kernel
theorem dX4_count_106 : decode cX4_count 106 = .ok (.aload_n 0, 1) := by decide +kernel
theorem dX4_count_107 : decode cX4_count 107 = .ok (.getfield 151, 3) := by decide +kernel
theorem dX4_count_110 : decode cX4_count 110 = .ok (.ireturn, 1) := by decide +kernel
theorem dX4_count_111 : decode cX4_count 111 = .ok (.aload_n 0, 1) := by decide +kernel
theorem dX4_count_112 : decode cX4_count 112 = .ok (.getfield 49, 3) := by decide +kernel
theorem dX4_count_115 : decode cX4_count 115 = .ok (.ireturn, 1) := by decide +kernel
theorem dX4_count_116 : decode cX4_count 116 = .ok (.bipush (-2), 2) := by decide +kernel
theorem dX4_count_118 : decode cX4_count 118 = .ok (.ireturn, 1) := by decide +kernel
set_option maxRecDepth 20000 in
theorem ggX4_isNewestMade_X4_runs : GoodIn wsX4_isNewestMade wsX4_runs := goodIn_r _ [5, 6, 23, 24, 25, 26, 27, 28, 29, 30, 31, 32, 33, 34] (by decide +kernel) (by decide +kernel)
set_option maxRecDepth 20000 in
theorem gX4_isNewestMade_X4_runs : GoodIn wsX4_isNewestMade (wsV RX4 79 RX4 yX4_runs wsX4_runs) := goodIn_app (goodIn_of _ (by decide +kernel)) ggX4_isNewestMade_X4_runs
set_option maxRecDepth 20000 in
theorem ggX4_isNewestMade_X4_of : GoodIn wsX4_isNewestMade wsX4_of := goodIn_r _ [10, 6, 23, 24, 25, 26, 27, 28, 29, 30, 31, 32, 33, 34] (by decide +kernel) (by decide +kernel)
set_option maxRecDepth 20000 in
theorem gX4_isNewestMade_X4_of : GoodIn wsX4_isNewestMade (wsV RX4 37 RX4 yX4_of wsX4_of) := goodIn_app (goodIn_of _ (by decide +kernel)) ggX4_isNewestMade_X4_of
set_option maxRecDepth 20000 in
theorem ggX4_isNewestMade_X4_placeOf : GoodIn wsX4_isNewestMade wsX4_placeOf := goodIn_r _ [14, 15, 16, 17, 4, 18, 7, 8, 9, 10, 6, 19, 20, 21, 22, 23, 24, 25, 26, 27, 28, 29, 30, 31, 32, 33, 34] (by decide +kernel) (by decide +kernel)
set_option maxRecDepth 20000 in
theorem gX4_isNewestMade_X4_placeOf : GoodIn wsX4_isNewestMade (wsV RX4 89 RX4 yX4_placeOf wsX4_placeOf) := goodIn_app (goodIn_of _ (by decide +kernel)) ggX4_isNewestMade_X4_placeOf
theorem dX4_isNewestMade_0 : decode cX4_isNewestMade 0 = .ok (.aload_n 0, 1) := by decide +kernel
theorem dX4_isNewestMade_1 : decode cX4_isNewestMade 1 = .ok (.invokevirtual 79, 3) := by decide +kernel
theorem dX4_isNewestMade_4 : decode cX4_isNewestMade 4 = .ok (.ifCond .eq 30, 3) := by decide +kernel
theorem dX4_isNewestMade_7 : decode cX4_isNewestMade 7 = .ok (.aload_n 0, 1) := by decide +kernel
theorem dX4_isNewestMade_8 : decode cX4_isNewestMade 8 = .ok (.iload_n 1, 1) := by decide +kernel
theorem dX4_isNewestMade_9 : decode cX4_isNewestMade 9 = .ok (.iconst 5, 1) := by decide +kernel
theorem dX4_isNewestMade_10 : decode cX4_isNewestMade 10 = .ok (.invokevirtual 37, 3) := by decide +kernel
theorem dX4_isNewestMade_13 : decode cX4_isNewestMade 13 = .ok (.ifCond .eq 21, 3) := by decide +kernel
theorem dX4_isNewestMade_16 : decode cX4_isNewestMade 16 = .ok (.aload_n 0, 1) := by decide +kernel
theorem dX4_isNewestMade_17 : decode cX4_isNewestMade 17 = .ok (.iload_n 1, 1) := by decide +kernel
theorem dX4_isNewestMade_18 : decode cX4_isNewestMade 18 = .ok (.aload_n 0, 1) := by decide +kernel
theorem dX4_isNewestMade_19 : decode cX4_isNewestMade 19 = .ok (.iload_n 1, 1) := by decide +kernel
theorem dX4_isNewestMade_20 : decode cX4_isNewestMade 20 = .ok (.iconst 5, 1) := by decide +kernel
theorem dX4_isNewestMade_21 : decode cX4_isNewestMade 21 = .ok (.invokevirtual 37, 3) := by decide +kernel
theorem dX4_isNewestMade_24 : decode cX4_isNewestMade 24 = .ok (.invokevirtual 89, 3) := by decide +kernel
theorem dX4_isNewestMade_27 : decode cX4_isNewestMade 27 = .ok (.ifCond .ne 7, 3) := by decide +kernel
theorem dX4_isNewestMade_30 : decode cX4_isNewestMade 30 = .ok (.iconst 1, 1) := by decide +kernel
theorem dX4_isNewestMade_31 : decode cX4_isNewestMade 31 = .ok (.goto 4, 3) := by decide +kernel
theorem dX4_isNewestMade_34 : decode cX4_isNewestMade 34 = .ok (.iconst 0, 1) := by decide +kernel
theorem dX4_isNewestMade_35 : decode cX4_isNewestMade 35 = .ok (.ireturn, 1) := by decide +kernel
set_option maxRecDepth 20000 in
theorem ggX4_groups_X4_in : GoodIn wsX4_groups wsX4_in := goodIn_r _ [4] (by decide +kernel) (by decide +kernel)
set_option maxRecDepth 20000 in
theorem gX4_groups_X4_in : GoodIn wsX4_groups (va_wsS RX4 33 yX4_in wsX4_in) := goodIn_app (goodIn_of _ (by decide +kernel)) ggX4_groups_X4_in
set_option maxRecDepth 20000 in
theorem ggX4_groups_X4_holes : GoodIn wsX4_groups wsX4_holes := goodIn_r _ [8, 9, 10, 11, 3, 12, 13, 14, 15, 16, 17, 18, 19, 20, 21, 22, 23, 24, 25, 46, 47, 48, 49, 50, 51, 52, 53, 54, 55, 56, 57] (by decide +kernel) (by decide +kernel)
set_option maxRecDepth 20000 in
theorem gX4_groups_X4_holes : GoodIn wsX4_groups (wsV RX4 139 RX4 yX4_holes wsX4_holes) := goodIn_app (goodIn_of _ (by decide +kernel)) ggX4_groups_X4_holes
set_option maxRecDepth 20000 in
theorem ggX4_groups_X4_isNewestMade : GoodIn wsX4_groups wsX4_isNewestMade := goodIn_r _ [29, 30, 31, 32, 3, 33, 17, 13, 14, 15, 16, 34, 35, 36, 37, 9, 10, 11, 12, 22, 23, 24, 25, 46, 47, 48, 49, 50, 51, 52, 53, 54, 55, 56, 57] (by decide +kernel) (by decide +kernel)
set_option maxRecDepth 20000 in
theorem gX4_groups_X4_isNewestMade : GoodIn wsX4_groups (wsV RX4 154 RX4 yX4_isNewestMade wsX4_isNewestMade) := goodIn_app (goodIn_of _ (by decide +kernel)) ggX4_groups_X4_isNewestMade
set_option maxRecDepth 20000 in
theorem ggX4_groups_X4_told : GoodIn wsX4_groups wsX4_told := goodIn_r _ [41, 30, 31, 32, 3, 33, 17, 42, 43, 44, 45, 13, 14, 15, 16, 34, 35, 36, 37, 9, 10, 11, 12, 22, 23, 24, 25, 18, 19, 20, 21, 46, 47, 48, 49, 50, 51, 52, 53, 54, 55, 56, 57] (by decide +kernel) (by decide +kernel)
set_option maxRecDepth 20000 in
theorem gX4_groups_X4_told : GoodIn wsX4_groups (wsV RX4 96 RX4 yX4_told wsX4_told) := goodIn_app (goodIn_of _ (by decide +kernel)) ggX4_groups_X4_told
theorem dX4_groups_0 : decode cX4_groups 0 = .ok (.iload_n 1, 1) := by decide +kernel
theorem dX4_groups_1 : decode cX4_groups 1 = .ok (.iconst 0, 1) := by decide +kernel
theorem dX4_groups_2 : decode cX4_groups 2 = .ok (.iconst 2, 1) := by decide +kernel
theorem dX4_groups_3 : decode cX4_groups 3 = .ok (.invokestatic 33, 3) := by decide +kernel
theorem dX4_groups_6 : decode cX4_groups 6 = .ok (.ifCond .ne 6, 3) := by decide +kernel
theorem dX4_groups_9 : decode cX4_groups 9 = .ok (.bipush (-2), 2) := by decide +kernel
theorem dX4_groups_11 : decode cX4_groups 11 = .ok (.ireturn, 1) := by decide +kernel
theorem dX4_groups_12 : decode cX4_groups 12 = .ok (.iconst 0, 1) := by decide +kernel
theorem dX4_groups_13 : decode cX4_groups 13 = .ok (.istore_n 2, 1) := by decide +kernel
theorem dX4_groups_14 : decode cX4_groups 14 = .ok (.iconst 0, 1) := by decide +kernel
theorem dX4_groups_15 : decode cX4_groups 15 = .ok (.istore_n 3, 1) := by decide +kernel
theorem dX4_groups_16 : decode cX4_groups 16 = .ok (.iload_n 3, 1) := by decide +kernel
theorem dX4_groups_17 : decode cX4_groups 17 = .ok (.bipush 6, 2) := by decide +kernel
theorem dX4_groups_19 : decode cX4_groups 19 = .ok (.if_icmp .ge 75, 3) := by decide +kernel
theorem dX4_groups_22 : decode cX4_groups 22 = .ok (.iload_n 1, 1) := by decide +kernel
theorem dX4_groups_23 : decode cX4_groups 23 = .ok (.ifCond .ne 19, 3) := by decide +kernel
theorem dX4_groups_26 : decode cX4_groups 26 = .ok (.aload_n 0, 1) := by decide +kernel
theorem dX4_groups_27 : decode cX4_groups 27 = .ok (.iload_n 3, 1) := by decide +kernel
theorem dX4_groups_28 : decode cX4_groups 28 = .ok (.invokevirtual 139, 3) := by decide +kernel
theorem dX4_groups_31 : decode cX4_groups 31 = .ok (.ifCond .le 7, 3) := by decide +kernel
theorem dX4_groups_34 : decode cX4_groups 34 = .ok (.iconst 1, 1) := by decide +kernel
theorem dX4_groups_35 : decode cX4_groups 35 = .ok (.goto 36, 3) := by decide +kernel
theorem dX4_groups_38 : decode cX4_groups 38 = .ok (.iconst 0, 1) := by decide +kernel
theorem dX4_groups_39 : decode cX4_groups 39 = .ok (.goto 32, 3) := by decide +kernel
theorem dX4_groups_42 : decode cX4_groups 42 = .ok (.iload_n 1, 1) := by decide +kernel
theorem dX4_groups_43 : decode cX4_groups 43 = .ok (.iconst 1, 1) := by decide +kernel
theorem dX4_groups_44 : decode cX4_groups 44 = .ok (.if_icmp .ne 11, 3) := by decide +kernel
theorem dX4_groups_47 : decode cX4_groups 47 = .ok (.aload_n 0, 1) := by decide +kernel
theorem dX4_groups_48 : decode cX4_groups 48 = .ok (.iload_n 3, 1) := by decide +kernel
theorem dX4_groups_49 : decode cX4_groups 49 = .ok (.invokevirtual 154, 3) := by decide +kernel
theorem dX4_groups_52 : decode cX4_groups 52 = .ok (.goto 19, 3) := by decide +kernel
theorem dX4_groups_55 : decode cX4_groups 55 = .ok (.aload_n 0, 1) := by decide +kernel
theorem dX4_groups_56 : decode cX4_groups 56 = .ok (.iload_n 3, 1) := by decide +kernel
theorem dX4_groups_57 : decode cX4_groups 57 = .ok (.iconst 0, 1) := by decide +kernel
theorem dX4_groups_58 : decode cX4_groups 58 = .ok (.invokevirtual 96, 3) := by decide +kernel
theorem dX4_groups_61 : decode cX4_groups 61 = .ok (.bipush (-6), 2) := by decide +kernel
theorem dX4_groups_63 : decode cX4_groups 63 = .ok (.if_icmp .ne 7, 3) := by decide +kernel
theorem dX4_groups_66 : decode cX4_groups 66 = .ok (.iconst 1, 1) := by decide +kernel
theorem dX4_groups_67 : decode cX4_groups 67 = .ok (.goto 4, 3) := by decide +kernel
theorem dX4_groups_70 : decode cX4_groups 70 = .ok (.iconst 0, 1) := by decide +kernel
theorem dX4_groups_71 : decode cX4_groups 71 = .ok (.istore 4, 2) := by decide +kernel
theorem dX4_groups_73 : decode cX4_groups 73 = .ok (.iload_n 2, 1) := by decide +kernel
theorem dX4_groups_74 : decode cX4_groups 74 = .ok (.iload 4, 2) := by decide +kernel
theorem dX4_groups_76 : decode cX4_groups 76 = .ok (.ifCond .eq 9, 3) := by decide +kernel
theorem dX4_groups_79 : decode cX4_groups 79 = .ok (.iconst 1, 1) := by decide +kernel
theorem dX4_groups_80 : decode cX4_groups 80 = .ok (.iload_n 3, 1) := by decide +kernel
theorem dX4_groups_81 : decode cX4_groups 81 = .ok (.ishl, 1) := by decide +kernel
theorem dX4_groups_82 : decode cX4_groups 82 = .ok (.goto 4, 3) := by decide +kernel
theorem dX4_groups_85 : decode cX4_groups 85 = .ok (.iconst 0, 1) := by decide +kernel
theorem dX4_groups_86 : decode cX4_groups 86 = .ok (.ior, 1) := by decide +kernel
theorem dX4_groups_87 : decode cX4_groups 87 = .ok (.istore_n 2, 1) := by decide +kernel
theorem dX4_groups_88 : decode cX4_groups 88 = .ok (.iinc 3 1, 3) := by decide +kernel
theorem dX4_groups_91 : decode cX4_groups 91 = .ok (.goto (-75), 3) := by decide +kernel
theorem dX4_groups_94 : decode cX4_groups 94 = .ok (.iload_n 2, 1) := by decide +kernel
theorem dX4_groups_95 : decode cX4_groups 95 = .ok (.ireturn, 1) := by decide +kernel
set_option maxRecDepth 20000 in
theorem ggX4_rolls_X4_isGroup : GoodIn wsX4_rolls wsX4_isGroup := goodIn_r _ [4, 5, 6, 3, 7] (by decide +kernel) (by decide +kernel)
set_option maxRecDepth 20000 in
theorem gX4_rolls_X4_isGroup : GoodIn wsX4_rolls (va_wsS RX4 92 yX4_isGroup wsX4_isGroup) := goodIn_app (goodIn_of _ (by decide +kernel)) ggX4_rolls_X4_isGroup
set_option maxRecDepth 20000 in
theorem ggX4_rolls_X4_many : GoodIn wsX4_rolls wsX4_many := goodIn_r _ [11, 12, 13, 14, 3, 15, 16, 21, 22, 23, 24, 25, 26, 27, 28, 29, 30, 31, 32] (by decide +kernel) (by decide +kernel)
set_option maxRecDepth 20000 in
theorem gX4_rolls_X4_many : GoodIn wsX4_rolls (wsV RX4 60 RX4 yX4_many wsX4_many) := goodIn_app (goodIn_of _ (by decide +kernel)) ggX4_rolls_X4_many
set_option maxRecDepth 20000 in
theorem ggX4_rolls_X4_of : GoodIn wsX4_rolls wsX4_of := goodIn_r _ [15, 16, 21, 22, 23, 24, 25, 26, 27, 28, 29, 30, 31, 32] (by decide +kernel) (by decide +kernel)
set_option maxRecDepth 20000 in
theorem gX4_rolls_X4_of : GoodIn wsX4_rolls (wsV RX4 37 RX4 yX4_of wsX4_of) := goodIn_app (goodIn_of _ (by decide +kernel)) ggX4_rolls_X4_of
set_option maxRecDepth 20000 in
theorem ggX4_rolls_X4_gen : GoodIn wsX4_rolls wsX4_gen := goodIn_r _ [20, 12, 13, 14, 3, 15, 16, 21, 22, 23, 24, 25, 26, 27, 28, 29, 30, 31, 32] (by decide +kernel) (by decide +kernel)
set_option maxRecDepth 20000 in
theorem gX4_rolls_X4_gen : GoodIn wsX4_rolls (wsV RX4 45 RX4 yX4_gen wsX4_gen) := goodIn_app (goodIn_of _ (by decide +kernel)) ggX4_rolls_X4_gen
theorem dX4_rolls_0 : decode cX4_rolls 0 = .ok (.iload_n 1, 1) := by decide +kernel
theorem dX4_rolls_1 : decode cX4_rolls 1 = .ok (.invokestatic 92, 3) := by decide +kernel
theorem dX4_rolls_4 : decode cX4_rolls 4 = .ok (.ifCond .ne 5, 3) := by decide +kernel
theorem dX4_rolls_7 : decode cX4_rolls 7 = .ok (.iconst (-1), 1) := by decide +kernel
theorem dX4_rolls_8 : decode cX4_rolls 8 = .ok (.ireturn, 1) := by decide +kernel
theorem dX4_rolls_9 : decode cX4_rolls 9 = .ok (.aload_n 0, 1) := by decide +kernel
theorem dX4_rolls_10 : decode cX4_rolls 10 = .ok (.iload_n 1, 1) := by decide +kernel
theorem dX4_rolls_11 : decode cX4_rolls 11 = .ok (.invokevirtual 60, 3) := by decide +kernel
theorem dX4_rolls_14 : decode cX4_rolls 14 = .ok (.aload_n 0, 1) := by decide +kernel
theorem dX4_rolls_15 : decode cX4_rolls 15 = .ok (.iload_n 1, 1) := by decide +kernel
theorem dX4_rolls_16 : decode cX4_rolls 16 = .ok (.iconst 0, 1) := by decide +kernel
theorem dX4_rolls_17 : decode cX4_rolls 17 = .ok (.invokevirtual 37, 3) := by decide +kernel
theorem dX4_rolls_20 : decode cX4_rolls 20 = .ok (.if_icmp .ge 8, 3) := by decide +kernel
theorem dX4_rolls_23 : decode cX4_rolls 23 = .ok (.bipush (-6), 2) := by decide +kernel
theorem dX4_rolls_25 : decode cX4_rolls 25 = .ok (.goto 16, 3) := by decide +kernel
theorem dX4_rolls_28 : decode cX4_rolls 28 = .ok (.aload_n 0, 1) := by decide +kernel
theorem dX4_rolls_29 : decode cX4_rolls 29 = .ok (.iload_n 1, 1) := by decide +kernel
theorem dX4_rolls_30 : decode cX4_rolls 30 = .ok (.aload_n 0, 1) := by decide +kernel
theorem dX4_rolls_31 : decode cX4_rolls 31 = .ok (.iload_n 1, 1) := by decide +kernel
theorem dX4_rolls_32 : decode cX4_rolls 32 = .ok (.invokevirtual 60, 3) := by decide +kernel
theorem dX4_rolls_35 : decode cX4_rolls 35 = .ok (.iconst 1, 1) := by decide +kernel
theorem dX4_rolls_36 : decode cX4_rolls 36 = .ok (.isub, 1) := by decide +kernel
theorem dX4_rolls_37 : decode cX4_rolls 37 = .ok (.iconst 1, 1) := by decide +kernel
theorem dX4_rolls_38 : decode cX4_rolls 38 = .ok (.invokevirtual 45, 3) := by decide +kernel
theorem dX4_rolls_41 : decode cX4_rolls 41 = .ok (.ireturn, 1) := by decide +kernel
theorem dX4_putAside_0 : decode cX4_putAside 0 = .ok (.iconst 0, 1) := by decide +kernel
theorem dX4_putAside_1 : decode cX4_putAside 1 = .ok (.istore_n 1, 1) := by decide +kernel
theorem dX4_putAside_2 : decode cX4_putAside 2 = .ok (.iload_n 1, 1) := by decide +kernel
theorem dX4_putAside_3 : decode cX4_putAside 3 = .ok (.sipush 367, 3) := by decide +kernel
theorem dX4_putAside_6 : decode cX4_putAside 6 = .ok (.if_icmp .ge 21, 3) := by decide +kernel
theorem dX4_putAside_9 : decode cX4_putAside 9 = .ok (.aload_n 0, 1) := by decide +kernel
theorem dX4_putAside_10 : decode cX4_putAside 10 = .ok (.getfield 23, 3) := by decide +kernel
theorem dX4_putAside_13 : decode cX4_putAside 13 = .ok (.iload_n 1, 1) := by decide +kernel
theorem dX4_putAside_14 : decode cX4_putAside 14 = .ok (.aload_n 0, 1) := by decide +kernel
theorem dX4_putAside_15 : decode cX4_putAside 15 = .ok (.getfield 7, 3) := by decide +kernel
theorem dX4_putAside_18 : decode cX4_putAside 18 = .ok (.iload_n 1, 1) := by decide +kernel
theorem dX4_putAside_19 : decode cX4_putAside 19 = .ok (.iaload, 1) := by decide +kernel
theorem dX4_putAside_20 : decode cX4_putAside 20 = .ok (.iastore, 1) := by decide +kernel
theorem dX4_putAside_21 : decode cX4_putAside 21 = .ok (.iinc 1 1, 3) := by decide +kernel
theorem dX4_putAside_24 : decode cX4_putAside 24 = .ok (.goto (-22), 3) := by decide +kernel
theorem dX4_putAside_27 : decode cX4_putAside 27 = .ok (.return_, 1) := by decide +kernel
theorem dX4_bringBack_0 : decode cX4_bringBack 0 = .ok (.iconst 0, 1) := by decide +kernel
theorem dX4_bringBack_1 : decode cX4_bringBack 1 = .ok (.istore_n 1, 1) := by decide +kernel
theorem dX4_bringBack_2 : decode cX4_bringBack 2 = .ok (.iload_n 1, 1) := by decide +kernel
theorem dX4_bringBack_3 : decode cX4_bringBack 3 = .ok (.sipush 367, 3) := by decide +kernel
theorem dX4_bringBack_6 : decode cX4_bringBack 6 = .ok (.if_icmp .ge 21, 3) := by decide +kernel
theorem dX4_bringBack_9 : decode cX4_bringBack 9 = .ok (.aload_n 0, 1) := by decide +kernel
theorem dX4_bringBack_10 : decode cX4_bringBack 10 = .ok (.getfield 7, 3) := by decide +kernel
theorem dX4_bringBack_13 : decode cX4_bringBack 13 = .ok (.iload_n 1, 1) := by decide +kernel
theorem dX4_bringBack_14 : decode cX4_bringBack 14 = .ok (.aload_n 0, 1) := by decide +kernel
theorem dX4_bringBack_15 : decode cX4_bringBack 15 = .ok (.getfield 23, 3) := by decide +kernel
theorem dX4_bringBack_18 : decode cX4_bringBack 18 = .ok (.iload_n 1, 1) := by decide +kernel
theorem dX4_bringBack_19 : decode cX4_bringBack 19 = .ok (.iaload, 1) := by decide +kernel
theorem dX4_bringBack_20 : decode cX4_bringBack 20 = .ok (.iastore, 1) := by decide +kernel
theorem dX4_bringBack_21 : decode cX4_bringBack 21 = .ok (.iinc 1 1, 3) := by decide +kernel
theorem dX4_bringBack_24 : decode cX4_bringBack 24 = .ok (.goto (-22), 3) := by decide +kernel
theorem dX4_bringBack_27 : decode cX4_bringBack 27 = .ok (.return_, 1) := by decide +kernel
set_option maxRecDepth 20000 in
theorem ggX4_ifFailed_X4_isGroup : GoodIn wsX4_ifFailed wsX4_isGroup := goodIn_r _ [4, 5, 6, 3, 7] (by decide +kernel) (by decide +kernel)
set_option maxRecDepth 20000 in
theorem gX4_ifFailed_X4_isGroup : GoodIn wsX4_ifFailed (va_wsS RX4 92 yX4_isGroup wsX4_isGroup) := goodIn_app (goodIn_of _ (by decide +kernel)) ggX4_ifFailed_X4_isGroup
set_option maxRecDepth 20000 in
theorem ggX4_ifFailed_X4_putAside : GoodIn wsX4_ifFailed wsX4_putAside := goodIn_r _ [11, 12, 13, 78, 79, 80, 81, 82, 83, 84, 85, 86, 87, 88, 89] (by decide +kernel) (by decide +kernel)
set_option maxRecDepth 20000 in
theorem gX4_ifFailed_X4_putAside : GoodIn wsX4_ifFailed (wsV RX4 157 RX4 yX4_putAside wsX4_putAside) := goodIn_app (goodIn_of _ (by decide +kernel)) ggX4_ifFailed_X4_putAside
set_option maxRecDepth 20000 in
theorem ggX4_ifFailed_X4_runs : GoodIn wsX4_ifFailed wsX4_runs := goodIn_r _ [17, 13, 78, 79, 80, 81, 82, 83, 84, 85, 86, 87, 88, 89] (by decide +kernel) (by decide +kernel)
set_option maxRecDepth 20000 in
theorem gX4_ifFailed_X4_runs : GoodIn wsX4_ifFailed (wsV RX4 79 RX4 yX4_runs wsX4_runs) := goodIn_app (goodIn_of _ (by decide +kernel)) ggX4_ifFailed_X4_runs
set_option maxRecDepth 20000 in
theorem ggX4_ifFailed_X4_endIt : GoodIn wsX4_ifFailed wsX4_endIt := goodIn_r _ [21, 13, 22, 23, 24, 3, 25, 26, 27, 28, 29, 14, 15, 16, 17, 30, 31, 32, 33, 34, 35, 36, 37, 38, 39, 40, 41, 42, 43, 44, 45, 46, 47, 48, 49, 50, 51, 52, 53, 54, 55, 56, 57, 58, 59, 60, 61, 62, 63, 64, 65, 78, 79, 80, 81, 82, 83, 84, 85, 86, 87, 88, 89] (by decide +kernel) (by decide +kernel)
set_option maxRecDepth 20000 in
theorem gX4_ifFailed_X4_endIt : GoodIn wsX4_ifFailed (wsV RX4 133 RX4 yX4_endIt wsX4_endIt) := goodIn_app (goodIn_of _ (by decide +kernel)) ggX4_ifFailed_X4_endIt
set_option maxRecDepth 20000 in
theorem ggX4_ifFailed_X4_told : GoodIn wsX4_ifFailed wsX4_told := goodIn_r _ [69, 14, 15, 16, 3, 17, 13, 70, 71, 72, 73, 26, 27, 28, 29, 30, 31, 32, 33, 34, 35, 36, 37, 38, 39, 40, 41, 42, 43, 44, 45, 78, 79, 80, 81, 82, 83, 84, 85, 86, 87, 88, 89] (by decide +kernel) (by decide +kernel)
set_option maxRecDepth 20000 in
theorem gX4_ifFailed_X4_told : GoodIn wsX4_ifFailed (wsV RX4 96 RX4 yX4_told wsX4_told) := goodIn_app (goodIn_of _ (by decide +kernel)) ggX4_ifFailed_X4_told
set_option maxRecDepth 20000 in
theorem ggX4_ifFailed_X4_gen : GoodIn wsX4_ifFailed wsX4_gen := goodIn_r _ [41, 26, 27, 28, 3, 29, 13, 78, 79, 80, 81, 82, 83, 84, 85, 86, 87, 88, 89] (by decide +kernel) (by decide +kernel)
set_option maxRecDepth 20000 in
theorem gX4_ifFailed_X4_gen : GoodIn wsX4_ifFailed (wsV RX4 45 RX4 yX4_gen wsX4_gen) := goodIn_app (goodIn_of _ (by decide +kernel)) ggX4_ifFailed_X4_gen
set_option maxRecDepth 20000 in
theorem ggX4_ifFailed_X4_bringBack : GoodIn wsX4_ifFailed wsX4_bringBack := goodIn_r _ [77, 13, 12, 78, 79, 80, 81, 82, 83, 84, 85, 86, 87, 88, 89] (by decide +kernel) (by decide +kernel)
set_option maxRecDepth 20000 in
theorem gX4_ifFailed_X4_bringBack : GoodIn wsX4_ifFailed (wsV RX4 160 RX4 yX4_bringBack wsX4_bringBack) := goodIn_app (goodIn_of _ (by decide +kernel)) ggX4_ifFailed_X4_bringBack
theorem dX4_ifFailed_0 : decode cX4_ifFailed 0 = .ok (.iload_n 1, 1) := by decide +kernel
theorem dX4_ifFailed_1 : decode cX4_ifFailed 1 = .ok (.invokestatic 92, 3) := by decide +kernel
theorem dX4_ifFailed_4 : decode cX4_ifFailed 4 = .ok (.ifCond .ne 5, 3) := by decide +kernel
theorem dX4_ifFailed_7 : decode cX4_ifFailed 7 = .ok (.iconst (-1), 1) := by decide +kernel
theorem dX4_ifFailed_8 : decode cX4_ifFailed 8 = .ok (.ireturn, 1) := by decide +kernel
theorem dX4_ifFailed_9 : decode cX4_ifFailed 9 = .ok (.aload_n 0, 1) := by decide +kernel
theorem dX4_ifFailed_10 : decode cX4_ifFailed 10 = .ok (.invokevirtual 157, 3) := by decide +kernel
theorem dX4_ifFailed_13 : decode cX4_ifFailed 13 = .ok (.aload_n 0, 1) := by decide +kernel
theorem dX4_ifFailed_14 : decode cX4_ifFailed 14 = .ok (.invokevirtual 79, 3) := by decide +kernel
theorem dX4_ifFailed_17 : decode cX4_ifFailed 17 = .ok (.ifCond .eq 9, 3) := by decide +kernel
theorem dX4_ifFailed_20 : decode cX4_ifFailed 20 = .ok (.aload_n 0, 1) := by decide +kernel
theorem dX4_ifFailed_21 : decode cX4_ifFailed 21 = .ok (.iconst 0, 1) := by decide +kernel
theorem dX4_ifFailed_22 : decode cX4_ifFailed 22 = .ok (.invokevirtual 133, 3) := by decide +kernel
theorem dX4_ifFailed_25 : decode cX4_ifFailed 25 = .ok (.pop, 1) := by decide +kernel
theorem dX4_ifFailed_26 : decode cX4_ifFailed 26 = .ok (.aload_n 0, 1) := by decide +kernel
theorem dX4_ifFailed_27 : decode cX4_ifFailed 27 = .ok (.iload_n 1, 1) := by decide +kernel
theorem dX4_ifFailed_28 : decode cX4_ifFailed 28 = .ok (.iconst 0, 1) := by decide +kernel
theorem dX4_ifFailed_29 : decode cX4_ifFailed 29 = .ok (.invokevirtual 96, 3) := by decide +kernel
theorem dX4_ifFailed_32 : decode cX4_ifFailed 32 = .ok (.istore_n 2, 1) := by decide +kernel
theorem dX4_ifFailed_33 : decode cX4_ifFailed 33 = .ok (.iload_n 2, 1) := by decide +kernel
theorem dX4_ifFailed_34 : decode cX4_ifFailed 34 = .ok (.bipush (-6), 2) := by decide +kernel
theorem dX4_ifFailed_36 : decode cX4_ifFailed 36 = .ok (.if_icmp .ne 8, 3) := by decide +kernel
theorem dX4_ifFailed_39 : decode cX4_ifFailed 39 = .ok (.bipush (-6), 2) := by decide +kernel
theorem dX4_ifFailed_41 : decode cX4_ifFailed 41 = .ok (.goto 10, 3) := by decide +kernel
theorem dX4_ifFailed_44 : decode cX4_ifFailed 44 = .ok (.aload_n 0, 1) := by decide +kernel
theorem dX4_ifFailed_45 : decode cX4_ifFailed 45 = .ok (.iload_n 1, 1) := by decide +kernel
theorem dX4_ifFailed_46 : decode cX4_ifFailed 46 = .ok (.iload_n 2, 1) := by decide +kernel
theorem dX4_ifFailed_47 : decode cX4_ifFailed 47 = .ok (.iconst 1, 1) := by decide +kernel
theorem dX4_ifFailed_48 : decode cX4_ifFailed 48 = .ok (.invokevirtual 45, 3) := by decide +kernel
theorem dX4_ifFailed_51 : decode cX4_ifFailed 51 = .ok (.istore_n 3, 1) := by decide +kernel
theorem dX4_ifFailed_52 : decode cX4_ifFailed 52 = .ok (.aload_n 0, 1) := by decide +kernel
theorem dX4_ifFailed_53 : decode cX4_ifFailed 53 = .ok (.invokevirtual 160, 3) := by decide +kernel
theorem dX4_ifFailed_56 : decode cX4_ifFailed 56 = .ok (.iload_n 3, 1) := by decide +kernel
theorem dX4_ifFailed_57 : decode cX4_ifFailed 57 = .ok (.ireturn, 1) := by decide +kernel
set_option maxRecDepth 20000 in
theorem ggX4_leastKeep_X4_isGroup : GoodIn wsX4_leastKeep wsX4_isGroup := goodIn_r _ [4, 5, 6, 3, 7] (by decide +kernel) (by decide +kernel)
set_option maxRecDepth 20000 in
theorem gX4_leastKeep_X4_isGroup : GoodIn wsX4_leastKeep (va_wsS RX4 92 yX4_isGroup wsX4_isGroup) := goodIn_app (goodIn_of _ (by decide +kernel)) ggX4_leastKeep_X4_isGroup
set_option maxRecDepth 20000 in
theorem ggX4_leastKeep_X4_many : GoodIn wsX4_leastKeep wsX4_many := goodIn_r _ [11, 12, 13, 14, 3, 15, 16, 17, 18, 19, 20, 21, 22, 23, 24, 25, 26, 27, 28] (by decide +kernel) (by decide +kernel)
set_option maxRecDepth 20000 in
theorem gX4_leastKeep_X4_many : GoodIn wsX4_leastKeep (wsV RX4 60 RX4 yX4_many wsX4_many) := goodIn_app (goodIn_of _ (by decide +kernel)) ggX4_leastKeep_X4_many
theorem dX4_leastKeep_0 : decode cX4_leastKeep 0 = .ok (.iload_n 1, 1) := by decide +kernel
theorem dX4_leastKeep_1 : decode cX4_leastKeep 1 = .ok (.invokestatic 92, 3) := by decide +kernel
theorem dX4_leastKeep_4 : decode cX4_leastKeep 4 = .ok (.ifCond .ne 5, 3) := by decide +kernel
theorem dX4_leastKeep_7 : decode cX4_leastKeep 7 = .ok (.iconst (-1), 1) := by decide +kernel
theorem dX4_leastKeep_8 : decode cX4_leastKeep 8 = .ok (.ireturn, 1) := by decide +kernel
theorem dX4_leastKeep_9 : decode cX4_leastKeep 9 = .ok (.aload_n 0, 1) := by decide +kernel
theorem dX4_leastKeep_10 : decode cX4_leastKeep 10 = .ok (.iload_n 1, 1) := by decide +kernel
theorem dX4_leastKeep_11 : decode cX4_leastKeep 11 = .ok (.invokevirtual 60, 3) := by decide +kernel
theorem dX4_leastKeep_14 : decode cX4_leastKeep 14 = .ok (.iconst 1, 1) := by decide +kernel
theorem dX4_leastKeep_15 : decode cX4_leastKeep 15 = .ok (.if_icmp .ge 7, 3) := by decide +kernel
theorem dX4_leastKeep_18 : decode cX4_leastKeep 18 = .ok (.iconst 1, 1) := by decide +kernel
theorem dX4_leastKeep_19 : decode cX4_leastKeep 19 = .ok (.goto 8, 3) := by decide +kernel
theorem dX4_leastKeep_22 : decode cX4_leastKeep 22 = .ok (.aload_n 0, 1) := by decide +kernel
theorem dX4_leastKeep_23 : decode cX4_leastKeep 23 = .ok (.iload_n 1, 1) := by decide +kernel
theorem dX4_leastKeep_24 : decode cX4_leastKeep 24 = .ok (.invokevirtual 60, 3) := by decide +kernel
theorem dX4_leastKeep_27 : decode cX4_leastKeep 27 = .ok (.ireturn, 1) := by decide +kernel
set_option maxRecDepth 20000 in
theorem ggX4_put_X4_in : GoodIn wsX4_put wsX4_in := goodIn_r _ [7] (by decide +kernel) (by decide +kernel)
set_option maxRecDepth 20000 in
theorem gX4_put_X4_in : GoodIn wsX4_put (va_wsS RX4 33 yX4_in wsX4_in) := goodIn_app (goodIn_of _ (by decide +kernel)) ggX4_put_X4_in
theorem dX4_put_0 : decode cX4_put 0 = .ok (.iconst 0, 1) := by decide +kernel
theorem dX4_put_1 : decode cX4_put 1 = .ok (.istore_n 3, 1) := by decide +kernel
theorem dX4_put_2 : decode cX4_put 2 = .ok (.lload_n 1, 1) := by decide +kernel
theorem dX4_put_3 : decode cX4_put 3 = .ok (.lstore 4, 2) := by decide +kernel
theorem dX4_put_5 : decode cX4_put 5 = .ok (.iconst 1, 1) := by decide +kernel
theorem dX4_put_6 : decode cX4_put 6 = .ok (.istore 6, 2) := by decide +kernel
theorem dX4_put_8 : decode cX4_put 8 = .ok (.lload 4, 2) := by decide +kernel
theorem dX4_put_10 : decode cX4_put 10 = .ok (.lconst 0, 1) := by decide +kernel
theorem dX4_put_11 : decode cX4_put 11 = .ok (.lcmp, 1) := by decide +kernel
theorem dX4_put_12 : decode cX4_put 12 = .ok (.ifCond .eq 37, 3) := by decide +kernel
theorem dX4_put_15 : decode cX4_put 15 = .ok (.iload 6, 2) := by decide +kernel
theorem dX4_put_17 : decode cX4_put 17 = .ok (.ifCond .eq 32, 3) := by decide +kernel
theorem dX4_put_20 : decode cX4_put 20 = .ok (.lload 4, 2) := by decide +kernel
theorem dX4_put_22 : decode cX4_put 22 = .ok (.ldc2_w 163, 3) := by decide +kernel
theorem dX4_put_25 : decode cX4_put 25 = .ok (.land, 1) := by decide +kernel
theorem dX4_put_26 : decode cX4_put 26 = .ok (.l2i, 1) := by decide +kernel
theorem dX4_put_27 : decode cX4_put 27 = .ok (.bipush 33, 2) := by decide +kernel
theorem dX4_put_29 : decode cX4_put 29 = .ok (.bipush 126, 2) := by decide +kernel
theorem dX4_put_31 : decode cX4_put 31 = .ok (.invokestatic 33, 3) := by decide +kernel
theorem dX4_put_34 : decode cX4_put 34 = .ok (.istore 6, 2) := by decide +kernel
theorem dX4_put_36 : decode cX4_put 36 = .ok (.lload 4, 2) := by decide +kernel
theorem dX4_put_38 : decode cX4_put 38 = .ok (.bipush 8, 2) := by decide +kernel
theorem dX4_put_40 : decode cX4_put 40 = .ok (.lushr, 1) := by decide +kernel
theorem dX4_put_41 : decode cX4_put 41 = .ok (.lstore 4, 2) := by decide +kernel
theorem dX4_put_43 : decode cX4_put 43 = .ok (.iinc 3 1, 3) := by decide +kernel
theorem dX4_put_46 : decode cX4_put 46 = .ok (.goto (-38), 3) := by decide +kernel
theorem dX4_put_49 : decode cX4_put 49 = .ok (.iload_n 3, 1) := by decide +kernel
theorem dX4_put_50 : decode cX4_put 50 = .ok (.ifCond .eq 8, 3) := by decide +kernel
theorem dX4_put_53 : decode cX4_put 53 = .ok (.iload 6, 2) := by decide +kernel
theorem dX4_put_55 : decode cX4_put 55 = .ok (.ifCond .ne 6, 3) := by decide +kernel
theorem dX4_put_58 : decode cX4_put 58 = .ok (.bipush (-2), 2) := by decide +kernel
theorem dX4_put_60 : decode cX4_put 60 = .ok (.ireturn, 1) := by decide +kernel
theorem dX4_put_61 : decode cX4_put 61 = .ok (.aload_n 0, 1) := by decide +kernel
theorem dX4_put_62 : decode cX4_put 62 = .ok (.getfield 151, 3) := by decide +kernel
theorem dX4_put_65 : decode cX4_put 65 = .ok (.iload_n 3, 1) := by decide +kernel
theorem dX4_put_66 : decode cX4_put 66 = .ok (.iadd, 1) := by decide +kernel
theorem dX4_put_67 : decode cX4_put 67 = .ok (.bipush 80, 2) := by decide +kernel
theorem dX4_put_69 : decode cX4_put 69 = .ok (.if_icmp .le 6, 3) := by decide +kernel
theorem dX4_put_72 : decode cX4_put 72 = .ok (.bipush (-4), 2) := by decide +kernel
theorem dX4_put_74 : decode cX4_put 74 = .ok (.ireturn, 1) := by decide +kernel
theorem dX4_put_75 : decode cX4_put 75 = .ok (.iload_n 3, 1) := by decide +kernel
theorem dX4_put_76 : decode cX4_put 76 = .ok (.iconst 1, 1) := by decide +kernel
theorem dX4_put_77 : decode cX4_put 77 = .ok (.isub, 1) := by decide +kernel
theorem dX4_put_78 : decode cX4_put 78 = .ok (.istore 7, 2) := by decide +kernel
theorem dX4_put_80 : decode cX4_put 80 = .ok (.iload 7, 2) := by decide +kernel
theorem dX4_put_82 : decode cX4_put 82 = .ok (.ifCond .lt 41, 3) := by decide +kernel
theorem dX4_put_85 : decode cX4_put 85 = .ok (.aload_n 0, 1) := by decide +kernel
theorem dX4_put_86 : decode cX4_put 86 = .ok (.getfield 26, 3) := by decide +kernel
theorem dX4_put_89 : decode cX4_put 89 = .ok (.aload_n 0, 1) := by decide +kernel
theorem dX4_put_90 : decode cX4_put 90 = .ok (.getfield 151, 3) := by decide +kernel
theorem dX4_put_93 : decode cX4_put 93 = .ok (.lload_n 1, 1) := by decide +kernel
theorem dX4_put_94 : decode cX4_put 94 = .ok (.bipush 8, 2) := by decide +kernel
theorem dX4_put_96 : decode cX4_put 96 = .ok (.iload 7, 2) := by decide +kernel
theorem dX4_put_98 : decode cX4_put 98 = .ok (.imul, 1) := by decide +kernel
theorem dX4_put_99 : decode cX4_put 99 = .ok (.lushr, 1) := by decide +kernel
theorem dX4_put_100 : decode cX4_put 100 = .ok (.ldc2_w 163, 3) := by decide +kernel
theorem dX4_put_103 : decode cX4_put 103 = .ok (.land, 1) := by decide +kernel
theorem dX4_put_104 : decode cX4_put 104 = .ok (.l2i, 1) := by decide +kernel
theorem dX4_put_105 : decode cX4_put 105 = .ok (.i2c, 1) := by decide +kernel
theorem dX4_put_106 : decode cX4_put 106 = .ok (.castore, 1) := by decide +kernel
theorem dX4_put_107 : decode cX4_put 107 = .ok (.aload_n 0, 1) := by decide +kernel
theorem dX4_put_108 : decode cX4_put 108 = .ok (.dup, 1) := by decide +kernel
theorem dX4_put_109 : decode cX4_put 109 = .ok (.getfield 151, 3) := by decide +kernel
theorem dX4_put_112 : decode cX4_put 112 = .ok (.iconst 1, 1) := by decide +kernel
theorem dX4_put_113 : decode cX4_put 113 = .ok (.iadd, 1) := by decide +kernel
theorem dX4_put_114 : decode cX4_put 114 = .ok (.putfield 151, 3) := by decide +kernel
theorem dX4_put_117 : decode cX4_put 117 = .ok (.iinc 7 (-1), 3) := by decide +kernel
theorem dX4_put_120 : decode cX4_put 120 = .ok (.goto (-40), 3) := by decide +kernel
theorem dX4_put_123 : decode cX4_put 123 = .ok (.aload_n 0, 1) := by decide +kernel
theorem dX4_put_124 : decode cX4_put 124 = .ok (.getfield 151, 3) := by decide +kernel
theorem dX4_put_127 : decode cX4_put 127 = .ok (.ireturn, 1) := by decide +kernel
theorem dX4_wipe_0 : decode cX4_wipe 0 = .ok (.aload_n 0, 1) := by decide +kernel
theorem dX4_wipe_1 : decode cX4_wipe 1 = .ok (.getfield 151, 3) := by decide +kernel
theorem dX4_wipe_4 : decode cX4_wipe 4 = .ok (.istore_n 1, 1) := by decide +kernel
theorem dX4_wipe_5 : decode cX4_wipe 5 = .ok (.aload_n 0, 1) := by decide +kernel
theorem dX4_wipe_6 : decode cX4_wipe 6 = .ok (.iconst 0, 1) := by decide +kernel
theorem dX4_wipe_7 : decode cX4_wipe 7 = .ok (.putfield 151, 3) := by decide +kernel
theorem dX4_wipe_10 : decode cX4_wipe 10 = .ok (.iload_n 1, 1) := by decide +kernel
theorem dX4_wipe_11 : decode cX4_wipe 11 = .ok (.ireturn, 1) := by decide +kernel
theorem dX4_letter_0 : decode cX4_letter 0 = .ok (.aload_n 0, 1) := by decide +kernel
theorem dX4_letter_1 : decode cX4_letter 1 = .ok (.getfield 165, 3) := by decide +kernel
theorem dX4_letter_4 : decode cX4_letter 4 = .ok (.aload_n 0, 1) := by decide +kernel
theorem dX4_letter_5 : decode cX4_letter 5 = .ok (.getfield 151, 3) := by decide +kernel
theorem dX4_letter_8 : decode cX4_letter 8 = .ok (.if_icmp .ge 15, 3) := by decide +kernel
theorem dX4_letter_11 : decode cX4_letter 11 = .ok (.aload_n 0, 1) := by decide +kernel
theorem dX4_letter_12 : decode cX4_letter 12 = .ok (.getfield 26, 3) := by decide +kernel
theorem dX4_letter_15 : decode cX4_letter 15 = .ok (.aload_n 0, 1) := by decide +kernel
theorem dX4_letter_16 : decode cX4_letter 16 = .ok (.getfield 165, 3) := by decide +kernel
theorem dX4_letter_19 : decode cX4_letter 19 = .ok (.caload, 1) := by decide +kernel
theorem dX4_letter_20 : decode cX4_letter 20 = .ok (.goto 5, 3) := by decide +kernel
theorem dX4_letter_23 : decode cX4_letter 23 = .ok (.bipush (-6), 2) := by decide +kernel
theorem dX4_letter_25 : decode cX4_letter 25 = .ok (.ireturn, 1) := by decide +kernel
theorem dX4_wants_0 : decode cX4_wants 0 = .ok (.aload_n 0, 1) := by decide +kernel
theorem dX4_wants_1 : decode cX4_wants 1 = .ok (.getfield 168, 3) := by decide +kernel
theorem dX4_wants_4 : decode cX4_wants 4 = .ok (.bipush (-6), 2) := by decide +kernel
theorem dX4_wants_6 : decode cX4_wants 6 = .ok (.if_icmp .ne 30, 3) := by decide +kernel
theorem dX4_wants_9 : decode cX4_wants 9 = .ok (.aload_n 0, 1) := by decide +kernel
theorem dX4_wants_10 : decode cX4_wants 10 = .ok (.iload_n 1, 1) := by decide +kernel
theorem dX4_wants_11 : decode cX4_wants 11 = .ok (.ifCond .eq 8, 3) := by decide +kernel
theorem dX4_wants_14 : decode cX4_wants 14 = .ok (.bipush (-6), 2) := by decide +kernel
theorem dX4_wants_16 : decode cX4_wants 16 = .ok (.goto 7, 3) := by decide +kernel
theorem dX4_wants_19 : decode cX4_wants 19 = .ok (.aload_n 0, 1) := by decide +kernel
theorem dX4_wants_20 : decode cX4_wants 20 = .ok (.getfield 165, 3) := by decide +kernel
theorem dX4_wants_23 : decode cX4_wants 23 = .ok (.putfield 168, 3) := by decide +kernel
theorem dX4_wants_26 : decode cX4_wants 26 = .ok (.aload_n 0, 1) := by decide +kernel
theorem dX4_wants_27 : decode cX4_wants 27 = .ok (.dup, 1) := by decide +kernel
theorem dX4_wants_28 : decode cX4_wants 28 = .ok (.getfield 165, 3) := by decide +kernel
theorem dX4_wants_31 : decode cX4_wants 31 = .ok (.iconst 1, 1) := by decide +kernel
theorem dX4_wants_32 : decode cX4_wants 32 = .ok (.iadd, 1) := by decide +kernel
theorem dX4_wants_33 : decode cX4_wants 33 = .ok (.putfield 165, 3) := by decide +kernel
theorem dX4_wants_36 : decode cX4_wants 36 = .ok (.return_, 1) := by decide +kernel
set_option maxRecDepth 20000 in
theorem ggX4_digit_X4_letter : GoodIn wsX4_digit wsX4_letter := goodIn_r _ [5, 6, 7, 8, 17, 18, 19, 20, 21, 22, 23, 24, 25, 26, 27, 28] (by decide +kernel) (by decide +kernel)
set_option maxRecDepth 20000 in
theorem gX4_digit_X4_letter : GoodIn wsX4_digit (wsV RX4 171 RX4 yX4_letter wsX4_letter) := goodIn_app (goodIn_of _ (by decide +kernel)) ggX4_digit_X4_letter
set_option maxRecDepth 20000 in
theorem ggX4_digit_X4_in : GoodIn wsX4_digit wsX4_in := goodIn_r _ [11] (by decide +kernel) (by decide +kernel)
set_option maxRecDepth 20000 in
theorem gX4_digit_X4_in : GoodIn wsX4_digit (va_wsS RX4 33 yX4_in wsX4_in) := goodIn_app (goodIn_of _ (by decide +kernel)) ggX4_digit_X4_in
set_option maxRecDepth 20000 in
theorem ggX4_digit_X4_wants : GoodIn wsX4_digit wsX4_wants := goodIn_r _ [15, 16, 6, 17, 18, 19, 20, 21, 22, 23, 24, 25, 26, 27, 28] (by decide +kernel) (by decide +kernel)
set_option maxRecDepth 20000 in
theorem gX4_digit_X4_wants : GoodIn wsX4_digit (wsV RX4 174 RX4 yX4_wants wsX4_wants) := goodIn_app (goodIn_of _ (by decide +kernel)) ggX4_digit_X4_wants
theorem dX4_digit_0 : decode cX4_digit 0 = .ok (.aload_n 0, 1) := by decide +kernel
theorem dX4_digit_1 : decode cX4_digit 1 = .ok (.invokevirtual 171, 3) := by decide +kernel
theorem dX4_digit_4 : decode cX4_digit 4 = .ok (.bipush 48, 2) := by decide +kernel
theorem dX4_digit_6 : decode cX4_digit 6 = .ok (.isub, 1) := by decide +kernel
theorem dX4_digit_7 : decode cX4_digit 7 = .ok (.istore_n 3, 1) := by decide +kernel
theorem dX4_digit_8 : decode cX4_digit 8 = .ok (.aload_n 0, 1) := by decide +kernel
theorem dX4_digit_9 : decode cX4_digit 9 = .ok (.iload_n 3, 1) := by decide +kernel
theorem dX4_digit_10 : decode cX4_digit 10 = .ok (.iload_n 1, 1) := by decide +kernel
theorem dX4_digit_11 : decode cX4_digit 11 = .ok (.iload_n 2, 1) := by decide +kernel
theorem dX4_digit_12 : decode cX4_digit 12 = .ok (.invokestatic 33, 3) := by decide +kernel
theorem dX4_digit_15 : decode cX4_digit 15 = .ok (.invokevirtual 174, 3) := by decide +kernel
theorem dX4_digit_18 : decode cX4_digit 18 = .ok (.iload_n 3, 1) := by decide +kernel
theorem dX4_digit_19 : decode cX4_digit 19 = .ok (.ireturn, 1) := by decide +kernel
set_option maxRecDepth 20000 in
theorem ggX4_number_X4_digit : GoodIn wsX4_number wsX4_digit := goodIn_r _ [7, 8, 9, 10, 6, 11, 2, 12, 13, 14, 15, 16, 17, 18, 19, 20, 1, 21, 22, 23, 24, 25, 26, 27, 28, 29, 30, 31, 32] (by decide +kernel) (by decide +kernel)
set_option maxRecDepth 20000 in
theorem gX4_number_X4_digit : GoodIn wsX4_number (wsV RX4 178 RX4 yX4_digit wsX4_digit) := goodIn_app (goodIn_of _ (by decide +kernel)) ggX4_number_X4_digit
set_option maxRecDepth 20000 in
theorem ggX4_number_X4_letter : GoodIn wsX4_number wsX4_letter := goodIn_r _ [11, 2, 12, 13, 21, 22, 23, 24, 25, 26, 27, 28, 29, 30, 31, 32] (by decide +kernel) (by decide +kernel)
set_option maxRecDepth 20000 in
theorem gX4_number_X4_letter : GoodIn wsX4_number (wsV RX4 171 RX4 yX4_letter wsX4_letter) := goodIn_app (goodIn_of _ (by decide +kernel)) ggX4_number_X4_letter
set_option maxRecDepth 20000 in
theorem ggX4_number_X4_in : GoodIn wsX4_number wsX4_in := goodIn_r _ [16] (by decide +kernel) (by decide +kernel)
set_option maxRecDepth 20000 in
theorem gX4_number_X4_in : GoodIn wsX4_number (va_wsS RX4 33 yX4_in wsX4_in) := goodIn_app (goodIn_of _ (by decide +kernel)) ggX4_number_X4_in
theorem dX4_number_0 : decode cX4_number 0 = .ok (.aload_n 0, 1) := by decide +kernel
theorem dX4_number_1 : decode cX4_number 1 = .ok (.iconst 0, 1) := by decide +kernel
theorem dX4_number_2 : decode cX4_number 2 = .ok (.bipush 9, 2) := by decide +kernel
theorem dX4_number_4 : decode cX4_number 4 = .ok (.invokevirtual 178, 3) := by decide +kernel
theorem dX4_number_7 : decode cX4_number 7 = .ok (.istore_n 1, 1) := by decide +kernel
theorem dX4_number_8 : decode cX4_number 8 = .ok (.aload_n 0, 1) := by decide +kernel
theorem dX4_number_9 : decode cX4_number 9 = .ok (.invokevirtual 171, 3) := by decide +kernel
theorem dX4_number_12 : decode cX4_number 12 = .ok (.bipush 48, 2) := by decide +kernel
theorem dX4_number_14 : decode cX4_number 14 = .ok (.isub, 1) := by decide +kernel
theorem dX4_number_15 : decode cX4_number 15 = .ok (.istore_n 2, 1) := by decide +kernel
theorem dX4_number_16 : decode cX4_number 16 = .ok (.aload_n 0, 1) := by decide +kernel
theorem dX4_number_17 : decode cX4_number 17 = .ok (.getfield 168, 3) := by decide +kernel
theorem dX4_number_20 : decode cX4_number 20 = .ok (.bipush (-6), 2) := by decide +kernel
theorem dX4_number_22 : decode cX4_number 22 = .ok (.if_icmp .ne 57, 3) := by decide +kernel
theorem dX4_number_25 : decode cX4_number 25 = .ok (.iload_n 1, 1) := by decide +kernel
theorem dX4_number_26 : decode cX4_number 26 = .ok (.ifCond .le 53, 3) := by decide +kernel
theorem dX4_number_29 : decode cX4_number 29 = .ok (.iload_n 2, 1) := by decide +kernel
theorem dX4_number_30 : decode cX4_number 30 = .ok (.iconst 0, 1) := by decide +kernel
theorem dX4_number_31 : decode cX4_number 31 = .ok (.bipush 9, 2) := by decide +kernel
theorem dX4_number_33 : decode cX4_number 33 = .ok (.invokestatic 33, 3) := by decide +kernel
theorem dX4_number_36 : decode cX4_number 36 = .ok (.ifCond .eq 43, 3) := by decide +kernel
theorem dX4_number_39 : decode cX4_number 39 = .ok (.bipush 10, 2) := by decide +kernel
theorem dX4_number_41 : decode cX4_number 41 = .ok (.iload_n 1, 1) := by decide +kernel
theorem dX4_number_42 : decode cX4_number 42 = .ok (.imul, 1) := by decide +kernel
theorem dX4_number_43 : decode cX4_number 43 = .ok (.iload_n 2, 1) := by decide +kernel
theorem dX4_number_44 : decode cX4_number 44 = .ok (.iadd, 1) := by decide +kernel
theorem dX4_number_45 : decode cX4_number 45 = .ok (.sipush 9999, 3) := by decide +kernel
theorem dX4_number_48 : decode cX4_number 48 = .ok (.if_icmp .gt 31, 3) := by decide +kernel
theorem dX4_number_51 : decode cX4_number 51 = .ok (.bipush 10, 2) := by decide +kernel
theorem dX4_number_53 : decode cX4_number 53 = .ok (.iload_n 1, 1) := by decide +kernel
theorem dX4_number_54 : decode cX4_number 54 = .ok (.imul, 1) := by decide +kernel
theorem dX4_number_55 : decode cX4_number 55 = .ok (.iload_n 2, 1) := by decide +kernel
theorem dX4_number_56 : decode cX4_number 56 = .ok (.iadd, 1) := by decide +kernel
theorem dX4_number_57 : decode cX4_number 57 = .ok (.istore_n 1, 1) := by decide +kernel
theorem dX4_number_58 : decode cX4_number 58 = .ok (.aload_n 0, 1) := by decide +kernel
theorem dX4_number_59 : decode cX4_number 59 = .ok (.dup, 1) := by decide +kernel
theorem dX4_number_60 : decode cX4_number 60 = .ok (.getfield 165, 3) := by decide +kernel
theorem dX4_number_63 : decode cX4_number 63 = .ok (.iconst 1, 1) := by decide +kernel
theorem dX4_number_64 : decode cX4_number 64 = .ok (.iadd, 1) := by decide +kernel
theorem dX4_number_65 : decode cX4_number 65 = .ok (.putfield 165, 3) := by decide +kernel
theorem dX4_number_68 : decode cX4_number 68 = .ok (.aload_n 0, 1) := by decide +kernel
theorem dX4_number_69 : decode cX4_number 69 = .ok (.invokevirtual 171, 3) := by decide +kernel
theorem dX4_number_72 : decode cX4_number 72 = .ok (.bipush 48, 2) := by decide +kernel
theorem dX4_number_74 : decode cX4_number 74 = .ok (.isub, 1) := by decide +kernel
theorem dX4_number_75 : decode cX4_number 75 = .ok (.istore_n 2, 1) := by decide +kernel
theorem dX4_number_76 : decode cX4_number 76 = .ok (.goto (-60), 3) := by decide +kernel
theorem dX4_number_79 : decode cX4_number 79 = .ok (.iload_n 1, 1) := by decide +kernel
theorem dX4_number_80 : decode cX4_number 80 = .ok (.ireturn, 1) := by decide +kernel
set_option maxRecDepth 20000 in
theorem ggX4_name_X4_letter : GoodIn wsX4_name wsX4_letter := goodIn_r _ [5, 6, 7, 8, 21, 22, 23, 24, 25, 26, 27, 28, 29, 30, 31, 32] (by decide +kernel) (by decide +kernel)
set_option maxRecDepth 20000 in
theorem gX4_name_X4_letter : GoodIn wsX4_name (wsV RX4 171 RX4 yX4_letter wsX4_letter) := goodIn_app (goodIn_of _ (by decide +kernel)) ggX4_name_X4_letter
set_option maxRecDepth 20000 in
theorem ggX4_name_X4_wants : GoodIn wsX4_name wsX4_wants := goodIn_r _ [12, 13, 6, 21, 22, 23, 24, 25, 26, 27, 28, 29, 30, 31, 32] (by decide +kernel) (by decide +kernel)
set_option maxRecDepth 20000 in
theorem gX4_name_X4_wants : GoodIn wsX4_name (wsV RX4 174 RX4 yX4_wants wsX4_wants) := goodIn_app (goodIn_of _ (by decide +kernel)) ggX4_name_X4_wants
set_option maxRecDepth 20000 in
theorem ggX4_name_X4_digit : GoodIn wsX4_name wsX4_digit := goodIn_r _ [17, 1, 2, 3, 4, 5, 6, 7, 8, 18, 19, 20, 9, 10, 11, 12, 13, 21, 22, 23, 24, 25, 26, 27, 28, 29, 30, 31, 32] (by decide +kernel) (by decide +kernel)
set_option maxRecDepth 20000 in
theorem gX4_name_X4_digit : GoodIn wsX4_name (wsV RX4 178 RX4 yX4_digit wsX4_digit) := goodIn_app (goodIn_of _ (by decide +kernel)) ggX4_name_X4_digit
theorem dX4_name_0 : decode cX4_name 0 = .ok (.aload_n 0, 1) := by decide +kernel
theorem dX4_name_1 : decode cX4_name 1 = .ok (.invokevirtual 171, 3) := by decide +kernel
theorem dX4_name_4 : decode cX4_name 4 = .ok (.istore_n 1, 1) := by decide +kernel
theorem dX4_name_5 : decode cX4_name 5 = .ok (.aload_n 0, 1) := by decide +kernel
theorem dX4_name_6 : decode cX4_name 6 = .ok (.iload_n 1, 1) := by decide +kernel
theorem dX4_name_7 : decode cX4_name 7 = .ok (.bipush 48, 2) := by decide +kernel
theorem dX4_name_9 : decode cX4_name 9 = .ok (.if_icmp .eq 15, 3) := by decide +kernel
theorem dX4_name_12 : decode cX4_name 12 = .ok (.iload_n 1, 1) := by decide +kernel
theorem dX4_name_13 : decode cX4_name 13 = .ok (.bipush 45, 2) := by decide +kernel
theorem dX4_name_15 : decode cX4_name 15 = .ok (.if_icmp .eq 9, 3) := by decide +kernel
theorem dX4_name_18 : decode cX4_name 18 = .ok (.iload_n 1, 1) := by decide +kernel
theorem dX4_name_19 : decode cX4_name 19 = .ok (.bipush 43, 2) := by decide +kernel
theorem dX4_name_21 : decode cX4_name 21 = .ok (.if_icmp .ne 7, 3) := by decide +kernel
theorem dX4_name_24 : decode cX4_name 24 = .ok (.iconst 1, 1) := by decide +kernel
theorem dX4_name_25 : decode cX4_name 25 = .ok (.goto 4, 3) := by decide +kernel
theorem dX4_name_28 : decode cX4_name 28 = .ok (.iconst 0, 1) := by decide +kernel
theorem dX4_name_29 : decode cX4_name 29 = .ok (.invokevirtual 174, 3) := by decide +kernel
theorem dX4_name_32 : decode cX4_name 32 = .ok (.iload_n 1, 1) := by decide +kernel
theorem dX4_name_33 : decode cX4_name 33 = .ok (.bipush 43, 2) := by decide +kernel
theorem dX4_name_35 : decode cX4_name 35 = .ok (.if_icmp .ne 7, 3) := by decide +kernel
theorem dX4_name_38 : decode cX4_name 38 = .ok (.iconst 1, 1) := by decide +kernel
theorem dX4_name_39 : decode cX4_name 39 = .ok (.goto 21, 3) := by decide +kernel
theorem dX4_name_42 : decode cX4_name 42 = .ok (.iload_n 1, 1) := by decide +kernel
theorem dX4_name_43 : decode cX4_name 43 = .ok (.bipush 45, 2) := by decide +kernel
theorem dX4_name_45 : decode cX4_name 45 = .ok (.if_icmp .ne 14, 3) := by decide +kernel
theorem dX4_name_48 : decode cX4_name 48 = .ok (.aload_n 0, 1) := by decide +kernel
theorem dX4_name_49 : decode cX4_name 49 = .ok (.iconst 1, 1) := by decide +kernel
theorem dX4_name_50 : decode cX4_name 50 = .ok (.bipush 7, 2) := by decide +kernel
theorem dX4_name_52 : decode cX4_name 52 = .ok (.invokevirtual 178, 3) := by decide +kernel
theorem dX4_name_55 : decode cX4_name 55 = .ok (.ineg, 1) := by decide +kernel
theorem dX4_name_56 : decode cX4_name 56 = .ok (.goto 4, 3) := by decide +kernel
theorem dX4_name_59 : decode cX4_name 59 = .ok (.iconst 0, 1) := by decide +kernel
theorem dX4_name_60 : decode cX4_name 60 = .ok (.ireturn, 1) := by decide +kernel
set_option maxRecDepth 20000 in
theorem ggX4_readOrder_X4_letter : GoodIn wsX4_readOrder wsX4_letter := goodIn_r _ [7, 8, 9, 10, 31, 32, 33, 34, 35, 36, 37, 38, 39, 40, 41, 42] (by decide +kernel) (by decide +kernel)
set_option maxRecDepth 20000 in
theorem gX4_readOrder_X4_letter : GoodIn wsX4_readOrder (wsV RX4 171 RX4 yX4_letter wsX4_letter) := goodIn_app (goodIn_of _ (by decide +kernel)) ggX4_readOrder_X4_letter
set_option maxRecDepth 20000 in
theorem ggX4_readOrder_X4_wants : GoodIn wsX4_readOrder wsX4_wants := goodIn_r _ [14, 15, 8, 31, 32, 33, 34, 35, 36, 37, 38, 39, 40, 41, 42] (by decide +kernel) (by decide +kernel)
set_option maxRecDepth 20000 in
theorem gX4_readOrder_X4_wants : GoodIn wsX4_readOrder (wsV RX4 174 RX4 yX4_wants wsX4_wants) := goodIn_app (goodIn_of _ (by decide +kernel)) ggX4_readOrder_X4_wants
set_option maxRecDepth 20000 in
theorem ggX4_readOrder_X4_digit : GoodIn wsX4_readOrder wsX4_digit := goodIn_r _ [19, 3, 4, 5, 6, 7, 8, 9, 10, 20, 21, 22, 11, 12, 13, 14, 15, 31, 32, 33, 34, 35, 36, 37, 38, 39, 40, 41, 42] (by decide +kernel) (by decide +kernel)
set_option maxRecDepth 20000 in
theorem gX4_readOrder_X4_digit : GoodIn wsX4_readOrder (wsV RX4 178 RX4 yX4_digit wsX4_digit) := goodIn_app (goodIn_of _ (by decide +kernel)) ggX4_readOrder_X4_digit
set_option maxRecDepth 20000 in
theorem ggX4_readOrder_X4_name : GoodIn wsX4_readOrder wsX4_name := goodIn_r _ [26, 3, 4, 5, 6, 7, 8, 9, 10, 11, 12, 13, 14, 15, 16, 17, 18, 19, 20, 21, 22, 31, 32, 33, 34, 35, 36, 37, 38, 39, 40, 41, 42] (by decide +kernel) (by decide +kernel)
set_option maxRecDepth 20000 in
theorem gX4_readOrder_X4_name : GoodIn wsX4_readOrder (wsV RX4 184 RX4 yX4_name wsX4_name) := goodIn_app (goodIn_of _ (by decide +kernel)) ggX4_readOrder_X4_name
set_option maxRecDepth 20000 in
theorem ggX4_readOrder_X4_number : GoodIn wsX4_readOrder wsX4_number := goodIn_r _ [30, 15, 8, 16, 17, 18, 6, 19, 3, 4, 5, 7, 9, 10, 20, 21, 22, 11, 12, 13, 14, 31, 32, 33, 34, 35, 36, 37, 38, 39, 40, 41, 42] (by decide +kernel) (by decide +kernel)
set_option maxRecDepth 20000 in
theorem gX4_readOrder_X4_number : GoodIn wsX4_readOrder (wsV RX4 187 RX4 yX4_number wsX4_number) := goodIn_app (goodIn_of _ (by decide +kernel)) ggX4_readOrder_X4_number
theorem dX4_readOrder_0 : decode cX4_readOrder 0 = .ok (.iconst 4, 1) := by decide +kernel
theorem dX4_readOrder_1 : decode cX4_readOrder 1 = .ok (.aload_n 0, 1) := by decide +kernel
theorem dX4_readOrder_2 : decode cX4_readOrder 2 = .ok (.getfield 181, 3) := by decide +kernel
theorem dX4_readOrder_5 : decode cX4_readOrder 5 = .ok (.imul, 1) := by decide +kernel
theorem dX4_readOrder_6 : decode cX4_readOrder 6 = .ok (.istore_n 1, 1) := by decide +kernel
theorem dX4_readOrder_7 : decode cX4_readOrder 7 = .ok (.aload_n 0, 1) := by decide +kernel
theorem dX4_readOrder_8 : decode cX4_readOrder 8 = .ok (.invokevirtual 171, 3) := by decide +kernel
theorem dX4_readOrder_11 : decode cX4_readOrder 11 = .ok (.istore_n 2, 1) := by decide +kernel
theorem dX4_readOrder_12 : decode cX4_readOrder 12 = .ok (.aload_n 0, 1) := by decide +kernel
theorem dX4_readOrder_13 : decode cX4_readOrder 13 = .ok (.getfield 30, 3) := by decide +kernel
theorem dX4_readOrder_16 : decode cX4_readOrder 16 = .ok (.iload_n 1, 1) := by decide +kernel
theorem dX4_readOrder_17 : decode cX4_readOrder 17 = .ok (.iload_n 2, 1) := by decide +kernel
theorem dX4_readOrder_18 : decode cX4_readOrder 18 = .ok (.iastore, 1) := by decide +kernel
theorem dX4_readOrder_19 : decode cX4_readOrder 19 = .ok (.iload_n 2, 1) := by decide +kernel
theorem dX4_readOrder_20 : decode cX4_readOrder 20 = .ok (.bipush 119, 2) := by decide +kernel
theorem dX4_readOrder_22 : decode cX4_readOrder 22 = .ok (.if_icmp .eq 15, 3) := by decide +kernel
theorem dX4_readOrder_25 : decode cX4_readOrder 25 = .ok (.iload_n 2, 1) := by decide +kernel
theorem dX4_readOrder_26 : decode cX4_readOrder 26 = .ok (.bipush 114, 2) := by decide +kernel
theorem dX4_readOrder_28 : decode cX4_readOrder 28 = .ok (.if_icmp .eq 9, 3) := by decide +kernel
theorem dX4_readOrder_31 : decode cX4_readOrder 31 = .ok (.iload_n 2, 1) := by decide +kernel
theorem dX4_readOrder_32 : decode cX4_readOrder 32 = .ok (.bipush 100, 2) := by decide +kernel
theorem dX4_readOrder_34 : decode cX4_readOrder 34 = .ok (.if_icmp .ne 7, 3) := by decide +kernel
theorem dX4_readOrder_37 : decode cX4_readOrder 37 = .ok (.iconst 1, 1) := by decide +kernel
theorem dX4_readOrder_38 : decode cX4_readOrder 38 = .ok (.goto 4, 3) := by decide +kernel
theorem dX4_readOrder_41 : decode cX4_readOrder 41 = .ok (.iconst 0, 1) := by decide +kernel
theorem dX4_readOrder_42 : decode cX4_readOrder 42 = .ok (.istore_n 3, 1) := by decide +kernel
theorem dX4_readOrder_43 : decode cX4_readOrder 43 = .ok (.aload_n 0, 1) := by decide +kernel
theorem dX4_readOrder_44 : decode cX4_readOrder 44 = .ok (.iload_n 3, 1) := by decide +kernel
theorem dX4_readOrder_45 : decode cX4_readOrder 45 = .ok (.ifCond .ne 27, 3) := by decide +kernel
theorem dX4_readOrder_48 : decode cX4_readOrder 48 = .ok (.iload_n 2, 1) := by decide +kernel
theorem dX4_readOrder_49 : decode cX4_readOrder 49 = .ok (.bipush 106, 2) := by decide +kernel
theorem dX4_readOrder_51 : decode cX4_readOrder 51 = .ok (.if_icmp .eq 21, 3) := by decide +kernel
theorem dX4_readOrder_54 : decode cX4_readOrder 54 = .ok (.iload_n 2, 1) := by decide +kernel
theorem dX4_readOrder_55 : decode cX4_readOrder 55 = .ok (.bipush 103, 2) := by decide +kernel
theorem dX4_readOrder_57 : decode cX4_readOrder 57 = .ok (.if_icmp .eq 15, 3) := by decide +kernel
theorem dX4_readOrder_60 : decode cX4_readOrder 60 = .ok (.iload_n 2, 1) := by decide +kernel
theorem dX4_readOrder_61 : decode cX4_readOrder 61 = .ok (.bipush 102, 2) := by decide +kernel
theorem dX4_readOrder_63 : decode cX4_readOrder 63 = .ok (.if_icmp .eq 9, 3) := by decide +kernel
theorem dX4_readOrder_66 : decode cX4_readOrder 66 = .ok (.iload_n 2, 1) := by decide +kernel
theorem dX4_readOrder_67 : decode cX4_readOrder 67 = .ok (.bipush 97, 2) := by decide +kernel
theorem dX4_readOrder_69 : decode cX4_readOrder 69 = .ok (.if_icmp .ne 7, 3) := by decide +kernel
theorem dX4_readOrder_72 : decode cX4_readOrder 72 = .ok (.iconst 1, 1) := by decide +kernel
theorem dX4_readOrder_73 : decode cX4_readOrder 73 = .ok (.goto 4, 3) := by decide +kernel
theorem dX4_readOrder_76 : decode cX4_readOrder 76 = .ok (.iconst 0, 1) := by decide +kernel
theorem dX4_readOrder_77 : decode cX4_readOrder 77 = .ok (.invokevirtual 174, 3) := by decide +kernel
theorem dX4_readOrder_80 : decode cX4_readOrder 80 = .ok (.iload_n 3, 1) := by decide +kernel
theorem dX4_readOrder_81 : decode cX4_readOrder 81 = .ok (.ifCond .eq 29, 3) := by decide +kernel
theorem dX4_readOrder_84 : decode cX4_readOrder 84 = .ok (.aload_n 0, 1) := by decide +kernel
theorem dX4_readOrder_85 : decode cX4_readOrder 85 = .ok (.getfield 30, 3) := by decide +kernel
theorem dX4_readOrder_88 : decode cX4_readOrder 88 = .ok (.iload_n 1, 1) := by decide +kernel
theorem dX4_readOrder_89 : decode cX4_readOrder 89 = .ok (.iconst 1, 1) := by decide +kernel
theorem dX4_readOrder_90 : decode cX4_readOrder 90 = .ok (.iadd, 1) := by decide +kernel
theorem dX4_readOrder_91 : decode cX4_readOrder 91 = .ok (.aload_n 0, 1) := by decide +kernel
theorem dX4_readOrder_92 : decode cX4_readOrder 92 = .ok (.iconst 0, 1) := by decide +kernel
theorem dX4_readOrder_93 : decode cX4_readOrder 93 = .ok (.iconst 5, 1) := by decide +kernel
theorem dX4_readOrder_94 : decode cX4_readOrder 94 = .ok (.invokevirtual 178, 3) := by decide +kernel
theorem dX4_readOrder_97 : decode cX4_readOrder 97 = .ok (.iastore, 1) := by decide +kernel
theorem dX4_readOrder_98 : decode cX4_readOrder 98 = .ok (.aload_n 0, 1) := by decide +kernel
theorem dX4_readOrder_99 : decode cX4_readOrder 99 = .ok (.getfield 30, 3) := by decide +kernel
theorem dX4_readOrder_102 : decode cX4_readOrder 102 = .ok (.iload_n 1, 1) := by decide +kernel
theorem dX4_readOrder_103 : decode cX4_readOrder 103 = .ok (.iconst 2, 1) := by decide +kernel
theorem dX4_readOrder_104 : decode cX4_readOrder 104 = .ok (.iadd, 1) := by decide +kernel
theorem dX4_readOrder_105 : decode cX4_readOrder 105 = .ok (.aload_n 0, 1) := by decide +kernel
theorem dX4_readOrder_106 : decode cX4_readOrder 106 = .ok (.invokevirtual 184, 3) := by decide +kernel
theorem dX4_readOrder_109 : decode cX4_readOrder 109 = .ok (.iastore, 1) := by decide +kernel
theorem dX4_readOrder_110 : decode cX4_readOrder 110 = .ok (.iload_n 2, 1) := by decide +kernel
theorem dX4_readOrder_111 : decode cX4_readOrder 111 = .ok (.bipush 119, 2) := by decide +kernel
theorem dX4_readOrder_113 : decode cX4_readOrder 113 = .ok (.if_icmp .ne 33, 3) := by decide +kernel
theorem dX4_readOrder_116 : decode cX4_readOrder 116 = .ok (.aload_n 0, 1) := by decide +kernel
theorem dX4_readOrder_117 : decode cX4_readOrder 117 = .ok (.aload_n 0, 1) := by decide +kernel
theorem dX4_readOrder_118 : decode cX4_readOrder 118 = .ok (.invokevirtual 171, 3) := by decide +kernel
theorem dX4_readOrder_121 : decode cX4_readOrder 121 = .ok (.bipush 61, 2) := by decide +kernel
theorem dX4_readOrder_123 : decode cX4_readOrder 123 = .ok (.if_icmp .ne 7, 3) := by decide +kernel
theorem dX4_readOrder_126 : decode cX4_readOrder 126 = .ok (.iconst 1, 1) := by decide +kernel
theorem dX4_readOrder_127 : decode cX4_readOrder 127 = .ok (.goto 4, 3) := by decide +kernel
theorem dX4_readOrder_130 : decode cX4_readOrder 130 = .ok (.iconst 0, 1) := by decide +kernel
theorem dX4_readOrder_131 : decode cX4_readOrder 131 = .ok (.invokevirtual 174, 3) := by decide +kernel
theorem dX4_readOrder_134 : decode cX4_readOrder 134 = .ok (.aload_n 0, 1) := by decide +kernel
theorem dX4_readOrder_135 : decode cX4_readOrder 135 = .ok (.getfield 30, 3) := by decide +kernel
theorem dX4_readOrder_138 : decode cX4_readOrder 138 = .ok (.iload_n 1, 1) := by decide +kernel
theorem dX4_readOrder_139 : decode cX4_readOrder 139 = .ok (.iconst 3, 1) := by decide +kernel
theorem dX4_readOrder_140 : decode cX4_readOrder 140 = .ok (.iadd, 1) := by decide +kernel
theorem dX4_readOrder_141 : decode cX4_readOrder 141 = .ok (.aload_n 0, 1) := by decide +kernel
theorem dX4_readOrder_142 : decode cX4_readOrder 142 = .ok (.invokevirtual 187, 3) := by decide +kernel
theorem dX4_readOrder_145 : decode cX4_readOrder 145 = .ok (.iastore, 1) := by decide +kernel
theorem dX4_readOrder_146 : decode cX4_readOrder 146 = .ok (.aload_n 0, 1) := by decide +kernel
theorem dX4_readOrder_147 : decode cX4_readOrder 147 = .ok (.dup, 1) := by decide +kernel
theorem dX4_readOrder_148 : decode cX4_readOrder 148 = .ok (.getfield 181, 3) := by decide +kernel
theorem dX4_readOrder_151 : decode cX4_readOrder 151 = .ok (.iconst 1, 1) := by decide +kernel
theorem dX4_readOrder_152 : decode cX4_readOrder 152 = .ok (.iadd, 1) := by decide +kernel
theorem dX4_readOrder_153 : decode cX4_readOrder 153 = .ok (.putfield 181, 3) := by decide +kernel
theorem dX4_readOrder_156 : decode cX4_readOrder 156 = .ok (.return_, 1) := by decide +kernel
set_option maxRecDepth 20000 in
theorem ggX4_readPad_X4_readOrder : GoodIn wsX4_readPad wsX4_readOrder := goodIn_r _ [9, 1, 10, 11, 12, 13, 8, 14, 2, 4, 15, 16, 17, 18, 19, 3, 20, 21, 22, 23, 24, 25, 26, 27, 28, 29, 30, 31, 32, 33, 34, 35, 36, 37, 38, 39, 40, 41, 42, 43, 44, 45, 46] (by decide +kernel) (by decide +kernel)
set_option maxRecDepth 20000 in
theorem gX4_readPad_X4_readOrder : GoodIn wsX4_readPad (wsV RX4 190 RX4 yX4_readOrder wsX4_readOrder) := goodIn_app (goodIn_of _ (by decide +kernel)) ggX4_readPad_X4_readOrder
set_option maxRecDepth 20000 in
theorem ggX4_readPad_X4_letter : GoodIn wsX4_readPad wsX4_letter := goodIn_r _ [14, 2, 4, 15, 35, 36, 37, 38, 39, 40, 41, 42, 43, 44, 45, 46] (by decide +kernel) (by decide +kernel)
set_option maxRecDepth 20000 in
theorem gX4_readPad_X4_letter : GoodIn wsX4_readPad (wsV RX4 171 RX4 yX4_letter wsX4_letter) := goodIn_app (goodIn_of _ (by decide +kernel)) ggX4_readPad_X4_letter
set_option maxRecDepth 20000 in
theorem ggX4_readPad_X4_wants : GoodIn wsX4_readPad wsX4_wants := goodIn_r _ [19, 3, 2, 35, 36, 37, 38, 39, 40, 41, 42, 43, 44, 45, 46] (by decide +kernel) (by decide +kernel)
set_option maxRecDepth 20000 in
theorem gX4_readPad_X4_wants : GoodIn wsX4_readPad (wsV RX4 174 RX4 yX4_wants wsX4_wants) := goodIn_app (goodIn_of _ (by decide +kernel)) ggX4_readPad_X4_wants
theorem dX4_readPad_0 : decode cX4_readPad 0 = .ok (.aload_n 0, 1) := by decide +kernel
theorem dX4_readPad_1 : decode cX4_readPad 1 = .ok (.iconst 0, 1) := by decide +kernel
theorem dX4_readPad_2 : decode cX4_readPad 2 = .ok (.putfield 181, 3) := by decide +kernel
theorem dX4_readPad_5 : decode cX4_readPad 5 = .ok (.aload_n 0, 1) := by decide +kernel
theorem dX4_readPad_6 : decode cX4_readPad 6 = .ok (.iconst 0, 1) := by decide +kernel
theorem dX4_readPad_7 : decode cX4_readPad 7 = .ok (.putfield 165, 3) := by decide +kernel
theorem dX4_readPad_10 : decode cX4_readPad 10 = .ok (.aload_n 0, 1) := by decide +kernel
theorem dX4_readPad_11 : decode cX4_readPad 11 = .ok (.bipush (-6), 2) := by decide +kernel
theorem dX4_readPad_13 : decode cX4_readPad 13 = .ok (.putfield 168, 3) := by decide +kernel
theorem dX4_readPad_16 : decode cX4_readPad 16 = .ok (.iconst 1, 1) := by decide +kernel
theorem dX4_readPad_17 : decode cX4_readPad 17 = .ok (.istore_n 1, 1) := by decide +kernel
theorem dX4_readPad_18 : decode cX4_readPad 18 = .ok (.iload_n 1, 1) := by decide +kernel
theorem dX4_readPad_19 : decode cX4_readPad 19 = .ok (.ifCond .eq 73, 3) := by decide +kernel
theorem dX4_readPad_22 : decode cX4_readPad 22 = .ok (.aload_n 0, 1) := by decide +kernel
theorem dX4_readPad_23 : decode cX4_readPad 23 = .ok (.invokevirtual 190, 3) := by decide +kernel
theorem dX4_readPad_26 : decode cX4_readPad 26 = .ok (.aload_n 0, 1) := by decide +kernel
theorem dX4_readPad_27 : decode cX4_readPad 27 = .ok (.getfield 168, 3) := by decide +kernel
theorem dX4_readPad_30 : decode cX4_readPad 30 = .ok (.bipush (-6), 2) := by decide +kernel
theorem dX4_readPad_32 : decode cX4_readPad 32 = .ok (.if_icmp .ne 18, 3) := by decide +kernel
theorem dX4_readPad_35 : decode cX4_readPad 35 = .ok (.aload_n 0, 1) := by decide +kernel
theorem dX4_readPad_36 : decode cX4_readPad 36 = .ok (.getfield 165, 3) := by decide +kernel
theorem dX4_readPad_39 : decode cX4_readPad 39 = .ok (.aload_n 0, 1) := by decide +kernel
theorem dX4_readPad_40 : decode cX4_readPad 40 = .ok (.getfield 151, 3) := by decide +kernel
theorem dX4_readPad_43 : decode cX4_readPad 43 = .ok (.if_icmp .ge 7, 3) := by decide +kernel
theorem dX4_readPad_46 : decode cX4_readPad 46 = .ok (.iconst 1, 1) := by decide +kernel
theorem dX4_readPad_47 : decode cX4_readPad 47 = .ok (.goto 4, 3) := by decide +kernel
theorem dX4_readPad_50 : decode cX4_readPad 50 = .ok (.iconst 0, 1) := by decide +kernel
theorem dX4_readPad_51 : decode cX4_readPad 51 = .ok (.istore_n 1, 1) := by decide +kernel
theorem dX4_readPad_52 : decode cX4_readPad 52 = .ok (.iload_n 1, 1) := by decide +kernel
theorem dX4_readPad_53 : decode cX4_readPad 53 = .ok (.ifCond .eq (-35), 3) := by decide +kernel
theorem dX4_readPad_56 : decode cX4_readPad 56 = .ok (.aload_n 0, 1) := by decide +kernel
theorem dX4_readPad_57 : decode cX4_readPad 57 = .ok (.aload_n 0, 1) := by decide +kernel
theorem dX4_readPad_58 : decode cX4_readPad 58 = .ok (.invokevirtual 171, 3) := by decide +kernel
theorem dX4_readPad_61 : decode cX4_readPad 61 = .ok (.bipush 59, 2) := by decide +kernel
theorem dX4_readPad_63 : decode cX4_readPad 63 = .ok (.if_icmp .ne 7, 3) := by decide +kernel
theorem dX4_readPad_66 : decode cX4_readPad 66 = .ok (.iconst 1, 1) := by decide +kernel
theorem dX4_readPad_67 : decode cX4_readPad 67 = .ok (.goto 4, 3) := by decide +kernel
theorem dX4_readPad_70 : decode cX4_readPad 70 = .ok (.iconst 0, 1) := by decide +kernel
theorem dX4_readPad_71 : decode cX4_readPad 71 = .ok (.invokevirtual 174, 3) := by decide +kernel
theorem dX4_readPad_74 : decode cX4_readPad 74 = .ok (.aload_n 0, 1) := by decide +kernel
theorem dX4_readPad_75 : decode cX4_readPad 75 = .ok (.getfield 168, 3) := by decide +kernel
theorem dX4_readPad_78 : decode cX4_readPad 78 = .ok (.bipush (-6), 2) := by decide +kernel
theorem dX4_readPad_80 : decode cX4_readPad 80 = .ok (.if_icmp .ne 7, 3) := by decide +kernel
theorem dX4_readPad_83 : decode cX4_readPad 83 = .ok (.iconst 1, 1) := by decide +kernel
theorem dX4_readPad_84 : decode cX4_readPad 84 = .ok (.goto 4, 3) := by decide +kernel
theorem dX4_readPad_87 : decode cX4_readPad 87 = .ok (.iconst 0, 1) := by decide +kernel
theorem dX4_readPad_88 : decode cX4_readPad 88 = .ok (.istore_n 1, 1) := by decide +kernel
theorem dX4_readPad_89 : decode cX4_readPad 89 = .ok (.goto (-71), 3) := by decide +kernel
theorem dX4_readPad_92 : decode cX4_readPad 92 = .ok (.aload_n 0, 1) := by decide +kernel
theorem dX4_readPad_93 : decode cX4_readPad 93 = .ok (.getfield 168, 3) := by decide +kernel
theorem dX4_readPad_96 : decode cX4_readPad 96 = .ok (.ireturn, 1) := by decide +kernel
set_option maxRecDepth 20000 in
theorem ggX4_fault_X4_readPad : GoodIn wsX4_fault wsX4_readPad := goodIn_r _ [5, 6, 7, 8, 9, 10, 11, 12, 4, 13, 14, 15, 16, 17, 18, 19, 20, 21, 22, 23, 24, 25, 26, 27, 28, 29, 30, 31, 32, 33, 34, 35, 36, 37, 38, 39, 40, 41, 42, 43, 44, 45, 46, 47, 48, 49, 50] (by decide +kernel) (by decide +kernel)
set_option maxRecDepth 20000 in
theorem gX4_fault_X4_readPad : GoodIn wsX4_fault (wsV RX4 193 RX4 yX4_readPad wsX4_readPad) := goodIn_app (goodIn_of _ (by decide +kernel)) ggX4_fault_X4_readPad
theorem dX4_fault_0 : decode cX4_fault 0 = .ok (.aload_n 0, 1) := by decide +kernel
theorem dX4_fault_1 : decode cX4_fault 1 = .ok (.invokevirtual 193, 3) := by decide +kernel
theorem dX4_fault_4 : decode cX4_fault 4 = .ok (.ireturn, 1) := by decide +kernel
set_option maxRecDepth 20000 in
theorem ggX4_can_X4_runs : GoodIn wsX4_can wsX4_runs := goodIn_r _ [5, 6, 43, 44, 45, 46, 47, 48, 49, 50, 51, 52, 53, 54] (by decide +kernel) (by decide +kernel)
set_option maxRecDepth 20000 in
theorem gX4_can_X4_runs : GoodIn wsX4_can (wsV RX4 79 RX4 yX4_runs wsX4_runs) := goodIn_app (goodIn_of _ (by decide +kernel)) ggX4_can_X4_runs
set_option maxRecDepth 20000 in
theorem ggX4_can_X4_canAgain : GoodIn wsX4_can wsX4_canAgain := goodIn_r _ [10, 6, 1, 2, 3, 4, 5, 43, 44, 45, 46, 47, 48, 49, 50, 51, 52, 53, 54] (by decide +kernel) (by decide +kernel)
set_option maxRecDepth 20000 in
theorem gX4_can_X4_canAgain : GoodIn wsX4_can (wsV RX4 136 RX4 yX4_canAgain wsX4_canAgain) := goodIn_app (goodIn_of _ (by decide +kernel)) ggX4_can_X4_canAgain
set_option maxRecDepth 20000 in
theorem ggX4_can_X4_canWrite : GoodIn wsX4_can wsX4_canWrite := goodIn_r _ [14, 1, 2, 3, 4, 5, 6, 15, 16, 17, 18, 19, 20, 21, 22, 23, 24, 25, 26, 27, 28, 29, 30, 31, 32, 33, 34, 35, 36, 37, 38, 39, 40, 41, 42, 43, 44, 45, 46, 47, 48, 49, 50, 51, 52, 53, 54] (by decide +kernel) (by decide +kernel)
set_option maxRecDepth 20000 in
theorem gX4_can_X4_canWrite : GoodIn wsX4_can (wsV RX4 105 RX4 yX4_canWrite wsX4_canWrite) := goodIn_app (goodIn_of _ (by decide +kernel)) ggX4_can_X4_canWrite
set_option maxRecDepth 20000 in
theorem ggX4_can_X4_told : GoodIn wsX4_can wsX4_told := goodIn_r _ [22, 1, 2, 3, 4, 5, 6, 23, 24, 25, 26, 15, 16, 17, 18, 27, 28, 29, 30, 31, 32, 33, 34, 35, 36, 37, 38, 39, 40, 41, 42, 43, 44, 45, 46, 47, 48, 49, 50, 51, 52, 53, 54] (by decide +kernel) (by decide +kernel)
set_option maxRecDepth 20000 in
theorem gX4_can_X4_told : GoodIn wsX4_can (wsV RX4 96 RX4 yX4_told wsX4_told) := goodIn_app (goodIn_of _ (by decide +kernel)) ggX4_can_X4_told
theorem dX4_can_0 : decode cX4_can 0 = .ok (.iload_n 1, 1) := by decide +kernel
theorem dX4_can_1 : decode cX4_can 1 = .ok (.lookupswitch 106 #[(97, 77), (100, 89), (102, 72), (103, 72), (106, 59), (119, 82)], 59) := by decide +kernel
theorem dX4_can_60 : decode cX4_can 60 = .ok (.aload_n 0, 1) := by decide +kernel
theorem dX4_can_61 : decode cX4_can 61 = .ok (.invokevirtual 79, 3) := by decide +kernel
theorem dX4_can_64 : decode cX4_can 64 = .ok (.ifCond .ne 7, 3) := by decide +kernel
theorem dX4_can_67 : decode cX4_can 67 = .ok (.iconst 1, 1) := by decide +kernel
theorem dX4_can_68 : decode cX4_can 68 = .ok (.goto 4, 3) := by decide +kernel
theorem dX4_can_71 : decode cX4_can 71 = .ok (.iconst 0, 1) := by decide +kernel
theorem dX4_can_72 : decode cX4_can 72 = .ok (.ireturn, 1) := by decide +kernel
theorem dX4_can_73 : decode cX4_can 73 = .ok (.aload_n 0, 1) := by decide +kernel
theorem dX4_can_74 : decode cX4_can 74 = .ok (.invokevirtual 79, 3) := by decide +kernel
theorem dX4_can_77 : decode cX4_can 77 = .ok (.ireturn, 1) := by decide +kernel
theorem dX4_can_78 : decode cX4_can 78 = .ok (.aload_n 0, 1) := by decide +kernel
theorem dX4_can_79 : decode cX4_can 79 = .ok (.invokevirtual 136, 3) := by decide +kernel
theorem dX4_can_82 : decode cX4_can 82 = .ok (.ireturn, 1) := by decide +kernel
theorem dX4_can_83 : decode cX4_can 83 = .ok (.aload_n 0, 1) := by decide +kernel
theorem dX4_can_84 : decode cX4_can 84 = .ok (.iload_n 2, 1) := by decide +kernel
theorem dX4_can_85 : decode cX4_can 85 = .ok (.iload_n 3, 1) := by decide +kernel
theorem dX4_can_86 : decode cX4_can 86 = .ok (.invokevirtual 105, 3) := by decide +kernel
theorem dX4_can_89 : decode cX4_can 89 = .ok (.ireturn, 1) := by decide +kernel
theorem dX4_can_90 : decode cX4_can 90 = .ok (.aload_n 0, 1) := by decide +kernel
theorem dX4_can_91 : decode cX4_can 91 = .ok (.iload_n 2, 1) := by decide +kernel
theorem dX4_can_92 : decode cX4_can 92 = .ok (.iload_n 3, 1) := by decide +kernel
theorem dX4_can_93 : decode cX4_can 93 = .ok (.invokevirtual 96, 3) := by decide +kernel
theorem dX4_can_96 : decode cX4_can 96 = .ok (.bipush (-6), 2) := by decide +kernel
theorem dX4_can_98 : decode cX4_can 98 = .ok (.if_icmp .eq 7, 3) := by decide +kernel
theorem dX4_can_101 : decode cX4_can 101 = .ok (.iconst 1, 1) := by decide +kernel
theorem dX4_can_102 : decode cX4_can 102 = .ok (.goto 4, 3) := by decide +kernel
theorem dX4_can_105 : decode cX4_can 105 = .ok (.iconst 0, 1) := by decide +kernel
theorem dX4_can_106 : decode cX4_can 106 = .ok (.ireturn, 1) := by decide +kernel
theorem dX4_can_107 : decode cX4_can 107 = .ok (.iconst 1, 1) := by decide +kernel
theorem dX4_can_108 : decode cX4_can 108 = .ok (.ireturn, 1) := by decide +kernel
set_option maxRecDepth 20000 in
theorem ggX4_act_X4_beginIt : GoodIn wsX4_act wsX4_beginIt := goodIn_r _ [5, 6, 7, 8, 4, 9, 10, 11, 12, 13, 14, 15, 16, 17, 18, 19, 20, 21, 22, 23, 24, 25, 26, 94, 95, 96, 97, 98, 99, 100, 101, 102, 103, 104, 105] (by decide +kernel) (by decide +kernel)
set_option maxRecDepth 20000 in
theorem gX4_act_X4_beginIt : GoodIn wsX4_act (wsV RX4 124 RX4 yX4_beginIt wsX4_beginIt) := goodIn_app (goodIn_of _ (by decide +kernel)) ggX4_act_X4_beginIt
set_option maxRecDepth 20000 in
theorem ggX4_act_X4_endIt : GoodIn wsX4_act wsX4_endIt := goodIn_r _ [30, 14, 31, 32, 33, 4, 34, 10, 11, 12, 13, 35, 36, 37, 38, 39, 40, 41, 42, 6, 7, 8, 9, 15, 16, 17, 18, 43, 44, 45, 46, 47, 48, 49, 50, 51, 52, 53, 54, 19, 20, 21, 22, 55, 56, 57, 58, 59, 60, 61, 62, 94, 95, 96, 97, 98, 99, 100, 101, 102, 103, 104, 105] (by decide +kernel) (by decide +kernel)
set_option maxRecDepth 20000 in
theorem gX4_act_X4_endIt : GoodIn wsX4_act (wsV RX4 133 RX4 yX4_endIt wsX4_endIt) := goodIn_app (goodIn_of _ (by decide +kernel)) ggX4_act_X4_endIt
set_option maxRecDepth 20000 in
theorem ggX4_act_X4_start : GoodIn wsX4_act wsX4_start := goodIn_r _ [26, 14, 19, 20, 21, 4, 22, 94, 95, 96, 97, 98, 99, 100, 101, 102, 103, 104, 105] (by decide +kernel) (by decide +kernel)
set_option maxRecDepth 20000 in
theorem gX4_act_X4_start : GoodIn wsX4_act (wsV RX4 121 RX4 yX4_start wsX4_start) := goodIn_app (goodIn_of _ (by decide +kernel)) ggX4_act_X4_start
set_option maxRecDepth 20000 in
theorem ggX4_act_X4_writeIt : GoodIn wsX4_act wsX4_writeIt := goodIn_r _ [66, 35, 36, 37, 4, 38, 14, 10, 11, 12, 13, 67, 68, 69, 70, 6, 7, 8, 9, 15, 16, 17, 18, 51, 52, 53, 54, 19, 20, 21, 22, 71, 72, 73, 74, 75, 76, 77, 43, 44, 45, 46, 55, 56, 57, 58, 78, 79, 80, 81, 82, 83, 84, 85, 39, 40, 41, 42, 94, 95, 96, 97, 98, 99, 100, 101, 102, 103, 104, 105] (by decide +kernel) (by decide +kernel)
set_option maxRecDepth 20000 in
theorem gX4_act_X4_writeIt : GoodIn wsX4_act (wsV RX4 108 RX4 yX4_writeIt wsX4_writeIt) := goodIn_app (goodIn_of _ (by decide +kernel)) ggX4_act_X4_writeIt
set_option maxRecDepth 20000 in
theorem ggX4_act_X4_deleteIt : GoodIn wsX4_act wsX4_deleteIt := goodIn_r _ [89, 78, 79, 80, 4, 81, 35, 36, 37, 38, 14, 82, 83, 84, 85, 10, 11, 12, 13, 39, 40, 41, 42, 6, 7, 8, 9, 15, 16, 17, 18, 43, 44, 45, 46, 47, 48, 49, 50, 51, 52, 53, 54, 19, 20, 21, 22, 55, 56, 57, 58, 94, 95, 96, 97, 98, 99, 100, 101, 102, 103, 104, 105] (by decide +kernel) (by decide +kernel)
set_option maxRecDepth 20000 in
theorem gX4_act_X4_deleteIt : GoodIn wsX4_act (wsV RX4 118 RX4 yX4_deleteIt wsX4_deleteIt) := goodIn_app (goodIn_of _ (by decide +kernel)) ggX4_act_X4_deleteIt
set_option maxRecDepth 20000 in
theorem ggX4_act_X4_readIt : GoodIn wsX4_act wsX4_readIt := goodIn_r _ [93, 14, 78, 79, 80, 4, 81, 35, 36, 37, 38, 82, 83, 84, 85, 10, 11, 12, 13, 39, 40, 41, 42, 6, 7, 8, 9, 15, 16, 17, 18, 43, 44, 45, 46, 51, 52, 53, 54, 19, 20, 21, 22, 94, 95, 96, 97, 98, 99, 100, 101, 102, 103, 104, 105] (by decide +kernel) (by decide +kernel)
set_option maxRecDepth 20000 in
theorem gX4_act_X4_readIt : GoodIn wsX4_act (wsV RX4 111 RX4 yX4_readIt wsX4_readIt) := goodIn_app (goodIn_of _ (by decide +kernel)) ggX4_act_X4_readIt
theorem dX4_act_0 : decode cX4_act 0 = .ok (.iload_n 1, 1) := by decide +kernel
theorem dX4_act_1 : decode cX4_act 1 = .ok (.lookupswitch 115 #[(97, 85), (100, 105), (102, 76), (103, 67), (106, 59), (119, 93)], 59) := by decide +kernel
theorem dX4_act_60 : decode cX4_act 60 = .ok (.aload_n 0, 1) := by decide +kernel
theorem dX4_act_61 : decode cX4_act 61 = .ok (.invokevirtual 124, 3) := by decide +kernel
theorem dX4_act_64 : decode cX4_act 64 = .ok (.pop, 1) := by decide +kernel
theorem dX4_act_65 : decode cX4_act 65 = .ok (.goto 58, 3) := by decide +kernel
theorem dX4_act_68 : decode cX4_act 68 = .ok (.aload_n 0, 1) := by decide +kernel
theorem dX4_act_69 : decode cX4_act 69 = .ok (.iconst 1, 1) := by decide +kernel
theorem dX4_act_70 : decode cX4_act 70 = .ok (.invokevirtual 133, 3) := by decide +kernel
theorem dX4_act_73 : decode cX4_act 73 = .ok (.pop, 1) := by decide +kernel
theorem dX4_act_74 : decode cX4_act 74 = .ok (.goto 49, 3) := by decide +kernel
theorem dX4_act_77 : decode cX4_act 77 = .ok (.aload_n 0, 1) := by decide +kernel
theorem dX4_act_78 : decode cX4_act 78 = .ok (.iconst 0, 1) := by decide +kernel
theorem dX4_act_79 : decode cX4_act 79 = .ok (.invokevirtual 133, 3) := by decide +kernel
theorem dX4_act_82 : decode cX4_act 82 = .ok (.pop, 1) := by decide +kernel
theorem dX4_act_83 : decode cX4_act 83 = .ok (.goto 40, 3) := by decide +kernel
theorem dX4_act_86 : decode cX4_act 86 = .ok (.aload_n 0, 1) := by decide +kernel
theorem dX4_act_87 : decode cX4_act 87 = .ok (.invokevirtual 121, 3) := by decide +kernel
theorem dX4_act_90 : decode cX4_act 90 = .ok (.pop, 1) := by decide +kernel
theorem dX4_act_91 : decode cX4_act 91 = .ok (.goto 32, 3) := by decide +kernel
theorem dX4_act_94 : decode cX4_act 94 = .ok (.aload_n 0, 1) := by decide +kernel
theorem dX4_act_95 : decode cX4_act 95 = .ok (.iload_n 2, 1) := by decide +kernel
theorem dX4_act_96 : decode cX4_act 96 = .ok (.iload_n 3, 1) := by decide +kernel
theorem dX4_act_97 : decode cX4_act 97 = .ok (.iload 4, 2) := by decide +kernel
theorem dX4_act_99 : decode cX4_act 99 = .ok (.invokevirtual 108, 3) := by decide +kernel
theorem dX4_act_102 : decode cX4_act 102 = .ok (.pop, 1) := by decide +kernel
theorem dX4_act_103 : decode cX4_act 103 = .ok (.goto 20, 3) := by decide +kernel
theorem dX4_act_106 : decode cX4_act 106 = .ok (.aload_n 0, 1) := by decide +kernel
theorem dX4_act_107 : decode cX4_act 107 = .ok (.iload_n 2, 1) := by decide +kernel
theorem dX4_act_108 : decode cX4_act 108 = .ok (.iload_n 3, 1) := by decide +kernel
theorem dX4_act_109 : decode cX4_act 109 = .ok (.invokevirtual 118, 3) := by decide +kernel
theorem dX4_act_112 : decode cX4_act 112 = .ok (.pop, 1) := by decide +kernel
theorem dX4_act_113 : decode cX4_act 113 = .ok (.goto 10, 3) := by decide +kernel
theorem dX4_act_116 : decode cX4_act 116 = .ok (.aload_n 0, 1) := by decide +kernel
theorem dX4_act_117 : decode cX4_act 117 = .ok (.iload_n 2, 1) := by decide +kernel
theorem dX4_act_118 : decode cX4_act 118 = .ok (.iload_n 3, 1) := by decide +kernel
theorem dX4_act_119 : decode cX4_act 119 = .ok (.invokevirtual 111, 3) := by decide +kernel
theorem dX4_act_122 : decode cX4_act 122 = .ok (.pop, 1) := by decide +kernel
theorem dX4_act_123 : decode cX4_act 123 = .ok (.return_, 1) := by decide +kernel
set_option maxRecDepth 20000 in
theorem ggX4_carryOut_X4_readPad : GoodIn wsX4_carryOut wsX4_readPad := goodIn_r _ [8, 1, 9, 10, 3, 11, 12, 13, 7, 14, 2, 15, 16, 17, 18, 19, 20, 21, 22, 23, 24, 25, 26, 27, 28, 29, 30, 31, 32, 33, 34, 35, 36, 37, 38, 153, 154, 155, 156, 157, 158, 159, 160, 161, 162, 163, 164] (by decide +kernel) (by decide +kernel)
set_option maxRecDepth 20000 in
theorem gX4_carryOut_X4_readPad : GoodIn wsX4_carryOut (wsV RX4 193 RX4 yX4_readPad wsX4_readPad) := goodIn_app (goodIn_of _ (by decide +kernel)) ggX4_carryOut_X4_readPad
set_option maxRecDepth 20000 in
theorem ggX4_carryOut_X4_record : GoodIn wsX4_carryOut wsX4_record := goodIn_r _ [42, 43, 44, 45, 153, 154, 155, 156, 157, 158, 159, 160, 161, 162, 163, 164] (by decide +kernel) (by decide +kernel)
set_option maxRecDepth 20000 in
theorem gX4_carryOut_X4_record : GoodIn wsX4_carryOut (wsV RX4 57 RX4 yX4_record wsX4_record) := goodIn_app (goodIn_of _ (by decide +kernel)) ggX4_carryOut_X4_record
set_option maxRecDepth 20000 in
theorem ggX4_carryOut_X4_can : GoodIn wsX4_carryOut wsX4_can := goodIn_r _ [49, 50, 51, 52, 7, 53, 45, 54, 55, 56, 57, 58, 59, 60, 61, 62, 63, 64, 65, 66, 67, 68, 69, 70, 71, 72, 73, 74, 75, 76, 77, 78, 79, 80, 81, 82, 83, 84, 85, 86, 87, 88, 89, 153, 154, 155, 156, 157, 158, 159, 160, 161, 162, 163, 164] (by decide +kernel) (by decide +kernel)
set_option maxRecDepth 20000 in
theorem gX4_carryOut_X4_can : GoodIn wsX4_carryOut (wsV RX4 196 RX4 yX4_can wsX4_can) := goodIn_app (goodIn_of _ (by decide +kernel)) ggX4_carryOut_X4_can
set_option maxRecDepth 20000 in
theorem ggX4_carryOut_X4_act : GoodIn wsX4_carryOut wsX4_act := goodIn_r _ [93, 94, 95, 96, 7, 97, 78, 79, 80, 81, 62, 63, 64, 65, 45, 82, 83, 84, 85, 98, 99, 100, 101, 102, 103, 104, 105, 106, 107, 108, 109, 110, 111, 112, 113, 50, 51, 52, 53, 74, 75, 76, 77, 86, 87, 88, 89, 114, 115, 116, 117, 118, 119, 120, 121, 122, 123, 124, 125, 126, 127, 128, 129, 130, 131, 132, 133, 134, 135, 136, 137, 138, 139, 140, 141, 142, 143, 144, 66, 67, 68, 69, 70, 71, 72, 73, 145, 146, 147, 148, 149, 150, 151, 152, 153, 154, 155, 156, 157, 158, 159, 160, 161, 162, 163, 164] (by decide +kernel) (by decide +kernel)
set_option maxRecDepth 20000 in
theorem gX4_carryOut_X4_act : GoodIn wsX4_carryOut (wsV RX4 199 RX4 yX4_act wsX4_act) := goodIn_app (goodIn_of _ (by decide +kernel)) ggX4_carryOut_X4_act
theorem dX4_carryOut_0 : decode cX4_carryOut 0 = .ok (.aload_n 0, 1) := by decide +kernel
theorem dX4_carryOut_1 : decode cX4_carryOut 1 = .ok (.invokevirtual 193, 3) := by decide +kernel
theorem dX4_carryOut_4 : decode cX4_carryOut 4 = .ok (.bipush (-6), 2) := by decide +kernel
theorem dX4_carryOut_6 : decode cX4_carryOut 6 = .ok (.if_icmp .eq 6, 3) := by decide +kernel
theorem dX4_carryOut_9 : decode cX4_carryOut 9 = .ok (.bipush (-3), 2) := by decide +kernel
theorem dX4_carryOut_11 : decode cX4_carryOut 11 = .ok (.ireturn, 1) := by decide +kernel
theorem dX4_carryOut_12 : decode cX4_carryOut 12 = .ok (.aload_n 0, 1) := by decide +kernel
theorem dX4_carryOut_13 : decode cX4_carryOut 13 = .ok (.invokevirtual 57, 3) := by decide +kernel
theorem dX4_carryOut_16 : decode cX4_carryOut 16 = .ok (.iconst 0, 1) := by decide +kernel
theorem dX4_carryOut_17 : decode cX4_carryOut 17 = .ok (.istore_n 1, 1) := by decide +kernel
theorem dX4_carryOut_18 : decode cX4_carryOut 18 = .ok (.iload_n 1, 1) := by decide +kernel
theorem dX4_carryOut_19 : decode cX4_carryOut 19 = .ok (.aload_n 0, 1) := by decide +kernel
theorem dX4_carryOut_20 : decode cX4_carryOut 20 = .ok (.getfield 181, 3) := by decide +kernel
theorem dX4_carryOut_23 : decode cX4_carryOut 23 = .ok (.if_icmp .ge 86, 3) := by decide +kernel
theorem dX4_carryOut_26 : decode cX4_carryOut 26 = .ok (.aload_n 0, 1) := by decide +kernel
theorem dX4_carryOut_27 : decode cX4_carryOut 27 = .ok (.aload_n 0, 1) := by decide +kernel
theorem dX4_carryOut_28 : decode cX4_carryOut 28 = .ok (.getfield 30, 3) := by decide +kernel
theorem dX4_carryOut_31 : decode cX4_carryOut 31 = .ok (.iconst 4, 1) := by decide +kernel
theorem dX4_carryOut_32 : decode cX4_carryOut 32 = .ok (.iload_n 1, 1) := by decide +kernel
theorem dX4_carryOut_33 : decode cX4_carryOut 33 = .ok (.imul, 1) := by decide +kernel
theorem dX4_carryOut_34 : decode cX4_carryOut 34 = .ok (.iaload, 1) := by decide +kernel
theorem dX4_carryOut_35 : decode cX4_carryOut 35 = .ok (.aload_n 0, 1) := by decide +kernel
theorem dX4_carryOut_36 : decode cX4_carryOut 36 = .ok (.getfield 30, 3) := by decide +kernel
theorem dX4_carryOut_39 : decode cX4_carryOut 39 = .ok (.iconst 4, 1) := by decide +kernel
theorem dX4_carryOut_40 : decode cX4_carryOut 40 = .ok (.iload_n 1, 1) := by decide +kernel
theorem dX4_carryOut_41 : decode cX4_carryOut 41 = .ok (.imul, 1) := by decide +kernel
theorem dX4_carryOut_42 : decode cX4_carryOut 42 = .ok (.iconst 1, 1) := by decide +kernel
theorem dX4_carryOut_43 : decode cX4_carryOut 43 = .ok (.iadd, 1) := by decide +kernel
theorem dX4_carryOut_44 : decode cX4_carryOut 44 = .ok (.iaload, 1) := by decide +kernel
theorem dX4_carryOut_45 : decode cX4_carryOut 45 = .ok (.aload_n 0, 1) := by decide +kernel
theorem dX4_carryOut_46 : decode cX4_carryOut 46 = .ok (.getfield 30, 3) := by decide +kernel
theorem dX4_carryOut_49 : decode cX4_carryOut 49 = .ok (.iconst 4, 1) := by decide +kernel
theorem dX4_carryOut_50 : decode cX4_carryOut 50 = .ok (.iload_n 1, 1) := by decide +kernel
theorem dX4_carryOut_51 : decode cX4_carryOut 51 = .ok (.imul, 1) := by decide +kernel
theorem dX4_carryOut_52 : decode cX4_carryOut 52 = .ok (.iconst 2, 1) := by decide +kernel
theorem dX4_carryOut_53 : decode cX4_carryOut 53 = .ok (.iadd, 1) := by decide +kernel
theorem dX4_carryOut_54 : decode cX4_carryOut 54 = .ok (.iaload, 1) := by decide +kernel
theorem dX4_carryOut_55 : decode cX4_carryOut 55 = .ok (.invokevirtual 196, 3) := by decide +kernel
theorem dX4_carryOut_58 : decode cX4_carryOut 58 = .ok (.ifCond .eq 51, 3) := by decide +kernel
theorem dX4_carryOut_61 : decode cX4_carryOut 61 = .ok (.aload_n 0, 1) := by decide +kernel
theorem dX4_carryOut_62 : decode cX4_carryOut 62 = .ok (.aload_n 0, 1) := by decide +kernel
theorem dX4_carryOut_63 : decode cX4_carryOut 63 = .ok (.getfield 30, 3) := by decide +kernel
theorem dX4_carryOut_66 : decode cX4_carryOut 66 = .ok (.iconst 4, 1) := by decide +kernel
theorem dX4_carryOut_67 : decode cX4_carryOut 67 = .ok (.iload_n 1, 1) := by decide +kernel
theorem dX4_carryOut_68 : decode cX4_carryOut 68 = .ok (.imul, 1) := by decide +kernel
theorem dX4_carryOut_69 : decode cX4_carryOut 69 = .ok (.iaload, 1) := by decide +kernel
theorem dX4_carryOut_70 : decode cX4_carryOut 70 = .ok (.aload_n 0, 1) := by decide +kernel
theorem dX4_carryOut_71 : decode cX4_carryOut 71 = .ok (.getfield 30, 3) := by decide +kernel
theorem dX4_carryOut_74 : decode cX4_carryOut 74 = .ok (.iconst 4, 1) := by decide +kernel
theorem dX4_carryOut_75 : decode cX4_carryOut 75 = .ok (.iload_n 1, 1) := by decide +kernel
theorem dX4_carryOut_76 : decode cX4_carryOut 76 = .ok (.imul, 1) := by decide +kernel
theorem dX4_carryOut_77 : decode cX4_carryOut 77 = .ok (.iconst 1, 1) := by decide +kernel
theorem dX4_carryOut_78 : decode cX4_carryOut 78 = .ok (.iadd, 1) := by decide +kernel
theorem dX4_carryOut_79 : decode cX4_carryOut 79 = .ok (.iaload, 1) := by decide +kernel
theorem dX4_carryOut_80 : decode cX4_carryOut 80 = .ok (.aload_n 0, 1) := by decide +kernel
theorem dX4_carryOut_81 : decode cX4_carryOut 81 = .ok (.getfield 30, 3) := by decide +kernel
theorem dX4_carryOut_84 : decode cX4_carryOut 84 = .ok (.iconst 4, 1) := by decide +kernel
theorem dX4_carryOut_85 : decode cX4_carryOut 85 = .ok (.iload_n 1, 1) := by decide +kernel
theorem dX4_carryOut_86 : decode cX4_carryOut 86 = .ok (.imul, 1) := by decide +kernel
theorem dX4_carryOut_87 : decode cX4_carryOut 87 = .ok (.iconst 2, 1) := by decide +kernel
theorem dX4_carryOut_88 : decode cX4_carryOut 88 = .ok (.iadd, 1) := by decide +kernel
theorem dX4_carryOut_89 : decode cX4_carryOut 89 = .ok (.iaload, 1) := by decide +kernel
theorem dX4_carryOut_90 : decode cX4_carryOut 90 = .ok (.aload_n 0, 1) := by decide +kernel
theorem dX4_carryOut_91 : decode cX4_carryOut 91 = .ok (.getfield 30, 3) := by decide +kernel
theorem dX4_carryOut_94 : decode cX4_carryOut 94 = .ok (.iconst 4, 1) := by decide +kernel
theorem dX4_carryOut_95 : decode cX4_carryOut 95 = .ok (.iload_n 1, 1) := by decide +kernel
theorem dX4_carryOut_96 : decode cX4_carryOut 96 = .ok (.imul, 1) := by decide +kernel
theorem dX4_carryOut_97 : decode cX4_carryOut 97 = .ok (.iconst 3, 1) := by decide +kernel
theorem dX4_carryOut_98 : decode cX4_carryOut 98 = .ok (.iadd, 1) := by decide +kernel
theorem dX4_carryOut_99 : decode cX4_carryOut 99 = .ok (.iaload, 1) := by decide +kernel
theorem dX4_carryOut_100 : decode cX4_carryOut 100 = .ok (.invokevirtual 199, 3) := by decide +kernel
theorem dX4_carryOut_103 : decode cX4_carryOut 103 = .ok (.iinc 1 1, 3) := by decide +kernel
theorem dX4_carryOut_106 : decode cX4_carryOut 106 = .ok (.goto (-88), 3) := by decide +kernel
theorem dX4_carryOut_109 : decode cX4_carryOut 109 = .ok (.aload_n 0, 1) := by decide +kernel
theorem dX4_carryOut_110 : decode cX4_carryOut 110 = .ok (.iconst 0, 1) := by decide +kernel
theorem dX4_carryOut_111 : decode cX4_carryOut 111 = .ok (.putfield 151, 3) := by decide +kernel
theorem dX4_carryOut_114 : decode cX4_carryOut 114 = .ok (.iload_n 1, 1) := by decide +kernel
theorem dX4_carryOut_115 : decode cX4_carryOut 115 = .ok (.ireturn, 1) := by decide +kernel
