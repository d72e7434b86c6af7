theorem dX4_init_0 : decode cX4_init 0 = .ok (.aload_n 0, 1) := by decide +kernel
theorem dX4_init_1 : decode cX4_init 1 = .ok (.invokespecial 1, 3) := by decide +kernel
theorem dX4_init_4 : decode cX4_init 4 = .ok (.aload_n 0, 1) := by decide +kernel
theorem dX4_init_5 : decode cX4_init 5 = .ok (.sipush 367, 3) := by decide +kernel
theorem dX4_init_8 : decode cX4_init 8 = .ok (.newarray .int, 2) := by decide +kernel
theorem dX4_init_10 : decode cX4_init 10 = .ok (.putfield 7, 3) := by decide +kernel
theorem dX4_init_13 : decode cX4_init 13 = .ok (.aload_n 0, 1) := by decide +kernel
theorem dX4_init_14 : decode cX4_init 14 = .ok (.sipush 2202, 3) := by decide +kernel
theorem dX4_init_17 : decode cX4_init 17 = .ok (.newarray .int, 2) := by decide +kernel
theorem dX4_init_19 : decode cX4_init 19 = .ok (.putfield 13, 3) := by decide +kernel
theorem dX4_init_22 : decode cX4_init 22 = .ok (.aload_n 0, 1) := by decide +kernel
theorem dX4_init_23 : decode cX4_init 23 = .ok (.sipush 734, 3) := by decide +kernel
theorem dX4_init_26 : decode cX4_init 26 = .ok (.newarray .int, 2) := by decide +kernel
theorem dX4_init_28 : decode cX4_init 28 = .ok (.putfield 16, 3) := by decide +kernel
theorem dX4_init_31 : decode cX4_init 31 = .ok (.aload_n 0, 1) := by decide +kernel
theorem dX4_init_32 : decode cX4_init 32 = .ok (.iconst 2, 1) := by decide +kernel
theorem dX4_init_33 : decode cX4_init 33 = .ok (.newarray .boolean, 2) := by decide +kernel
theorem dX4_init_35 : decode cX4_init 35 = .ok (.putfield 19, 3) := by decide +kernel
theorem dX4_init_38 : decode cX4_init 38 = .ok (.aload_n 0, 1) := by decide +kernel
theorem dX4_init_39 : decode cX4_init 39 = .ok (.sipush 367, 3) := by decide +kernel
theorem dX4_init_42 : decode cX4_init 42 = .ok (.newarray .int, 2) := by decide +kernel
theorem dX4_init_44 : decode cX4_init 44 = .ok (.putfield 23, 3) := by decide +kernel
theorem dX4_init_47 : decode cX4_init 47 = .ok (.aload_n 0, 1) := by decide +kernel
theorem dX4_init_48 : decode cX4_init 48 = .ok (.bipush 80, 2) := by decide +kernel
theorem dX4_init_50 : decode cX4_init 50 = .ok (.newarray .char, 2) := by decide +kernel
theorem dX4_init_52 : decode cX4_init 52 = .ok (.putfield 26, 3) := by decide +kernel
theorem dX4_init_55 : decode cX4_init 55 = .ok (.aload_n 0, 1) := by decide +kernel
theorem dX4_init_56 : decode cX4_init 56 = .ok (.sipush 164, 3) := by decide +kernel
theorem dX4_init_59 : decode cX4_init 59 = .ok (.newarray .int, 2) := by decide +kernel
theorem dX4_init_61 : decode cX4_init 61 = .ok (.putfield 30, 3) := by decide +kernel
theorem dX4_init_64 : decode cX4_init 64 = .ok (.iconst 0, 1) := by decide +kernel
theorem dX4_init_65 : decode cX4_init 65 = .ok (.istore_n 1, 1) := by decide +kernel
theorem dX4_init_66 : decode cX4_init 66 = .ok (.iload_n 1, 1) := by decide +kernel
theorem dX4_init_67 : decode cX4_init 67 = .ok (.bipush 6, 2) := by decide +kernel
theorem dX4_init_69 : decode cX4_init 69 = .ok (.if_icmp .ge 24, 3) := by decide +kernel
theorem dX4_init_72 : decode cX4_init 72 = .ok (.aload_n 0, 1) := by decide +kernel
theorem dX4_init_73 : decode cX4_init 73 = .ok (.getfield 7, 3) := by decide +kernel
theorem dX4_init_76 : decode cX4_init 76 = .ok (.bipush 7, 2) := by decide +kernel
theorem dX4_init_78 : decode cX4_init 78 = .ok (.bipush 60, 2) := by decide +kernel
theorem dX4_init_80 : decode cX4_init 80 = .ok (.iload_n 1, 1) := by decide +kernel
theorem dX4_init_81 : decode cX4_init 81 = .ok (.imul, 1) := by decide +kernel
theorem dX4_init_82 : decode cX4_init 82 = .ok (.iadd, 1) := by decide +kernel
theorem dX4_init_83 : decode cX4_init 83 = .ok (.iconst 0, 1) := by decide +kernel
theorem dX4_init_84 : decode cX4_init 84 = .ok (.iadd, 1) := by decide +kernel
theorem dX4_init_85 : decode cX4_init 85 = .ok (.iconst 3, 1) := by decide +kernel
theorem dX4_init_86 : decode cX4_init 86 = .ok (.iastore, 1) := by decide +kernel
theorem dX4_init_87 : decode cX4_init 87 = .ok (.iinc 1 1, 3) := by decide +kernel
theorem dX4_init_90 : decode cX4_init 90 = .ok (.goto (-24), 3) := by decide +kernel
theorem dX4_init_93 : decode cX4_init 93 = .ok (.return_, 1) := by decide +kernel
theorem dX4_in_0 : decode cX4_in 0 = .ok (.iload_n 0, 1) := by decide +kernel
theorem dX4_in_1 : decode cX4_in 1 = .ok (.iload_n 1, 1) := by decide +kernel
theorem dX4_in_2 : decode cX4_in 2 = .ok (.if_icmp .lt 12, 3) := by decide +kernel
theorem dX4_in_5 : decode cX4_in 5 = .ok (.iload_n 0, 1) := by decide +kernel
theorem dX4_in_6 : decode cX4_in 6 = .ok (.iload_n 2, 1) := by decide +kernel
theorem dX4_in_7 : decode cX4_in 7 = .ok (.if_icmp .gt 7, 3) := by decide +kernel
theorem dX4_in_10 : decode cX4_in 10 = .ok (.iconst 1, 1) := by decide +kernel
theorem dX4_in_11 : decode cX4_in 11 = .ok (.goto 4, 3) := by decide +kernel
theorem dX4_in_14 : decode cX4_in 14 = .ok (.iconst 0, 1) := by decide +kernel
theorem dX4_in_15 : decode cX4_in 15 = .ok (.ireturn, 1) := by decide +kernel
set_option maxRecDepth 20000 in
theorem ggX4_isGroup_X4_in : GoodIn wsX4_isGroup wsX4_in := goodIn_r _ [4] (by decide +kernel) (by decide +kernel)
set_option maxRecDepth 20000 in
theorem gX4_isGroup_X4_in : GoodIn wsX4_isGroup (va_wsS RX4 33 yX4_in wsX4_in) := goodIn_app (goodIn_of _ (by decide +kernel)) ggX4_isGroup_X4_in
theorem dX4_isGroup_0 : decode cX4_isGroup 0 = .ok (.iload_n 0, 1) := by decide +kernel
theorem dX4_isGroup_1 : decode cX4_isGroup 1 = .ok (.iconst 0, 1) := by decide +kernel
theorem dX4_isGroup_2 : decode cX4_isGroup 2 = .ok (.iconst 5, 1) := by decide +kernel
theorem dX4_isGroup_3 : decode cX4_isGroup 3 = .ok (.invokestatic 33, 3) := by decide +kernel
theorem dX4_isGroup_6 : decode cX4_isGroup 6 = .ok (.ireturn, 1) := by decide +kernel
theorem dX4_of_0 : decode cX4_of 0 = .ok (.aload_n 0, 1) := by decide +kernel
theorem dX4_of_1 : decode cX4_of 1 = .ok (.getfield 7, 3) := by decide +kernel
theorem dX4_of_4 : decode cX4_of 4 = .ok (.bipush 7, 2) := by decide +kernel
theorem dX4_of_6 : decode cX4_of 6 = .ok (.bipush 60, 2) := by decide +kernel
theorem dX4_of_8 : decode cX4_of 8 = .ok (.iload_n 1, 1) := by decide +kernel
theorem dX4_of_9 : decode cX4_of 9 = .ok (.imul, 1) := by decide +kernel
theorem dX4_of_10 : decode cX4_of 10 = .ok (.iadd, 1) := by decide +kernel
theorem dX4_of_11 : decode cX4_of 11 = .ok (.iload_n 2, 1) := by decide +kernel
theorem dX4_of_12 : decode cX4_of 12 = .ok (.iadd, 1) := by decide +kernel
theorem dX4_of_13 : decode cX4_of 13 = .ok (.iaload, 1) := by decide +kernel
theorem dX4_of_14 : decode cX4_of 14 = .ok (.ireturn, 1) := by decide +kernel
theorem dX4_lay_0 : decode cX4_lay 0 = .ok (.aload_n 0, 1) := by decide +kernel
theorem dX4_lay_1 : decode cX4_lay 1 = .ok (.getfield 7, 3) := by decide +kernel
theorem dX4_lay_4 : decode cX4_lay 4 = .ok (.bipush 7, 2) := by decide +kernel
theorem dX4_lay_6 : decode cX4_lay 6 = .ok (.bipush 60, 2) := by decide +kernel
theorem dX4_lay_8 : decode cX4_lay 8 = .ok (.iload_n 1, 1) := by decide +kernel
theorem dX4_lay_9 : decode cX4_lay 9 = .ok (.imul, 1) := by decide +kernel
theorem dX4_lay_10 : decode cX4_lay 10 = .ok (.iadd, 1) := by decide +kernel
theorem dX4_lay_11 : decode cX4_lay 11 = .ok (.iload_n 2, 1) := by decide +kernel
theorem dX4_lay_12 : decode cX4_lay 12 = .ok (.iadd, 1) := by decide +kernel
theorem dX4_lay_13 : decode cX4_lay 13 = .ok (.iload_n 3, 1) := by decide +kernel
theorem dX4_lay_14 : decode cX4_lay 14 = .ok (.iastore, 1) := by decide +kernel
theorem dX4_lay_15 : decode cX4_lay 15 = .ok (.return_, 1) := by decide +kernel
set_option maxRecDepth 20000 in
theorem ggX4_many_X4_of : GoodIn wsX4_many wsX4_of := goodIn_r _ [5, 6, 7, 8, 9, 10, 11, 12, 13, 14, 15, 16, 17, 18] (by decide +kernel) (by decide +kernel)
set_option maxRecDepth 20000 in
theorem gX4_many_X4_of : GoodIn wsX4_many (wsV RX4 37 RX4 yX4_of wsX4_of) := goodIn_app (goodIn_of _ (by decide +kernel)) ggX4_many_X4_of
theorem dX4_many_0 : decode cX4_many 0 = .ok (.aload_n 0, 1) := by decide +kernel
theorem dX4_many_1 : decode cX4_many 1 = .ok (.iload_n 1, 1) := by decide +kernel
theorem dX4_many_2 : decode cX4_many 2 = .ok (.iconst 1, 1) := by decide +kernel
theorem dX4_many_3 : decode cX4_many 3 = .ok (.invokevirtual 37, 3) := by decide +kernel
theorem dX4_many_6 : decode cX4_many 6 = .ok (.ireturn, 1) := by decide +kernel
set_option maxRecDepth 20000 in
theorem ggX4_gen_X4_of : GoodIn wsX4_gen wsX4_of := goodIn_r _ [5, 6, 7, 8, 9, 10, 11, 12, 13, 14, 15, 16, 17, 18] (by decide +kernel) (by decide +kernel)
set_option maxRecDepth 20000 in
theorem gX4_gen_X4_of : GoodIn wsX4_gen (wsV RX4 37 RX4 yX4_of wsX4_of) := goodIn_app (goodIn_of _ (by decide +kernel)) ggX4_gen_X4_of
theorem dX4_gen_0 : decode cX4_gen 0 = .ok (.aload_n 0, 1) := by decide +kernel
theorem dX4_gen_1 : decode cX4_gen 1 = .ok (.iload_n 1, 1) := by decide +kernel
theorem dX4_gen_2 : decode cX4_gen 2 = .ok (.bipush 15, 2) := by decide +kernel
theorem dX4_gen_4 : decode cX4_gen 4 = .ok (.iconst 5, 1) := by decide +kernel
theorem dX4_gen_5 : decode cX4_gen 5 = .ok (.iload_n 2, 1) := by decide +kernel
theorem dX4_gen_6 : decode cX4_gen 6 = .ok (.imul, 1) := by decide +kernel
theorem dX4_gen_7 : decode cX4_gen 7 = .ok (.iadd, 1) := by decide +kernel
theorem dX4_gen_8 : decode cX4_gen 8 = .ok (.iload_n 3, 1) := by decide +kernel
theorem dX4_gen_9 : decode cX4_gen 9 = .ok (.iadd, 1) := by decide +kernel
theorem dX4_gen_10 : decode cX4_gen 10 = .ok (.invokevirtual 37, 3) := by decide +kernel
theorem dX4_gen_13 : decode cX4_gen 13 = .ok (.ireturn, 1) := by decide +kernel
set_option maxRecDepth 20000 in
theorem ggX4_layGen_X4_lay : GoodIn wsX4_layGen wsX4_lay := goodIn_r _ [5, 6, 7, 8, 9, 10, 11, 12, 13, 14, 15, 16, 17, 18] (by decide +kernel) (by decide +kernel)
set_option maxRecDepth 20000 in
theorem gX4_layGen_X4_lay : GoodIn wsX4_layGen (wsV RX4 41 RX4 yX4_lay wsX4_lay) := goodIn_app (goodIn_of _ (by decide +kernel)) ggX4_layGen_X4_lay
theorem dX4_layGen_0 : decode cX4_layGen 0 = .ok (.aload_n 0, 1) := by decide +kernel
theorem dX4_layGen_1 : decode cX4_layGen 1 = .ok (.iload_n 1, 1) := by decide +kernel
theorem dX4_layGen_2 : decode cX4_layGen 2 = .ok (.bipush 15, 2) := by decide +kernel
theorem dX4_layGen_4 : decode cX4_layGen 4 = .ok (.iconst 5, 1) := by decide +kernel
theorem dX4_layGen_5 : decode cX4_layGen 5 = .ok (.iload_n 2, 1) := by decide +kernel
theorem dX4_layGen_6 : decode cX4_layGen 6 = .ok (.imul, 1) := by decide +kernel
theorem dX4_layGen_7 : decode cX4_layGen 7 = .ok (.iadd, 1) := by decide +kernel
theorem dX4_layGen_8 : decode cX4_layGen 8 = .ok (.iload_n 3, 1) := by decide +kernel
theorem dX4_layGen_9 : decode cX4_layGen 9 = .ok (.iadd, 1) := by decide +kernel
theorem dX4_layGen_10 : decode cX4_layGen 10 = .ok (.iload 4, 2) := by decide +kernel
theorem dX4_layGen_12 : decode cX4_layGen 12 = .ok (.invokevirtual 41, 3) := by decide +kernel
theorem dX4_layGen_15 : decode cX4_layGen 15 = .ok (.return_, 1) := by decide +kernel
set_option maxRecDepth 20000 in
theorem ggX4_isHole_X4_gen : GoodIn wsX4_isHole wsX4_gen := goodIn_r _ [5, 6, 7, 8, 4, 9, 10, 11, 12, 13, 14, 15, 16, 17, 18, 19, 20, 21, 22] (by decide +kernel) (by decide +kernel)
set_option maxRecDepth 20000 in
theorem gX4_isHole_X4_gen : GoodIn wsX4_isHole (wsV RX4 45 RX4 yX4_gen wsX4_gen) := goodIn_app (goodIn_of _ (by decide +kernel)) ggX4_isHole_X4_gen
theorem dX4_isHole_0 : decode cX4_isHole 0 = .ok (.aload_n 0, 1) := by decide +kernel
theorem dX4_isHole_1 : decode cX4_isHole 1 = .ok (.iload_n 1, 1) := by decide +kernel
theorem dX4_isHole_2 : decode cX4_isHole 2 = .ok (.iload_n 2, 1) := by decide +kernel
theorem dX4_isHole_3 : decode cX4_isHole 3 = .ok (.iconst 2, 1) := by decide +kernel
theorem dX4_isHole_4 : decode cX4_isHole 4 = .ok (.invokevirtual 45, 3) := by decide +kernel
theorem dX4_isHole_7 : decode cX4_isHole 7 = .ok (.bipush (-6), 2) := by decide +kernel
theorem dX4_isHole_9 : decode cX4_isHole 9 = .ok (.if_icmp .ne 7, 3) := by decide +kernel
theorem dX4_isHole_12 : decode cX4_isHole 12 = .ok (.iconst 1, 1) := by decide +kernel
theorem dX4_isHole_13 : decode cX4_isHole 13 = .ok (.goto 4, 3) := by decide +kernel
theorem dX4_isHole_16 : decode cX4_isHole 16 = .ok (.iconst 0, 1) := by decide +kernel
theorem dX4_isHole_17 : decode cX4_isHole 17 = .ok (.ireturn, 1) := by decide +kernel
theorem dX4_runs_0 : decode cX4_runs 0 = .ok (.aload_n 0, 1) := by decide +kernel
theorem dX4_runs_1 : decode cX4_runs 1 = .ok (.getfield 7, 3) := by decide +kernel
theorem dX4_runs_4 : decode cX4_runs 4 = .ok (.iconst 1, 1) := by decide +kernel
theorem dX4_runs_5 : decode cX4_runs 5 = .ok (.iaload, 1) := by decide +kernel
theorem dX4_runs_6 : decode cX4_runs 6 = .ok (.iconst 1, 1) := by decide +kernel
theorem dX4_runs_7 : decode cX4_runs 7 = .ok (.if_icmp .ne 7, 3) := by decide +kernel
theorem dX4_runs_10 : decode cX4_runs 10 = .ok (.iconst 1, 1) := by decide +kernel
theorem dX4_runs_11 : decode cX4_runs 11 = .ok (.goto 4, 3) := by decide +kernel
theorem dX4_runs_14 : decode cX4_runs 14 = .ok (.iconst 0, 1) := by decide +kernel
theorem dX4_runs_15 : decode cX4_runs 15 = .ok (.ireturn, 1) := by decide +kernel
theorem dX4_record_0 : decode cX4_record 0 = .ok (.aload_n 0, 1) := by decide +kernel
theorem dX4_record_1 : decode cX4_record 1 = .ok (.getfield 49, 3) := by decide +kernel
theorem dX4_record_4 : decode cX4_record 4 = .ok (.bipush 6, 2) := by decide +kernel
theorem dX4_record_6 : decode cX4_record 6 = .ok (.if_icmp .ne 44, 3) := by decide +kernel
theorem dX4_record_9 : decode cX4_record 9 = .ok (.iconst 0, 1) := by decide +kernel
theorem dX4_record_10 : decode cX4_record 10 = .ok (.istore_n 1, 1) := by decide +kernel
theorem dX4_record_11 : decode cX4_record 11 = .ok (.iload_n 1, 1) := by decide +kernel
theorem dX4_record_12 : decode cX4_record 12 = .ok (.sipush 1835, 3) := by decide +kernel
theorem dX4_record_15 : decode cX4_record 15 = .ok (.if_icmp .ge 25, 3) := by decide +kernel
theorem dX4_record_18 : decode cX4_record 18 = .ok (.aload_n 0, 1) := by decide +kernel
theorem dX4_record_19 : decode cX4_record 19 = .ok (.getfield 13, 3) := by decide +kernel
theorem dX4_record_22 : decode cX4_record 22 = .ok (.iload_n 1, 1) := by decide +kernel
theorem dX4_record_23 : decode cX4_record 23 = .ok (.aload_n 0, 1) := by decide +kernel
theorem dX4_record_24 : decode cX4_record 24 = .ok (.getfield 13, 3) := by decide +kernel
theorem dX4_record_27 : decode cX4_record 27 = .ok (.iload_n 1, 1) := by decide +kernel
theorem dX4_record_28 : decode cX4_record 28 = .ok (.sipush 367, 3) := by decide +kernel
theorem dX4_record_31 : decode cX4_record 31 = .ok (.iadd, 1) := by decide +kernel
theorem dX4_record_32 : decode cX4_record 32 = .ok (.iaload, 1) := by decide +kernel
theorem dX4_record_33 : decode cX4_record 33 = .ok (.iastore, 1) := by decide +kernel
theorem dX4_record_34 : decode cX4_record 34 = .ok (.iinc 1 1, 3) := by decide +kernel
theorem dX4_record_37 : decode cX4_record 37 = .ok (.goto (-26), 3) := by decide +kernel
theorem dX4_record_40 : decode cX4_record 40 = .ok (.aload_n 0, 1) := by decide +kernel
theorem dX4_record_41 : decode cX4_record 41 = .ok (.dup, 1) := by decide +kernel
theorem dX4_record_42 : decode cX4_record 42 = .ok (.getfield 49, 3) := by decide +kernel
theorem dX4_record_45 : decode cX4_record 45 = .ok (.iconst 1, 1) := by decide +kernel
theorem dX4_record_46 : decode cX4_record 46 = .ok (.isub, 1) := by decide +kernel
theorem dX4_record_47 : decode cX4_record 47 = .ok (.putfield 49, 3) := by decide +kernel
theorem dX4_record_50 : decode cX4_record 50 = .ok (.iconst 0, 1) := by decide +kernel
theorem dX4_record_51 : decode cX4_record 51 = .ok (.istore_n 1, 1) := by decide +kernel
theorem dX4_record_52 : decode cX4_record 52 = .ok (.iload_n 1, 1) := by decide +kernel
theorem dX4_record_53 : decode cX4_record 53 = .ok (.sipush 367, 3) := by decide +kernel
theorem dX4_record_56 : decode cX4_record 56 = .ok (.if_icmp .ge 30, 3) := by decide +kernel
theorem dX4_record_59 : decode cX4_record 59 = .ok (.aload_n 0, 1) := by decide +kernel
theorem dX4_record_60 : decode cX4_record 60 = .ok (.getfield 13, 3) := by decide +kernel
theorem dX4_record_63 : decode cX4_record 63 = .ok (.aload_n 0, 1) := by decide +kernel
theorem dX4_record_64 : decode cX4_record 64 = .ok (.getfield 49, 3) := by decide +kernel
theorem dX4_record_67 : decode cX4_record 67 = .ok (.sipush 367, 3) := by decide +kernel
theorem dX4_record_70 : decode cX4_record 70 = .ok (.imul, 1) := by decide +kernel
theorem dX4_record_71 : decode cX4_record 71 = .ok (.iload_n 1, 1) := by decide +kernel
theorem dX4_record_72 : decode cX4_record 72 = .ok (.iadd, 1) := by decide +kernel
theorem dX4_record_73 : decode cX4_record 73 = .ok (.aload_n 0, 1) := by decide +kernel
theorem dX4_record_74 : decode cX4_record 74 = .ok (.getfield 7, 3) := by decide +kernel
theorem dX4_record_77 : decode cX4_record 77 = .ok (.iload_n 1, 1) := by decide +kernel
theorem dX4_record_78 : decode cX4_record 78 = .ok (.iaload, 1) := by decide +kernel
theorem dX4_record_79 : decode cX4_record 79 = .ok (.iastore, 1) := by decide +kernel
theorem dX4_record_80 : decode cX4_record 80 = .ok (.iinc 1 1, 3) := by decide +kernel
theorem dX4_record_83 : decode cX4_record 83 = .ok (.goto (-31), 3) := by decide +kernel
theorem dX4_record_86 : decode cX4_record 86 = .ok (.aload_n 0, 1) := by decide +kernel
theorem dX4_record_87 : decode cX4_record 87 = .ok (.dup, 1) := by decide +kernel
theorem dX4_record_88 : decode cX4_record 88 = .ok (.getfield 49, 3) := by decide +kernel
theorem dX4_record_91 : decode cX4_record 91 = .ok (.iconst 1, 1) := by decide +kernel
theorem dX4_record_92 : decode cX4_record 92 = .ok (.iadd, 1) := by decide +kernel
theorem dX4_record_93 : decode cX4_record 93 = .ok (.putfield 49, 3) := by decide +kernel
theorem dX4_record_96 : decode cX4_record 96 = .ok (.return_, 1) := by decide +kernel
theorem dX4_undo_0 : decode cX4_undo 0 = .ok (.aload_n 0, 1) := by decide +kernel
theorem dX4_undo_1 : decode cX4_undo 1 = .ok (.getfield 49, 3) := by decide +kernel
theorem dX4_undo_4 : decode cX4_undo 4 = .ok (.ifCond .ne 6, 3) := by decide +kernel
theorem dX4_undo_7 : decode cX4_undo 7 = .ok (.bipush (-5), 2) := by decide +kernel
theorem dX4_undo_9 : decode cX4_undo 9 = .ok (.ireturn, 1) := by decide +kernel
theorem dX4_undo_10 : decode cX4_undo 10 = .ok (.aload_n 0, 1) := by decide +kernel
theorem dX4_undo_11 : decode cX4_undo 11 = .ok (.dup, 1) := by decide +kernel
theorem dX4_undo_12 : decode cX4_undo 12 = .ok (.getfield 49, 3) := by decide +kernel
theorem dX4_undo_15 : decode cX4_undo 15 = .ok (.iconst 1, 1) := by decide +kernel
theorem dX4_undo_16 : decode cX4_undo 16 = .ok (.isub, 1) := by decide +kernel
theorem dX4_undo_17 : decode cX4_undo 17 = .ok (.putfield 49, 3) := by decide +kernel
theorem dX4_undo_20 : decode cX4_undo 20 = .ok (.iconst 0, 1) := by decide +kernel
theorem dX4_undo_21 : decode cX4_undo 21 = .ok (.istore_n 1, 1) := by decide +kernel
theorem dX4_undo_22 : decode cX4_undo 22 = .ok (.iload_n 1, 1) := by decide +kernel
theorem dX4_undo_23 : decode cX4_undo 23 = .ok (.sipush 367, 3) := by decide +kernel
theorem dX4_undo_26 : decode cX4_undo 26 = .ok (.if_icmp .ge 30, 3) := by decide +kernel
theorem dX4_undo_29 : decode cX4_undo 29 = .ok (.aload_n 0, 1) := by decide +kernel
theorem dX4_undo_30 : decode cX4_undo 30 = .ok (.getfield 7, 3) := by decide +kernel
theorem dX4_undo_33 : decode cX4_undo 33 = .ok (.iload_n 1, 1) := by decide +kernel
theorem dX4_undo_34 : decode cX4_undo 34 = .ok (.aload_n 0, 1) := by decide +kernel
theorem dX4_undo_35 : decode cX4_undo 35 = .ok (.getfield 13, 3) := by decide +kernel
theorem dX4_undo_38 : decode cX4_undo 38 = .ok (.aload_n 0, 1) := by decide +kernel
theorem dX4_undo_39 : decode cX4_undo 39 = .ok (.getfield 49, 3) := by decide +kernel
theorem dX4_undo_42 : decode cX4_undo 42 = .ok (.sipush 367, 3) := by decide +kernel
theorem dX4_undo_45 : decode cX4_undo 45 = .ok (.imul, 1) := by decide +kernel
theorem dX4_undo_46 : decode cX4_undo 46 = .ok (.iload_n 1, 1) := by decide +kernel
theorem dX4_undo_47 : decode cX4_undo 47 = .ok (.iadd, 1) := by decide +kernel
theorem dX4_undo_48 : decode cX4_undo 48 = .ok (.iaload, 1) := by decide +kernel
theorem dX4_undo_49 : decode cX4_undo 49 = .ok (.iastore, 1) := by decide +kernel
theorem dX4_undo_50 : decode cX4_undo 50 = .ok (.iinc 1 1, 3) := by decide +kernel
theorem dX4_undo_53 : decode cX4_undo 53 = .ok (.goto (-31), 3) := by decide +kernel
theorem dX4_undo_56 : decode cX4_undo 56 = .ok (.aload_n 0, 1) := by decide +kernel
theorem dX4_undo_57 : decode cX4_undo 57 = .ok (.getfield 49, 3) := by decide +kernel
theorem dX4_undo_60 : decode cX4_undo 60 = .ok (.ireturn, 1) := by decide +kernel
set_option maxRecDepth 20000 in
theorem ggX4_save_X4_in : GoodIn wsX4_save wsX4_in := goodIn_r _ [7] (by decide +kernel) (by decide +kernel)
set_option maxRecDepth 20000 in
theorem gX4_save_X4_in : GoodIn wsX4_save (va_wsS RX4 33 yX4_in wsX4_in) := goodIn_app (goodIn_of _ (by decide +kernel)) ggX4_save_X4_in
set_option maxRecDepth 20000 in
theorem ggX4_save_X4_wholes : GoodIn wsX4_save wsX4_wholes := goodIn_r _ [11, 12, 13, 14, 6, 15, 16, 17, 18, 19, 3, 20, 21, 22, 23, 24, 25, 26, 27, 28, 29, 30, 31, 32, 33, 34, 35, 36, 37, 38, 39, 40, 41, 42, 43, 44, 45, 46, 47] (by decide +kernel) (by decide +kernel)
set_option maxRecDepth 20000 in
theorem gX4_save_X4_wholes : GoodIn wsX4_save (wsV RX4 53 RX4 yX4_wholes wsX4_wholes) := goodIn_app (goodIn_of _ (by decide +kernel)) ggX4_save_X4_wholes
theorem dX4_save_0 : decode cX4_save 0 = .ok (.iload_n 1, 1) := by decide +kernel
theorem dX4_save_1 : decode cX4_save 1 = .ok (.iconst 0, 1) := by decide +kernel
theorem dX4_save_2 : decode cX4_save 2 = .ok (.iconst 1, 1) := by decide +kernel
theorem dX4_save_3 : decode cX4_save 3 = .ok (.invokestatic 33, 3) := by decide +kernel
theorem dX4_save_6 : decode cX4_save 6 = .ok (.ifCond .ne 6, 3) := by decide +kernel
theorem dX4_save_9 : decode cX4_save 9 = .ok (.bipush (-2), 2) := by decide +kernel
theorem dX4_save_11 : decode cX4_save 11 = .ok (.ireturn, 1) := by decide +kernel
theorem dX4_save_12 : decode cX4_save 12 = .ok (.aload_n 0, 1) := by decide +kernel
theorem dX4_save_13 : decode cX4_save 13 = .ok (.getfield 19, 3) := by decide +kernel
theorem dX4_save_16 : decode cX4_save 16 = .ok (.iload_n 1, 1) := by decide +kernel
theorem dX4_save_17 : decode cX4_save 17 = .ok (.iconst 1, 1) := by decide +kernel
theorem dX4_save_18 : decode cX4_save 18 = .ok (.bastore, 1) := by decide +kernel
theorem dX4_save_19 : decode cX4_save 19 = .ok (.iconst 0, 1) := by decide +kernel
theorem dX4_save_20 : decode cX4_save 20 = .ok (.istore_n 2, 1) := by decide +kernel
theorem dX4_save_21 : decode cX4_save 21 = .ok (.iload_n 2, 1) := by decide +kernel
theorem dX4_save_22 : decode cX4_save 22 = .ok (.sipush 367, 3) := by decide +kernel
theorem dX4_save_25 : decode cX4_save 25 = .ok (.if_icmp .ge 27, 3) := by decide +kernel
theorem dX4_save_28 : decode cX4_save 28 = .ok (.aload_n 0, 1) := by decide +kernel
theorem dX4_save_29 : decode cX4_save 29 = .ok (.getfield 16, 3) := by decide +kernel
theorem dX4_save_32 : decode cX4_save 32 = .ok (.iload_n 1, 1) := by decide +kernel
theorem dX4_save_33 : decode cX4_save 33 = .ok (.sipush 367, 3) := by decide +kernel
theorem dX4_save_36 : decode cX4_save 36 = .ok (.imul, 1) := by decide +kernel
theorem dX4_save_37 : decode cX4_save 37 = .ok (.iload_n 2, 1) := by decide +kernel
theorem dX4_save_38 : decode cX4_save 38 = .ok (.iadd, 1) := by decide +kernel
theorem dX4_save_39 : decode cX4_save 39 = .ok (.aload_n 0, 1) := by decide +kernel
theorem dX4_save_40 : decode cX4_save 40 = .ok (.getfield 7, 3) := by decide +kernel
theorem dX4_save_43 : decode cX4_save 43 = .ok (.iload_n 2, 1) := by decide +kernel
theorem dX4_save_44 : decode cX4_save 44 = .ok (.iaload, 1) := by decide +kernel
theorem dX4_save_45 : decode cX4_save 45 = .ok (.iastore, 1) := by decide +kernel
theorem dX4_save_46 : decode cX4_save 46 = .ok (.iinc 2 1, 3) := by decide +kernel
theorem dX4_save_49 : decode cX4_save 49 = .ok (.goto (-28), 3) := by decide +kernel
theorem dX4_save_52 : decode cX4_save 52 = .ok (.aload_n 0, 1) := by decide +kernel
theorem dX4_save_53 : decode cX4_save 53 = .ok (.invokevirtual 53, 3) := by decide +kernel
theorem dX4_save_56 : decode cX4_save 56 = .ok (.ireturn, 1) := by decide +kernel
set_option maxRecDepth 20000 in
theorem ggX4_restore_X4_in : GoodIn wsX4_restore wsX4_in := goodIn_r _ [7] (by decide +kernel) (by decide +kernel)
set_option maxRecDepth 20000 in
theorem gX4_restore_X4_in : GoodIn wsX4_restore (va_wsS RX4 33 yX4_in wsX4_in) := goodIn_app (goodIn_of _ (by decide +kernel)) ggX4_restore_X4_in
set_option maxRecDepth 20000 in
theorem ggX4_restore_X4_record : GoodIn wsX4_restore wsX4_record := goodIn_r _ [11, 12, 13, 2, 42, 43, 44, 45, 46, 47, 48, 49, 50, 51, 52, 53] (by decide +kernel) (by decide +kernel)
set_option maxRecDepth 20000 in
theorem gX4_restore_X4_record : GoodIn wsX4_restore (wsV RX4 57 RX4 yX4_record wsX4_record) := goodIn_app (goodIn_of _ (by decide +kernel)) ggX4_restore_X4_record
set_option maxRecDepth 20000 in
theorem ggX4_restore_X4_wholes : GoodIn wsX4_restore wsX4_wholes := goodIn_r _ [17, 18, 19, 20, 6, 21, 22, 23, 24, 25, 2, 26, 27, 28, 29, 30, 31, 32, 33, 34, 35, 36, 37, 38, 39, 40, 41, 42, 43, 44, 45, 46, 47, 48, 49, 50, 51, 52, 53] (by decide +kernel) (by decide +kernel)
set_option maxRecDepth 20000 in
theorem gX4_restore_X4_wholes : GoodIn wsX4_restore (wsV RX4 53 RX4 yX4_wholes wsX4_wholes) := goodIn_app (goodIn_of _ (by decide +kernel)) ggX4_restore_X4_wholes
theorem dX4_restore_0 : decode cX4_restore 0 = .ok (.iload_n 1, 1) := by decide +kernel
theorem dX4_restore_1 : decode cX4_restore 1 = .ok (.iconst 0, 1) := by decide +kernel
theorem dX4_restore_2 : decode cX4_restore 2 = .ok (.iconst 1, 1) := by decide +kernel
theorem dX4_restore_3 : decode cX4_restore 3 = .ok (.invokestatic 33, 3) := by decide +kernel
theorem dX4_restore_6 : decode cX4_restore 6 = .ok (.ifCond .ne 6, 3) := by decide +kernel
theorem dX4_restore_9 : decode cX4_restore 9 = .ok (.bipush (-2), 2) := by decide +kernel
theorem dX4_restore_11 : decode cX4_restore 11 = .ok (.ireturn, 1) := by decide +kernel
theorem dX4_restore_12 : decode cX4_restore 12 = .ok (.aload_n 0, 1) := by decide +kernel
theorem dX4_restore_13 : decode cX4_restore 13 = .ok (.getfield 19, 3) := by decide +kernel
theorem dX4_restore_16 : decode cX4_restore 16 = .ok (.iload_n 1, 1) := by decide +kernel
theorem dX4_restore_17 : decode cX4_restore 17 = .ok (.baload, 1) := by decide +kernel
theorem dX4_restore_18 : decode cX4_restore 18 = .ok (.ifCond .ne 6, 3) := by decide +kernel
theorem dX4_restore_21 : decode cX4_restore 21 = .ok (.bipush (-5), 2) := by decide +kernel
theorem dX4_restore_23 : decode cX4_restore 23 = .ok (.ireturn, 1) := by decide +kernel
theorem dX4_restore_24 : decode cX4_restore 24 = .ok (.aload_n 0, 1) := by decide +kernel
theorem dX4_restore_25 : decode cX4_restore 25 = .ok (.invokevirtual 57, 3) := by decide +kernel
theorem dX4_restore_28 : decode cX4_restore 28 = .ok (.iconst 0, 1) := by decide +kernel
theorem dX4_restore_29 : decode cX4_restore 29 = .ok (.istore_n 2, 1) := by decide +kernel
theorem dX4_restore_30 : decode cX4_restore 30 = .ok (.iload_n 2, 1) := by decide +kernel
theorem dX4_restore_31 : decode cX4_restore 31 = .ok (.sipush 367, 3) := by decide +kernel
theorem dX4_restore_34 : decode cX4_restore 34 = .ok (.if_icmp .ge 27, 3) := by decide +kernel
theorem dX4_restore_37 : decode cX4_restore 37 = .ok (.aload_n 0, 1) := by decide +kernel
theorem dX4_restore_38 : decode cX4_restore 38 = .ok (.getfield 7, 3) := by decide +kernel
theorem dX4_restore_41 : decode cX4_restore 41 = .ok (.iload_n 2, 1) := by decide +kernel
theorem dX4_restore_42 : decode cX4_restore 42 = .ok (.aload_n 0, 1) := by decide +kernel
theorem dX4_restore_43 : decode cX4_restore 43 = .ok (.getfield 16, 3) := by decide +kernel
theorem dX4_restore_46 : decode cX4_restore 46 = .ok (.iload_n 1, 1) := by decide +kernel
theorem dX4_restore_47 : decode cX4_restore 47 = .ok (.sipush 367, 3) := by decide +kernel
theorem dX4_restore_50 : decode cX4_restore 50 = .ok (.imul, 1) := by decide +kernel
theorem dX4_restore_51 : decode cX4_restore 51 = .ok (.iload_n 2, 1) := by decide +kernel
theorem dX4_restore_52 : decode cX4_restore 52 = .ok (.iadd, 1) := by decide +kernel
theorem dX4_restore_53 : decode cX4_restore 53 = .ok (.iaload, 1) := by decide +kernel
theorem dX4_restore_54 : decode cX4_restore 54 = .ok (.iastore, 1) := by decide +kernel
theorem dX4_restore_55 : decode cX4_restore 55 = .ok (.iinc 2 1, 3) := by decide +kernel
theorem dX4_restore_58 : decode cX4_restore 58 = .ok (.goto (-28), 3) := by decide +kernel
theorem dX4_restore_61 : decode cX4_restore 61 = .ok (.aload_n 0, 1) := by decide +kernel
theorem dX4_restore_62 : decode cX4_restore 62 = .ok (.invokevirtual 53, 3) := by decide +kernel
theorem dX4_restore_65 : decode cX4_restore 65 = .ok (.ireturn, 1) := by decide +kernel
set_option maxRecDepth 20000 in
theorem ggX4_trim_X4_many : GoodIn wsX4_trim wsX4_many := goodIn_r _ [5, 6, 7, 8, 4, 9, 10, 23, 24, 25, 26, 27, 28, 29, 30, 31, 32, 33, 34] (by decide +kernel) (by decide +kernel)
set_option maxRecDepth 20000 in
theorem gX4_trim_X4_many : GoodIn wsX4_trim (wsV RX4 60 RX4 yX4_many wsX4_many) := goodIn_app (goodIn_of _ (by decide +kernel)) ggX4_trim_X4_many
set_option maxRecDepth 20000 in
theorem ggX4_trim_X4_isHole : GoodIn wsX4_trim wsX4_isHole := goodIn_r _ [14, 15, 16, 17, 4, 18, 6, 7, 8, 9, 10, 23, 24, 25, 26, 27, 28, 29, 30, 31, 32, 33, 34] (by decide +kernel) (by decide +kernel)
set_option maxRecDepth 20000 in
theorem gX4_trim_X4_isHole : GoodIn wsX4_trim (wsV RX4 64 RX4 yX4_isHole wsX4_isHole) := goodIn_app (goodIn_of _ (by decide +kernel)) ggX4_trim_X4_isHole
set_option maxRecDepth 20000 in
theorem ggX4_trim_X4_lay : GoodIn wsX4_trim wsX4_lay := goodIn_r _ [22, 10, 23, 24, 25, 26, 27, 28, 29, 30, 31, 32, 33, 34] (by decide +kernel) (by decide +kernel)
set_option maxRecDepth 20000 in
theorem gX4_trim_X4_lay : GoodIn wsX4_trim (wsV RX4 41 RX4 yX4_lay wsX4_lay) := goodIn_app (goodIn_of _ (by decide +kernel)) ggX4_trim_X4_lay
theorem dX4_trim_0 : decode cX4_trim 0 = .ok (.aload_n 0, 1) := by decide +kernel
theorem dX4_trim_1 : decode cX4_trim 1 = .ok (.iload_n 1, 1) := by decide +kernel
theorem dX4_trim_2 : decode cX4_trim 2 = .ok (.invokevirtual 60, 3) := by decide +kernel
theorem dX4_trim_5 : decode cX4_trim 5 = .ok (.ifCond .le 34, 3) := by decide +kernel
theorem dX4_trim_8 : decode cX4_trim 8 = .ok (.aload_n 0, 1) := by decide +kernel
theorem dX4_trim_9 : decode cX4_trim 9 = .ok (.iload_n 1, 1) := by decide +kernel
theorem dX4_trim_10 : decode cX4_trim 10 = .ok (.aload_n 0, 1) := by decide +kernel
theorem dX4_trim_11 : decode cX4_trim 11 = .ok (.iload_n 1, 1) := by decide +kernel
theorem dX4_trim_12 : decode cX4_trim 12 = .ok (.invokevirtual 60, 3) := by decide +kernel
theorem dX4_trim_15 : decode cX4_trim 15 = .ok (.iconst 1, 1) := by decide +kernel
theorem dX4_trim_16 : decode cX4_trim 16 = .ok (.isub, 1) := by decide +kernel
theorem dX4_trim_17 : decode cX4_trim 17 = .ok (.invokevirtual 64, 3) := by decide +kernel
theorem dX4_trim_20 : decode cX4_trim 20 = .ok (.ifCond .eq 19, 3) := by decide +kernel
theorem dX4_trim_23 : decode cX4_trim 23 = .ok (.aload_n 0, 1) := by decide +kernel
theorem dX4_trim_24 : decode cX4_trim 24 = .ok (.iload_n 1, 1) := by decide +kernel
theorem dX4_trim_25 : decode cX4_trim 25 = .ok (.iconst 1, 1) := by decide +kernel
theorem dX4_trim_26 : decode cX4_trim 26 = .ok (.aload_n 0, 1) := by decide +kernel
theorem dX4_trim_27 : decode cX4_trim 27 = .ok (.iload_n 1, 1) := by decide +kernel
theorem dX4_trim_28 : decode cX4_trim 28 = .ok (.invokevirtual 60, 3) := by decide +kernel
theorem dX4_trim_31 : decode cX4_trim 31 = .ok (.iconst 1, 1) := by decide +kernel
theorem dX4_trim_32 : decode cX4_trim 32 = .ok (.isub, 1) := by decide +kernel
theorem dX4_trim_33 : decode cX4_trim 33 = .ok (.invokevirtual 41, 3) := by decide +kernel
theorem dX4_trim_36 : decode cX4_trim 36 = .ok (.goto (-36), 3) := by decide +kernel
theorem dX4_trim_39 : decode cX4_trim 39 = .ok (.return_, 1) := by decide +kernel
set_option maxRecDepth 20000 in
theorem ggX4_roll_X4_many : GoodIn wsX4_roll wsX4_many := goodIn_r _ [5, 6, 7, 8, 4, 9, 10, 27, 28, 29, 30, 31, 32, 33, 34, 35, 36, 37, 38] (by decide +kernel) (by decide +kernel)
set_option maxRecDepth 20000 in
theorem gX4_roll_X4_many : GoodIn wsX4_roll (wsV RX4 60 RX4 yX4_many wsX4_many) := goodIn_app (goodIn_of _ (by decide +kernel)) ggX4_roll_X4_many
set_option maxRecDepth 20000 in
theorem ggX4_roll_X4_of : GoodIn wsX4_roll wsX4_of := goodIn_r _ [9, 10, 27, 28, 29, 30, 31, 32, 33, 34, 35, 36, 37, 38] (by decide +kernel) (by decide +kernel)
set_option maxRecDepth 20000 in
theorem gX4_roll_X4_of : GoodIn wsX4_roll (wsV RX4 37 RX4 yX4_of wsX4_of) := goodIn_app (goodIn_of _ (by decide +kernel)) ggX4_roll_X4_of
set_option maxRecDepth 20000 in
theorem ggX4_roll_X4_isHole : GoodIn wsX4_roll wsX4_isHole := goodIn_r _ [14, 15, 16, 17, 4, 18, 6, 7, 8, 9, 10, 27, 28, 29, 30, 31, 32, 33, 34, 35, 36, 37, 38] (by decide +kernel) (by decide +kernel)
set_option maxRecDepth 20000 in
theorem gX4_roll_X4_isHole : GoodIn wsX4_roll (wsV RX4 64 RX4 yX4_isHole wsX4_isHole) := goodIn_app (goodIn_of _ (by decide +kernel)) ggX4_roll_X4_isHole
set_option maxRecDepth 20000 in
theorem ggX4_roll_X4_lay : GoodIn wsX4_roll wsX4_lay := goodIn_r _ [22, 10, 27, 28, 29, 30, 31, 32, 33, 34, 35, 36, 37, 38] (by decide +kernel) (by decide +kernel)
set_option maxRecDepth 20000 in
theorem gX4_roll_X4_lay : GoodIn wsX4_roll (wsV RX4 41 RX4 yX4_lay wsX4_lay) := goodIn_app (goodIn_of _ (by decide +kernel)) ggX4_roll_X4_lay
set_option maxRecDepth 20000 in
theorem ggX4_roll_X4_trim : GoodIn wsX4_roll wsX4_trim := goodIn_r _ [26, 1, 2, 3, 4, 5, 6, 7, 8, 9, 10, 11, 12, 13, 14, 15, 16, 17, 18, 19, 20, 21, 22, 27, 28, 29, 30, 31, 32, 33, 34, 35, 36, 37, 38] (by decide +kernel) (by decide +kernel)
set_option maxRecDepth 20000 in
theorem gX4_roll_X4_trim : GoodIn wsX4_roll (wsV RX4 68 RX4 yX4_trim wsX4_trim) := goodIn_app (goodIn_of _ (by decide +kernel)) ggX4_roll_X4_trim
theorem dX4_roll_0 : decode cX4_roll 0 = .ok (.aload_n 0, 1) := by decide +kernel
theorem dX4_roll_1 : decode cX4_roll 1 = .ok (.iload_n 1, 1) := by decide +kernel
theorem dX4_roll_2 : decode cX4_roll 2 = .ok (.invokevirtual 60, 3) := by decide +kernel
theorem dX4_roll_5 : decode cX4_roll 5 = .ok (.aload_n 0, 1) := by decide +kernel
theorem dX4_roll_6 : decode cX4_roll 6 = .ok (.iload_n 1, 1) := by decide +kernel
theorem dX4_roll_7 : decode cX4_roll 7 = .ok (.iconst 0, 1) := by decide +kernel
theorem dX4_roll_8 : decode cX4_roll 8 = .ok (.invokevirtual 37, 3) := by decide +kernel
theorem dX4_roll_11 : decode cX4_roll 11 = .ok (.if_icmp .le 52, 3) := by decide +kernel
theorem dX4_roll_14 : decode cX4_roll 14 = .ok (.aload_n 0, 1) := by decide +kernel
theorem dX4_roll_15 : decode cX4_roll 15 = .ok (.iload_n 1, 1) := by decide +kernel
theorem dX4_roll_16 : decode cX4_roll 16 = .ok (.iconst 3, 1) := by decide +kernel
theorem dX4_roll_17 : decode cX4_roll 17 = .ok (.aload_n 0, 1) := by decide +kernel
theorem dX4_roll_18 : decode cX4_roll 18 = .ok (.iload_n 1, 1) := by decide +kernel
theorem dX4_roll_19 : decode cX4_roll 19 = .ok (.iconst 3, 1) := by decide +kernel
theorem dX4_roll_20 : decode cX4_roll 20 = .ok (.invokevirtual 37, 3) := by decide +kernel
theorem dX4_roll_23 : decode cX4_roll 23 = .ok (.aload_n 0, 1) := by decide +kernel
theorem dX4_roll_24 : decode cX4_roll 24 = .ok (.iload_n 1, 1) := by decide +kernel
theorem dX4_roll_25 : decode cX4_roll 25 = .ok (.aload_n 0, 1) := by decide +kernel
theorem dX4_roll_26 : decode cX4_roll 26 = .ok (.iload_n 1, 1) := by decide +kernel
theorem dX4_roll_27 : decode cX4_roll 27 = .ok (.invokevirtual 60, 3) := by decide +kernel
theorem dX4_roll_30 : decode cX4_roll 30 = .ok (.iconst 1, 1) := by decide +kernel
theorem dX4_roll_31 : decode cX4_roll 31 = .ok (.isub, 1) := by decide +kernel
theorem dX4_roll_32 : decode cX4_roll 32 = .ok (.invokevirtual 64, 3) := by decide +kernel
theorem dX4_roll_35 : decode cX4_roll 35 = .ok (.ifCond .eq 7, 3) := by decide +kernel
theorem dX4_roll_38 : decode cX4_roll 38 = .ok (.iconst 0, 1) := by decide +kernel
theorem dX4_roll_39 : decode cX4_roll 39 = .ok (.goto 4, 3) := by decide +kernel
theorem dX4_roll_42 : decode cX4_roll 42 = .ok (.iconst 1, 1) := by decide +kernel
theorem dX4_roll_43 : decode cX4_roll 43 = .ok (.iadd, 1) := by decide +kernel
theorem dX4_roll_44 : decode cX4_roll 44 = .ok (.invokevirtual 41, 3) := by decide +kernel
theorem dX4_roll_47 : decode cX4_roll 47 = .ok (.aload_n 0, 1) := by decide +kernel
theorem dX4_roll_48 : decode cX4_roll 48 = .ok (.iload_n 1, 1) := by decide +kernel
theorem dX4_roll_49 : decode cX4_roll 49 = .ok (.iconst 1, 1) := by decide +kernel
theorem dX4_roll_50 : decode cX4_roll 50 = .ok (.aload_n 0, 1) := by decide +kernel
theorem dX4_roll_51 : decode cX4_roll 51 = .ok (.iload_n 1, 1) := by decide +kernel
theorem dX4_roll_52 : decode cX4_roll 52 = .ok (.invokevirtual 60, 3) := by decide +kernel
theorem dX4_roll_55 : decode cX4_roll 55 = .ok (.iconst 1, 1) := by decide +kernel
theorem dX4_roll_56 : decode cX4_roll 56 = .ok (.isub, 1) := by decide +kernel
theorem dX4_roll_57 : decode cX4_roll 57 = .ok (.invokevirtual 41, 3) := by decide +kernel
theorem dX4_roll_60 : decode cX4_roll 60 = .ok (.goto (-60), 3) := by decide +kernel
theorem dX4_roll_63 : decode cX4_roll 63 = .ok (.aload_n 0, 1) := by decide +kernel
theorem dX4_roll_64 : decode cX4_roll 64 = .ok (.iload_n 1, 1) := by decide +kernel
theorem dX4_roll_65 : decode cX4_roll 65 = .ok (.invokevirtual 68, 3) := by decide +kernel
theorem dX4_roll_68 : decode cX4_roll 68 = .ok (.return_, 1) := by decide +kernel
theorem dX4_numberBehind_0 : decode cX4_numberBehind 0 = .ok (.iload_n 0, 1) := by decide +kernel
theorem dX4_numberBehind_1 : decode cX4_numberBehind 1 = .ok (.bipush 99, 2) := by decide +kernel
theorem dX4_numberBehind_3 : decode cX4_numberBehind 3 = .ok (.irem, 1) := by decide +kernel
theorem dX4_numberBehind_4 : decode cX4_numberBehind 4 = .ok (.iconst 1, 1) := by decide +kernel
theorem dX4_numberBehind_5 : decode cX4_numberBehind 5 = .ok (.iadd, 1) := by decide +kernel
theorem dX4_numberBehind_6 : decode cX4_numberBehind 6 = .ok (.ireturn, 1) := by decide +kernel
set_option maxRecDepth 20000 in
theorem ggX4_make_X4_many : GoodIn wsX4_make wsX4_many := goodIn_r _ [6, 7, 8, 9, 5, 10, 1, 42, 43, 44, 45, 46, 47, 48, 49, 50, 51, 52, 53] (by decide +kernel) (by decide +kernel)
set_option maxRecDepth 20000 in
theorem gX4_make_X4_many : GoodIn wsX4_make (wsV RX4 60 RX4 yX4_many wsX4_many) := goodIn_app (goodIn_of _ (by decide +kernel)) ggX4_make_X4_many
set_option maxRecDepth 20000 in
theorem ggX4_make_X4_gen : GoodIn wsX4_make wsX4_gen := goodIn_r _ [14, 7, 8, 9, 5, 10, 1, 42, 43, 44, 45, 46, 47, 48, 49, 50, 51, 52, 53] (by decide +kernel) (by decide +kernel)
set_option maxRecDepth 20000 in
theorem gX4_make_X4_gen : GoodIn wsX4_make (wsV RX4 45 RX4 yX4_gen wsX4_gen) := goodIn_app (goodIn_of _ (by decide +kernel)) ggX4_make_X4_gen
set_option maxRecDepth 20000 in
theorem ggX4_make_X4_layGen : GoodIn wsX4_make wsX4_layGen := goodIn_r _ [18, 19, 20, 21, 5, 22, 1, 42, 43, 44, 45, 46, 47, 48, 49, 50, 51, 52, 53] (by decide +kernel) (by decide +kernel)
set_option maxRecDepth 20000 in
theorem gX4_make_X4_layGen : GoodIn wsX4_make (wsV RX4 72 RX4 yX4_layGen wsX4_layGen) := goodIn_app (goodIn_of _ (by decide +kernel)) ggX4_make_X4_layGen
set_option maxRecDepth 20000 in
theorem ggX4_make_X4_of : GoodIn wsX4_make wsX4_of := goodIn_r _ [10, 1, 42, 43, 44, 45, 46, 47, 48, 49, 50, 51, 52, 53] (by decide +kernel) (by decide +kernel)
set_option maxRecDepth 20000 in
theorem gX4_make_X4_of : GoodIn wsX4_make (wsV RX4 37 RX4 yX4_of wsX4_of) := goodIn_app (goodIn_of _ (by decide +kernel)) ggX4_make_X4_of
set_option maxRecDepth 20000 in
theorem ggX4_make_X4_numberBehind : GoodIn wsX4_make wsX4_numberBehind := goodIn_r _ [25] (by decide +kernel) (by decide +kernel)
set_option maxRecDepth 20000 in
theorem gX4_make_X4_numberBehind : GoodIn wsX4_make (va_wsS RX4 76 yX4_numberBehind wsX4_numberBehind) := goodIn_app (goodIn_of _ (by decide +kernel)) ggX4_make_X4_numberBehind
set_option maxRecDepth 20000 in
theorem ggX4_make_X4_lay : GoodIn wsX4_make wsX4_lay := goodIn_r _ [22, 1, 42, 43, 44, 45, 46, 47, 48, 49, 50, 51, 52, 53] (by decide +kernel) (by decide +kernel)
set_option maxRecDepth 20000 in
theorem gX4_make_X4_lay : GoodIn wsX4_make (wsV RX4 41 RX4 yX4_lay wsX4_lay) := goodIn_app (goodIn_of _ (by decide +kernel)) ggX4_make_X4_lay
set_option maxRecDepth 20000 in
theorem ggX4_make_X4_runs : GoodIn wsX4_make wsX4_runs := goodIn_r _ [29, 1, 42, 43, 44, 45, 46, 47, 48, 49, 50, 51, 52, 53] (by decide +kernel) (by decide +kernel)
set_option maxRecDepth 20000 in
theorem gX4_make_X4_runs : GoodIn wsX4_make (wsV RX4 79 RX4 yX4_runs wsX4_runs) := goodIn_app (goodIn_of _ (by decide +kernel)) ggX4_make_X4_runs
set_option maxRecDepth 20000 in
theorem ggX4_make_X4_roll : GoodIn wsX4_make wsX4_roll := goodIn_r _ [33, 2, 3, 4, 5, 6, 7, 8, 9, 10, 1, 34, 35, 36, 37, 11, 12, 13, 14, 19, 20, 21, 22, 38, 39, 40, 41, 42, 43, 44, 45, 46, 47, 48, 49, 50, 51, 52, 53] (by decide +kernel) (by decide +kernel)
set_option maxRecDepth 20000 in
theorem gX4_make_X4_roll : GoodIn wsX4_make (wsV RX4 83 RX4 yX4_roll wsX4_roll) := goodIn_app (goodIn_of _ (by decide +kernel)) ggX4_make_X4_roll
theorem dX4_make_0 : decode cX4_make 0 = .ok (.aload_n 0, 1) := by decide +kernel
theorem dX4_make_1 : decode cX4_make 1 = .ok (.iload_n 1, 1) := by decide +kernel
theorem dX4_make_2 : decode cX4_make 2 = .ok (.invokevirtual 60, 3) := by decide +kernel
theorem dX4_make_5 : decode cX4_make 5 = .ok (.istore_n 3, 1) := by decide +kernel
theorem dX4_make_6 : decode cX4_make 6 = .ok (.iload_n 3, 1) := by decide +kernel
theorem dX4_make_7 : decode cX4_make 7 = .ok (.ifCond .le 42, 3) := by decide +kernel
theorem dX4_make_10 : decode cX4_make 10 = .ok (.iconst 0, 1) := by decide +kernel
theorem dX4_make_11 : decode cX4_make 11 = .ok (.istore 4, 2) := by decide +kernel
theorem dX4_make_13 : decode cX4_make 13 = .ok (.iload 4, 2) := by decide +kernel
theorem dX4_make_15 : decode cX4_make 15 = .ok (.iconst 5, 1) := by decide +kernel
theorem dX4_make_16 : decode cX4_make 16 = .ok (.if_icmp .ge 27, 3) := by decide +kernel
theorem dX4_make_19 : decode cX4_make 19 = .ok (.aload_n 0, 1) := by decide +kernel
theorem dX4_make_20 : decode cX4_make 20 = .ok (.iload_n 1, 1) := by decide +kernel
theorem dX4_make_21 : decode cX4_make 21 = .ok (.iload_n 3, 1) := by decide +kernel
theorem dX4_make_22 : decode cX4_make 22 = .ok (.iload 4, 2) := by decide +kernel
theorem dX4_make_24 : decode cX4_make 24 = .ok (.aload_n 0, 1) := by decide +kernel
theorem dX4_make_25 : decode cX4_make 25 = .ok (.iload_n 1, 1) := by decide +kernel
theorem dX4_make_26 : decode cX4_make 26 = .ok (.iload_n 3, 1) := by decide +kernel
theorem dX4_make_27 : decode cX4_make 27 = .ok (.iconst 1, 1) := by decide +kernel
theorem dX4_make_28 : decode cX4_make 28 = .ok (.isub, 1) := by decide +kernel
theorem dX4_make_29 : decode cX4_make 29 = .ok (.iload 4, 2) := by decide +kernel
theorem dX4_make_31 : decode cX4_make 31 = .ok (.invokevirtual 45, 3) := by decide +kernel
theorem dX4_make_34 : decode cX4_make 34 = .ok (.invokevirtual 72, 3) := by decide +kernel
theorem dX4_make_37 : decode cX4_make 37 = .ok (.iinc 4 1, 3) := by decide +kernel
theorem dX4_make_40 : decode cX4_make 40 = .ok (.goto (-27), 3) := by decide +kernel
theorem dX4_make_43 : decode cX4_make 43 = .ok (.iinc 3 (-1), 3) := by decide +kernel
theorem dX4_make_46 : decode cX4_make 46 = .ok (.goto (-40), 3) := by decide +kernel
theorem dX4_make_49 : decode cX4_make 49 = .ok (.aload_n 0, 1) := by decide +kernel
theorem dX4_make_50 : decode cX4_make 50 = .ok (.getfield 7, 3) := by decide +kernel
theorem dX4_make_53 : decode cX4_make 53 = .ok (.bipush 6, 2) := by decide +kernel
theorem dX4_make_55 : decode cX4_make 55 = .ok (.dup2, 1) := by decide +kernel
theorem dX4_make_56 : decode cX4_make 56 = .ok (.iaload, 1) := by decide +kernel
theorem dX4_make_57 : decode cX4_make 57 = .ok (.iconst 1, 1) := by decide +kernel
theorem dX4_make_58 : decode cX4_make 58 = .ok (.iadd, 1) := by decide +kernel
theorem dX4_make_59 : decode cX4_make 59 = .ok (.iastore, 1) := by decide +kernel
theorem dX4_make_60 : decode cX4_make 60 = .ok (.aload_n 0, 1) := by decide +kernel
theorem dX4_make_61 : decode cX4_make 61 = .ok (.iload_n 1, 1) := by decide +kernel
theorem dX4_make_62 : decode cX4_make 62 = .ok (.iconst 2, 1) := by decide +kernel
theorem dX4_make_63 : decode cX4_make 63 = .ok (.aload_n 0, 1) := by decide +kernel
theorem dX4_make_64 : decode cX4_make 64 = .ok (.iload_n 1, 1) := by decide +kernel
theorem dX4_make_65 : decode cX4_make 65 = .ok (.iconst 2, 1) := by decide +kernel
theorem dX4_make_66 : decode cX4_make 66 = .ok (.invokevirtual 37, 3) := by decide +kernel
theorem dX4_make_69 : decode cX4_make 69 = .ok (.invokestatic 76, 3) := by decide +kernel
theorem dX4_make_72 : decode cX4_make 72 = .ok (.invokevirtual 41, 3) := by decide +kernel
theorem dX4_make_75 : decode cX4_make 75 = .ok (.aload_n 0, 1) := by decide +kernel
theorem dX4_make_76 : decode cX4_make 76 = .ok (.iload_n 1, 1) := by decide +kernel
theorem dX4_make_77 : decode cX4_make 77 = .ok (.iconst 0, 1) := by decide +kernel
theorem dX4_make_78 : decode cX4_make 78 = .ok (.iconst 0, 1) := by decide +kernel
theorem dX4_make_79 : decode cX4_make 79 = .ok (.aload_n 0, 1) := by decide +kernel
theorem dX4_make_80 : decode cX4_make 80 = .ok (.getfield 7, 3) := by decide +kernel
theorem dX4_make_83 : decode cX4_make 83 = .ok (.bipush 6, 2) := by decide +kernel
theorem dX4_make_85 : decode cX4_make 85 = .ok (.iaload, 1) := by decide +kernel
theorem dX4_make_86 : decode cX4_make 86 = .ok (.invokevirtual 72, 3) := by decide +kernel
theorem dX4_make_89 : decode cX4_make 89 = .ok (.aload_n 0, 1) := by decide +kernel
theorem dX4_make_90 : decode cX4_make 90 = .ok (.iload_n 1, 1) := by decide +kernel
theorem dX4_make_91 : decode cX4_make 91 = .ok (.iconst 0, 1) := by decide +kernel
theorem dX4_make_92 : decode cX4_make 92 = .ok (.iconst 1, 1) := by decide +kernel
theorem dX4_make_93 : decode cX4_make 93 = .ok (.aload_n 0, 1) := by decide +kernel
theorem dX4_make_94 : decode cX4_make 94 = .ok (.iload_n 1, 1) := by decide +kernel
theorem dX4_make_95 : decode cX4_make 95 = .ok (.iconst 2, 1) := by decide +kernel
theorem dX4_make_96 : decode cX4_make 96 = .ok (.invokevirtual 37, 3) := by decide +kernel
theorem dX4_make_99 : decode cX4_make 99 = .ok (.invokevirtual 72, 3) := by decide +kernel
theorem dX4_make_102 : decode cX4_make 102 = .ok (.aload_n 0, 1) := by decide +kernel
theorem dX4_make_103 : decode cX4_make 103 = .ok (.iload_n 1, 1) := by decide +kernel
theorem dX4_make_104 : decode cX4_make 104 = .ok (.iconst 0, 1) := by decide +kernel
theorem dX4_make_105 : decode cX4_make 105 = .ok (.iconst 2, 1) := by decide +kernel
theorem dX4_make_106 : decode cX4_make 106 = .ok (.iload_n 2, 1) := by decide +kernel
theorem dX4_make_107 : decode cX4_make 107 = .ok (.invokevirtual 72, 3) := by decide +kernel
theorem dX4_make_110 : decode cX4_make 110 = .ok (.aload_n 0, 1) := by decide +kernel
theorem dX4_make_111 : decode cX4_make 111 = .ok (.iload_n 1, 1) := by decide +kernel
theorem dX4_make_112 : decode cX4_make 112 = .ok (.iconst 0, 1) := by decide +kernel
theorem dX4_make_113 : decode cX4_make 113 = .ok (.iconst 3, 1) := by decide +kernel
theorem dX4_make_114 : decode cX4_make 114 = .ok (.iconst 0, 1) := by decide +kernel
theorem dX4_make_115 : decode cX4_make 115 = .ok (.invokevirtual 72, 3) := by decide +kernel
theorem dX4_make_118 : decode cX4_make 118 = .ok (.aload_n 0, 1) := by decide +kernel
theorem dX4_make_119 : decode cX4_make 119 = .ok (.iload_n 1, 1) := by decide +kernel
theorem dX4_make_120 : decode cX4_make 120 = .ok (.iconst 0, 1) := by decide +kernel
theorem dX4_make_121 : decode cX4_make 121 = .ok (.iconst 4, 1) := by decide +kernel
theorem dX4_make_122 : decode cX4_make 122 = .ok (.aload_n 0, 1) := by decide +kernel
theorem dX4_make_123 : decode cX4_make 123 = .ok (.invokevirtual 79, 3) := by decide +kernel
theorem dX4_make_126 : decode cX4_make 126 = .ok (.ifCond .eq 12, 3) := by decide +kernel
theorem dX4_make_129 : decode cX4_make 129 = .ok (.aload_n 0, 1) := by decide +kernel
theorem dX4_make_130 : decode cX4_make 130 = .ok (.getfield 7, 3) := by decide +kernel
theorem dX4_make_133 : decode cX4_make 133 = .ok (.iconst 0, 1) := by decide +kernel
theorem dX4_make_134 : decode cX4_make 134 = .ok (.iaload, 1) := by decide +kernel
theorem dX4_make_135 : decode cX4_make 135 = .ok (.goto 4, 3) := by decide +kernel
theorem dX4_make_138 : decode cX4_make 138 = .ok (.iconst 0, 1) := by decide +kernel
theorem dX4_make_139 : decode cX4_make 139 = .ok (.invokevirtual 72, 3) := by decide +kernel
theorem dX4_make_142 : decode cX4_make 142 = .ok (.aload_n 0, 1) := by decide +kernel
theorem dX4_make_143 : decode cX4_make 143 = .ok (.iload_n 1, 1) := by decide +kernel
theorem dX4_make_144 : decode cX4_make 144 = .ok (.iconst 1, 1) := by decide +kernel
theorem dX4_make_145 : decode cX4_make 145 = .ok (.aload_n 0, 1) := by decide +kernel
theorem dX4_make_146 : decode cX4_make 146 = .ok (.iload_n 1, 1) := by decide +kernel
theorem dX4_make_147 : decode cX4_make 147 = .ok (.invokevirtual 60, 3) := by decide +kernel
theorem dX4_make_150 : decode cX4_make 150 = .ok (.iconst 1, 1) := by decide +kernel
theorem dX4_make_151 : decode cX4_make 151 = .ok (.iadd, 1) := by decide +kernel
theorem dX4_make_152 : decode cX4_make 152 = .ok (.invokevirtual 41, 3) := by decide +kernel
theorem dX4_make_155 : decode cX4_make 155 = .ok (.aload_n 0, 1) := by decide +kernel
theorem dX4_make_156 : decode cX4_make 156 = .ok (.iload_n 1, 1) := by decide +kernel
theorem dX4_make_157 : decode cX4_make 157 = .ok (.invokevirtual 83, 3) := by decide +kernel
theorem dX4_make_160 : decode cX4_make 160 = .ok (.aload_n 0, 1) := by decide +kernel
theorem dX4_make_161 : decode cX4_make 161 = .ok (.getfield 7, 3) := by decide +kernel
theorem dX4_make_164 : decode cX4_make 164 = .ok (.bipush 6, 2) := by decide +kernel
theorem dX4_make_166 : decode cX4_make 166 = .ok (.iaload, 1) := by decide +kernel
theorem dX4_make_167 : decode cX4_make 167 = .ok (.ireturn, 1) := by decide +kernel
set_option maxRecDepth 20000 in
theorem ggX4_deleteAt_X4_layGen : GoodIn wsX4_deleteAt wsX4_layGen := goodIn_r _ [5, 6, 7, 8, 4, 9, 10, 31, 32, 33, 34, 35, 36, 37, 38, 39, 40, 41, 42] (by decide +kernel) (by decide +kernel)
set_option maxRecDepth 20000 in
theorem gX4_deleteAt_X4_layGen : GoodIn wsX4_deleteAt (wsV RX4 72 RX4 yX4_layGen wsX4_layGen) := goodIn_app (goodIn_of _ (by decide +kernel)) ggX4_deleteAt_X4_layGen
set_option maxRecDepth 20000 in
theorem ggX4_deleteAt_X4_of : GoodIn wsX4_deleteAt wsX4_of := goodIn_r _ [14, 10, 31, 32, 33, 34, 35, 36, 37, 38, 39, 40, 41, 42] (by decide +kernel) (by decide +kernel)
set_option maxRecDepth 20000 in
theorem gX4_deleteAt_X4_of : GoodIn wsX4_deleteAt (wsV RX4 37 RX4 yX4_of wsX4_of) := goodIn_app (goodIn_of _ (by decide +kernel)) ggX4_deleteAt_X4_of
set_option maxRecDepth 20000 in
theorem ggX4_deleteAt_X4_lay : GoodIn wsX4_deleteAt wsX4_lay := goodIn_r _ [9, 10, 31, 32, 33, 34, 35, 36, 37, 38, 39, 40, 41, 42] (by decide +kernel) (by decide +kernel)
set_option maxRecDepth 20000 in
theorem gX4_deleteAt_X4_lay : GoodIn wsX4_deleteAt (wsV RX4 41 RX4 yX4_lay wsX4_lay) := goodIn_app (goodIn_of _ (by decide +kernel)) ggX4_deleteAt_X4_lay
set_option maxRecDepth 20000 in
theorem ggX4_deleteAt_X4_trim : GoodIn wsX4_deleteAt wsX4_trim := goodIn_r _ [18, 19, 20, 21, 4, 22, 11, 12, 13, 14, 10, 23, 24, 25, 26, 27, 28, 29, 30, 6, 7, 8, 9, 31, 32, 33, 34, 35, 36, 37, 38, 39, 40, 41, 42] (by decide +kernel) (by decide +kernel)
set_option maxRecDepth 20000 in
theorem gX4_deleteAt_X4_trim : GoodIn wsX4_deleteAt (wsV RX4 68 RX4 yX4_trim wsX4_trim) := goodIn_app (goodIn_of _ (by decide +kernel)) ggX4_deleteAt_X4_trim
theorem dX4_deleteAt_0 : decode cX4_deleteAt 0 = .ok (.aload_n 0, 1) := by decide +kernel
theorem dX4_deleteAt_1 : decode cX4_deleteAt 1 = .ok (.iload_n 1, 1) := by decide +kernel
theorem dX4_deleteAt_2 : decode cX4_deleteAt 2 = .ok (.iload_n 2, 1) := by decide +kernel
theorem dX4_deleteAt_3 : decode cX4_deleteAt 3 = .ok (.iconst 2, 1) := by decide +kernel
theorem dX4_deleteAt_4 : decode cX4_deleteAt 4 = .ok (.bipush (-6), 2) := by decide +kernel
theorem dX4_deleteAt_6 : decode cX4_deleteAt 6 = .ok (.invokevirtual 72, 3) := by decide +kernel
theorem dX4_deleteAt_9 : decode cX4_deleteAt 9 = .ok (.aload_n 0, 1) := by decide +kernel
theorem dX4_deleteAt_10 : decode cX4_deleteAt 10 = .ok (.iload_n 1, 1) := by decide +kernel
theorem dX4_deleteAt_11 : decode cX4_deleteAt 11 = .ok (.iconst 4, 1) := by decide +kernel
theorem dX4_deleteAt_12 : decode cX4_deleteAt 12 = .ok (.aload_n 0, 1) := by decide +kernel
theorem dX4_deleteAt_13 : decode cX4_deleteAt 13 = .ok (.iload_n 1, 1) := by decide +kernel
theorem dX4_deleteAt_14 : decode cX4_deleteAt 14 = .ok (.iconst 4, 1) := by decide +kernel
theorem dX4_deleteAt_15 : decode cX4_deleteAt 15 = .ok (.invokevirtual 37, 3) := by decide +kernel
theorem dX4_deleteAt_18 : decode cX4_deleteAt 18 = .ok (.iconst 1, 1) := by decide +kernel
theorem dX4_deleteAt_19 : decode cX4_deleteAt 19 = .ok (.iadd, 1) := by decide +kernel
theorem dX4_deleteAt_20 : decode cX4_deleteAt 20 = .ok (.invokevirtual 41, 3) := by decide +kernel
theorem dX4_deleteAt_23 : decode cX4_deleteAt 23 = .ok (.aload_n 0, 1) := by decide +kernel
theorem dX4_deleteAt_24 : decode cX4_deleteAt 24 = .ok (.iload_n 1, 1) := by decide +kernel
theorem dX4_deleteAt_25 : decode cX4_deleteAt 25 = .ok (.invokevirtual 68, 3) := by decide +kernel
theorem dX4_deleteAt_28 : decode cX4_deleteAt 28 = .ok (.return_, 1) := by decide +kernel
set_option maxRecDepth 20000 in
theorem ggX4_placeOf_X4_many : GoodIn wsX4_placeOf wsX4_many := goodIn_r _ [5, 6, 7, 8, 4, 9, 10, 15, 16, 17, 18, 19, 20, 21, 22, 23, 24, 25, 26] (by decide +kernel) (by decide +kernel)
set_option maxRecDepth 20000 in
theorem gX4_placeOf_X4_many : GoodIn wsX4_placeOf (wsV RX4 60 RX4 yX4_many wsX4_many) := goodIn_app (goodIn_of _ (by decide +kernel)) ggX4_placeOf_X4_many
set_option maxRecDepth 20000 in
theorem ggX4_placeOf_X4_gen : GoodIn wsX4_placeOf wsX4_gen := goodIn_r _ [14, 6, 7, 8, 4, 9, 10, 15, 16, 17, 18, 19, 20, 21, 22, 23, 24, 25, 26] (by decide +kernel) (by decide +kernel)
set_option maxRecDepth 20000 in
theorem gX4_placeOf_X4_gen : GoodIn wsX4_placeOf (wsV RX4 45 RX4 yX4_gen wsX4_gen) := goodIn_app (goodIn_of _ (by decide +kernel)) ggX4_placeOf_X4_gen
theorem dX4_placeOf_0 : decode cX4_placeOf 0 = .ok (.bipush (-6), 2) := by decide +kernel
theorem dX4_placeOf_2 : decode cX4_placeOf 2 = .ok (.istore_n 3, 1) := by decide +kernel
theorem dX4_placeOf_3 : decode cX4_placeOf 3 = .ok (.iconst 0, 1) := by decide +kernel
theorem dX4_placeOf_4 : decode cX4_placeOf 4 = .ok (.istore 4, 2) := by decide +kernel
theorem dX4_placeOf_6 : decode cX4_placeOf 6 = .ok (.iload 4, 2) := by decide +kernel
theorem dX4_placeOf_8 : decode cX4_placeOf 8 = .ok (.aload_n 0, 1) := by decide +kernel
theorem dX4_placeOf_9 : decode cX4_placeOf 9 = .ok (.iload_n 1, 1) := by decide +kernel
theorem dX4_placeOf_10 : decode cX4_placeOf 10 = .ok (.invokevirtual 60, 3) := by decide +kernel
theorem dX4_placeOf_13 : decode cX4_placeOf 13 = .ok (.if_icmp .ge 28, 3) := by decide +kernel
theorem dX4_placeOf_16 : decode cX4_placeOf 16 = .ok (.aload_n 0, 1) := by decide +kernel
theorem dX4_placeOf_17 : decode cX4_placeOf 17 = .ok (.iload_n 1, 1) := by decide +kernel
theorem dX4_placeOf_18 : decode cX4_placeOf 18 = .ok (.iload 4, 2) := by decide +kernel
theorem dX4_placeOf_20 : decode cX4_placeOf 20 = .ok (.iconst 0, 1) := by decide +kernel
theorem dX4_placeOf_21 : decode cX4_placeOf 21 = .ok (.invokevirtual 45, 3) := by decide +kernel
theorem dX4_placeOf_24 : decode cX4_placeOf 24 = .ok (.iload_n 2, 1) := by decide +kernel
theorem dX4_placeOf_25 : decode cX4_placeOf 25 = .ok (.if_icmp .ne 8, 3) := by decide +kernel
theorem dX4_placeOf_28 : decode cX4_placeOf 28 = .ok (.iload 4, 2) := by decide +kernel
theorem dX4_placeOf_30 : decode cX4_placeOf 30 = .ok (.goto 4, 3) := by decide +kernel
theorem dX4_placeOf_33 : decode cX4_placeOf 33 = .ok (.iload_n 3, 1) := by decide +kernel
theorem dX4_placeOf_34 : decode cX4_placeOf 34 = .ok (.istore_n 3, 1) := by decide +kernel
theorem dX4_placeOf_35 : decode cX4_placeOf 35 = .ok (.iinc 4 1, 3) := by decide +kernel
theorem dX4_placeOf_38 : decode cX4_placeOf 38 = .ok (.goto (-32), 3) := by decide +kernel
theorem dX4_placeOf_41 : decode cX4_placeOf 41 = .ok (.iload_n 3, 1) := by decide +kernel
theorem dX4_placeOf_42 : decode cX4_placeOf 42 = .ok (.ireturn, 1) := by decide +kernel
set_option maxRecDepth 20000 in
theorem ggX4_isName_X4_in : GoodIn wsX4_isName wsX4_in := goodIn_r _ [4] (by decide +kernel) (by decide +kernel)
set_option maxRecDepth 20000 in
theorem gX4_isName_X4_in : GoodIn wsX4_isName (va_wsS RX4 33 yX4_in wsX4_in) := goodIn_app (goodIn_of _ (by decide +kernel)) ggX4_isName_X4_in
theorem dX4_isName_0 : decode cX4_isName 0 = .ok (.iload_n 0, 1) := by decide +kernel
theorem dX4_isName_1 : decode cX4_isName 1 = .ok (.bipush (-7), 2) := by decide +kernel
theorem dX4_isName_3 : decode cX4_isName 3 = .ok (.iconst 1, 1) := by decide +kernel
theorem dX4_isName_4 : decode cX4_isName 4 = .ok (.invokestatic 33, 3) := by decide +kernel
theorem dX4_isName_7 : decode cX4_isName 7 = .ok (.ireturn, 1) := by decide +kernel
set_option maxRecDepth 20000 in
theorem ggX4_markOf_X4_of : GoodIn wsX4_markOf wsX4_of := goodIn_r _ [5, 6, 7, 8, 9, 10, 11, 12, 13, 14, 15, 16, 17, 18] (by decide +kernel) (by decide +kernel)
set_option maxRecDepth 20000 in
theorem gX4_markOf_X4_of : GoodIn wsX4_markOf (wsV RX4 37 RX4 yX4_of wsX4_of) := goodIn_app (goodIn_of _ (by decide +kernel)) ggX4_markOf_X4_of
theorem dX4_markOf_0 : decode cX4_markOf 0 = .ok (.iload_n 2, 1) := by decide +kernel
theorem dX4_markOf_1 : decode cX4_markOf 1 = .ok (.iconst 1, 1) := by decide +kernel
theorem dX4_markOf_2 : decode cX4_markOf 2 = .ok (.if_icmp .ne 12, 3) := by decide +kernel
theorem dX4_markOf_5 : decode cX4_markOf 5 = .ok (.aload_n 0, 1) := by decide +kernel
theorem dX4_markOf_6 : decode cX4_markOf 6 = .ok (.iload_n 1, 1) := by decide +kernel
theorem dX4_markOf_7 : decode cX4_markOf 7 = .ok (.iconst 5, 1) := by decide +kernel
theorem dX4_markOf_8 : decode cX4_markOf 8 = .ok (.invokevirtual 37, 3) := by decide +kernel
theorem dX4_markOf_11 : decode cX4_markOf 11 = .ok (.goto 12, 3) := by decide +kernel
theorem dX4_markOf_14 : decode cX4_markOf 14 = .ok (.aload_n 0, 1) := by decide +kernel
theorem dX4_markOf_15 : decode cX4_markOf 15 = .ok (.iload_n 1, 1) := by decide +kernel
theorem dX4_markOf_16 : decode cX4_markOf 16 = .ok (.bipush 7, 2) := by decide +kernel
theorem dX4_markOf_18 : decode cX4_markOf 18 = .ok (.iload_n 2, 1) := by decide +kernel
theorem dX4_markOf_19 : decode cX4_markOf 19 = .ok (.isub, 1) := by decide +kernel
theorem dX4_markOf_20 : decode cX4_markOf 20 = .ok (.invokevirtual 37, 3) := by decide +kernel
theorem dX4_markOf_23 : decode cX4_markOf 23 = .ok (.ireturn, 1) := by decide +kernel
set_option maxRecDepth 20000 in
theorem ggX4_told_X4_runs : GoodIn wsX4_told wsX4_runs := goodIn_r _ [5, 6, 31, 32, 33, 34, 35, 36, 37, 38, 39, 40, 41, 42] (by decide +kernel) (by decide +kernel)
set_option maxRecDepth 20000 in
theorem gX4_told_X4_runs : GoodIn wsX4_told (wsV RX4 79 RX4 yX4_runs wsX4_runs) := goodIn_app (goodIn_of _ (by decide +kernel)) ggX4_told_X4_runs
set_option maxRecDepth 20000 in
theorem ggX4_told_X4_markOf : GoodIn wsX4_told wsX4_markOf := goodIn_r _ [10, 11, 12, 13, 4, 14, 6, 31, 32, 33, 34, 35, 36, 37, 38, 39, 40, 41, 42] (by decide +kernel) (by decide +kernel)
set_option maxRecDepth 20000 in
theorem gX4_told_X4_markOf : GoodIn wsX4_told (wsV RX4 86 RX4 yX4_markOf wsX4_markOf) := goodIn_app (goodIn_of _ (by decide +kernel)) ggX4_told_X4_markOf
set_option maxRecDepth 20000 in
theorem ggX4_told_X4_placeOf : GoodIn wsX4_told wsX4_placeOf := goodIn_r _ [18, 19, 20, 21, 4, 22, 11, 12, 13, 14, 6, 23, 24, 25, 26, 31, 32, 33, 34, 35, 36, 37, 38, 39, 40, 41, 42] (by decide +kernel) (by decide +kernel)
set_option maxRecDepth 20000 in
theorem gX4_told_X4_placeOf : GoodIn wsX4_told (wsV RX4 89 RX4 yX4_placeOf wsX4_placeOf) := goodIn_app (goodIn_of _ (by decide +kernel)) ggX4_told_X4_placeOf
set_option maxRecDepth 20000 in
theorem ggX4_told_X4_many : GoodIn wsX4_told wsX4_many := goodIn_r _ [22, 11, 12, 13, 4, 14, 6, 31, 32, 33, 34, 35, 36, 37, 38, 39, 40, 41, 42] (by decide +kernel) (by decide +kernel)
set_option maxRecDepth 20000 in
theorem gX4_told_X4_many : GoodIn wsX4_told (wsV RX4 60 RX4 yX4_many wsX4_many) := goodIn_app (goodIn_of _ (by decide +kernel)) ggX4_told_X4_many
set_option maxRecDepth 20000 in
theorem ggX4_told_X4_isHole : GoodIn wsX4_told wsX4_isHole := goodIn_r _ [30, 23, 24, 25, 4, 26, 11, 12, 13, 14, 6, 31, 32, 33, 34, 35, 36, 37, 38, 39, 40, 41, 42] (by decide +kernel) (by decide +kernel)
set_option maxRecDepth 20000 in
theorem gX4_told_X4_isHole : GoodIn wsX4_told (wsV RX4 64 RX4 yX4_isHole wsX4_isHole) := goodIn_app (goodIn_of _ (by decide +kernel)) ggX4_told_X4_isHole
theorem dX4_told_0 : decode cX4_told 0 = .ok (.bipush (-6), 2) := by decide +kernel
theorem dX4_told_2 : decode cX4_told 2 = .ok (.istore_n 3, 1) := by decide +kernel
theorem dX4_told_3 : decode cX4_told 3 = .ok (.aload_n 0, 1) := by decide +kernel
theorem dX4_told_4 : decode cX4_told 4 = .ok (.invokevirtual 79, 3) := by decide +kernel
theorem dX4_told_7 : decode cX4_told 7 = .ok (.ifCond .eq 32, 3) := by decide +kernel
theorem dX4_told_10 : decode cX4_told 10 = .ok (.aload_n 0, 1) := by decide +kernel
theorem dX4_told_11 : decode cX4_told 11 = .ok (.iload_n 1, 1) := by decide +kernel
theorem dX4_told_12 : decode cX4_told 12 = .ok (.iload_n 2, 1) := by decide +kernel
theorem dX4_told_13 : decode cX4_told 13 = .ok (.invokevirtual 86, 3) := by decide +kernel
theorem dX4_told_16 : decode cX4_told 16 = .ok (.ifCond .ne 8, 3) := by decide +kernel
theorem dX4_told_19 : decode cX4_told 19 = .ok (.bipush (-6), 2) := by decide +kernel
theorem dX4_told_21 : decode cX4_told 21 = .ok (.goto 14, 3) := by decide +kernel
theorem dX4_told_24 : decode cX4_told 24 = .ok (.aload_n 0, 1) := by decide +kernel
theorem dX4_told_25 : decode cX4_told 25 = .ok (.iload_n 1, 1) := by decide +kernel
theorem dX4_told_26 : decode cX4_told 26 = .ok (.aload_n 0, 1) := by decide +kernel
theorem dX4_told_27 : decode cX4_told 27 = .ok (.iload_n 1, 1) := by decide +kernel
theorem dX4_told_28 : decode cX4_told 28 = .ok (.iload_n 2, 1) := by decide +kernel
theorem dX4_told_29 : decode cX4_told 29 = .ok (.invokevirtual 86, 3) := by decide +kernel
theorem dX4_told_32 : decode cX4_told 32 = .ok (.invokevirtual 89, 3) := by decide +kernel
theorem dX4_told_35 : decode cX4_told 35 = .ok (.istore_n 3, 1) := by decide +kernel
theorem dX4_told_36 : decode cX4_told 36 = .ok (.goto 21, 3) := by decide +kernel
theorem dX4_told_39 : decode cX4_told 39 = .ok (.iload_n 2, 1) := by decide +kernel
theorem dX4_told_40 : decode cX4_told 40 = .ok (.iconst 1, 1) := by decide +kernel
theorem dX4_told_41 : decode cX4_told 41 = .ok (.if_icmp .ge 16, 3) := by decide +kernel
theorem dX4_told_44 : decode cX4_told 44 = .ok (.iload_n 2, 1) := by decide +kernel
theorem dX4_told_45 : decode cX4_told 45 = .ok (.ineg, 1) := by decide +kernel
theorem dX4_told_46 : decode cX4_told 46 = .ok (.aload_n 0, 1) := by decide +kernel
theorem dX4_told_47 : decode cX4_told 47 = .ok (.iload_n 1, 1) := by decide +kernel
theorem dX4_told_48 : decode cX4_told 48 = .ok (.invokevirtual 60, 3) := by decide +kernel
theorem dX4_told_51 : decode cX4_told 51 = .ok (.if_icmp .ge 6, 3) := by decide +kernel
theorem dX4_told_54 : decode cX4_told 54 = .ok (.iload_n 2, 1) := by decide +kernel
theorem dX4_told_55 : decode cX4_told 55 = .ok (.ineg, 1) := by decide +kernel
theorem dX4_told_56 : decode cX4_told 56 = .ok (.istore_n 3, 1) := by decide +kernel
theorem dX4_told_57 : decode cX4_told 57 = .ok (.iload_n 3, 1) := by decide +kernel
theorem dX4_told_58 : decode cX4_told 58 = .ok (.bipush (-6), 2) := by decide +kernel
theorem dX4_told_60 : decode cX4_told 60 = .ok (.if_icmp .eq 12, 3) := by decide +kernel
theorem dX4_told_63 : decode cX4_told 63 = .ok (.aload_n 0, 1) := by decide +kernel
theorem dX4_told_64 : decode cX4_told 64 = .ok (.iload_n 1, 1) := by decide +kernel
theorem dX4_told_65 : decode cX4_told 65 = .ok (.iload_n 3, 1) := by decide +kernel
theorem dX4_told_66 : decode cX4_told 66 = .ok (.invokevirtual 64, 3) := by decide +kernel
theorem dX4_told_69 : decode cX4_told 69 = .ok (.ifCond .eq 8, 3) := by decide +kernel
theorem dX4_told_72 : decode cX4_told 72 = .ok (.bipush (-6), 2) := by decide +kernel
theorem dX4_told_74 : decode cX4_told 74 = .ok (.goto 4, 3) := by decide +kernel
theorem dX4_told_77 : decode cX4_told 77 = .ok (.iload_n 3, 1) := by decide +kernel
theorem dX4_told_78 : decode cX4_told 78 = .ok (.ireturn, 1) := by decide +kernel
set_option maxRecDepth 20000 in
theorem ggX4_keep_X4_isGroup : GoodIn wsX4_keep wsX4_isGroup := goodIn_r _ [4, 5, 6, 3, 7] (by decide +kernel) (by decide +kernel)
set_option maxRecDepth 20000 in
theorem gX4_keep_X4_isGroup : GoodIn wsX4_keep (va_wsS RX4 92 yX4_isGroup wsX4_isGroup) := goodIn_app (goodIn_of _ (by decide +kernel)) ggX4_keep_X4_isGroup
set_option maxRecDepth 20000 in
theorem ggX4_keep_X4_in : GoodIn wsX4_keep wsX4_in := goodIn_r _ [7] (by decide +kernel) (by decide +kernel)
set_option maxRecDepth 20000 in
theorem gX4_keep_X4_in : GoodIn wsX4_keep (va_wsS RX4 33 yX4_in wsX4_in) := goodIn_app (goodIn_of _ (by decide +kernel)) ggX4_keep_X4_in
set_option maxRecDepth 20000 in
theorem ggX4_keep_X4_record : GoodIn wsX4_keep wsX4_record := goodIn_r _ [11, 12, 13, 14, 43, 44, 45, 46, 47, 48, 49, 50, 51, 52, 53, 54] (by decide +kernel) (by decide +kernel)
set_option maxRecDepth 20000 in
theorem gX4_keep_X4_record : GoodIn wsX4_keep (wsV RX4 57 RX4 yX4_record wsX4_record) := goodIn_app (goodIn_of _ (by decide +kernel)) ggX4_keep_X4_record
set_option maxRecDepth 20000 in
theorem ggX4_keep_X4_of : GoodIn wsX4_keep wsX4_of := goodIn_r _ [18, 14, 43, 44, 45, 46, 47, 48, 49, 50, 51, 52, 53, 54] (by decide +kernel) (by decide +kernel)
set_option maxRecDepth 20000 in
theorem gX4_keep_X4_of : GoodIn wsX4_keep (wsV RX4 37 RX4 yX4_of wsX4_of) := goodIn_app (goodIn_of _ (by decide +kernel)) ggX4_keep_X4_of
set_option maxRecDepth 20000 in
theorem ggX4_keep_X4_lay : GoodIn wsX4_keep wsX4_lay := goodIn_r _ [22, 14, 43, 44, 45, 46, 47, 48, 49, 50, 51, 52, 53, 54] (by decide +kernel) (by decide +kernel)
set_option maxRecDepth 20000 in
theorem gX4_keep_X4_lay : GoodIn wsX4_keep (wsV RX4 41 RX4 yX4_lay wsX4_lay) := goodIn_app (goodIn_of _ (by decide +kernel)) ggX4_keep_X4_lay
set_option maxRecDepth 20000 in
theorem ggX4_keep_X4_roll : GoodIn wsX4_keep wsX4_roll := goodIn_r _ [26, 27, 28, 29, 3, 30, 15, 16, 17, 18, 14, 31, 32, 33, 34, 35, 36, 37, 38, 19, 20, 21, 22, 39, 40, 41, 42, 43, 44, 45, 46, 47, 48, 49, 50, 51, 52, 53, 54] (by decide +kernel) (by decide +kernel)
set_option maxRecDepth 20000 in
theorem gX4_keep_X4_roll : GoodIn wsX4_keep (wsV RX4 83 RX4 yX4_roll wsX4_roll) := goodIn_app (goodIn_of _ (by decide +kernel)) ggX4_keep_X4_roll
theorem dX4_keep_0 : decode cX4_keep 0 = .ok (.iload_n 1, 1) := by decide +kernel
theorem dX4_keep_1 : decode cX4_keep 1 = .ok (.invokestatic 92, 3) := by decide +kernel
theorem dX4_keep_4 : decode cX4_keep 4 = .ok (.ifCond .ne 5, 3) := by decide +kernel
theorem dX4_keep_7 : decode cX4_keep 7 = .ok (.iconst (-1), 1) := by decide +kernel
theorem dX4_keep_8 : decode cX4_keep 8 = .ok (.ireturn, 1) := by decide +kernel
theorem dX4_keep_9 : decode cX4_keep 9 = .ok (.iload_n 2, 1) := by decide +kernel
theorem dX4_keep_10 : decode cX4_keep 10 = .ok (.iconst 1, 1) := by decide +kernel
theorem dX4_keep_11 : decode cX4_keep 11 = .ok (.bipush 8, 2) := by decide +kernel
theorem dX4_keep_13 : decode cX4_keep 13 = .ok (.invokestatic 33, 3) := by decide +kernel
theorem dX4_keep_16 : decode cX4_keep 16 = .ok (.ifCond .ne 6, 3) := by decide +kernel
theorem dX4_keep_19 : decode cX4_keep 19 = .ok (.bipush (-2), 2) := by decide +kernel
theorem dX4_keep_21 : decode cX4_keep 21 = .ok (.ireturn, 1) := by decide +kernel
theorem dX4_keep_22 : decode cX4_keep 22 = .ok (.aload_n 0, 1) := by decide +kernel
theorem dX4_keep_23 : decode cX4_keep 23 = .ok (.invokevirtual 57, 3) := by decide +kernel
theorem dX4_keep_26 : decode cX4_keep 26 = .ok (.aload_n 0, 1) := by decide +kernel
theorem dX4_keep_27 : decode cX4_keep 27 = .ok (.iload_n 1, 1) := by decide +kernel
theorem dX4_keep_28 : decode cX4_keep 28 = .ok (.iconst 0, 1) := by decide +kernel
theorem dX4_keep_29 : decode cX4_keep 29 = .ok (.invokevirtual 37, 3) := by decide +kernel
theorem dX4_keep_32 : decode cX4_keep 32 = .ok (.istore_n 3, 1) := by decide +kernel
theorem dX4_keep_33 : decode cX4_keep 33 = .ok (.aload_n 0, 1) := by decide +kernel
theorem dX4_keep_34 : decode cX4_keep 34 = .ok (.iload_n 1, 1) := by decide +kernel
theorem dX4_keep_35 : decode cX4_keep 35 = .ok (.iconst 0, 1) := by decide +kernel
theorem dX4_keep_36 : decode cX4_keep 36 = .ok (.iload_n 2, 1) := by decide +kernel
theorem dX4_keep_37 : decode cX4_keep 37 = .ok (.invokevirtual 41, 3) := by decide +kernel
theorem dX4_keep_40 : decode cX4_keep 40 = .ok (.aload_n 0, 1) := by decide +kernel
theorem dX4_keep_41 : decode cX4_keep 41 = .ok (.iload_n 1, 1) := by decide +kernel
theorem dX4_keep_42 : decode cX4_keep 42 = .ok (.invokevirtual 83, 3) := by decide +kernel
theorem dX4_keep_45 : decode cX4_keep 45 = .ok (.iload_n 3, 1) := by decide +kernel
theorem dX4_keep_46 : decode cX4_keep 46 = .ok (.ireturn, 1) := by decide +kernel
set_option maxRecDepth 20000 in
theorem ggX4_canWrite_X4_runs : GoodIn wsX4_canWrite wsX4_runs := goodIn_r _ [5, 6, 35, 36, 37, 38, 39, 40, 41, 42, 43, 44, 45, 46] (by decide +kernel) (by decide +kernel)
set_option maxRecDepth 20000 in
theorem gX4_canWrite_X4_runs : GoodIn wsX4_canWrite (wsV RX4 79 RX4 yX4_runs wsX4_runs) := goodIn_app (goodIn_of _ (by decide +kernel)) ggX4_canWrite_X4_runs
set_option maxRecDepth 20000 in
theorem ggX4_canWrite_X4_of : GoodIn wsX4_canWrite wsX4_of := goodIn_r _ [10, 6, 35, 36, 37, 38, 39, 40, 41, 42, 43, 44, 45, 46] (by decide +kernel) (by decide +kernel)
set_option maxRecDepth 20000 in
theorem gX4_canWrite_X4_of : GoodIn wsX4_canWrite (wsV RX4 37 RX4 yX4_of wsX4_of) := goodIn_app (goodIn_of _ (by decide +kernel)) ggX4_canWrite_X4_of
set_option maxRecDepth 20000 in
theorem ggX4_canWrite_X4_told : GoodIn wsX4_canWrite wsX4_told := goodIn_r _ [14, 1, 2, 3, 4, 5, 6, 15, 16, 17, 18, 7, 8, 9, 10, 19, 20, 21, 22, 23, 24, 25, 26, 27, 28, 29, 30, 31, 32, 33, 34, 35, 36, 37, 38, 39, 40, 41, 42, 43, 44, 45, 46] (by decide +kernel) (by decide +kernel)
set_option maxRecDepth 20000 in
theorem gX4_canWrite_X4_told : GoodIn wsX4_canWrite (wsV RX4 96 RX4 yX4_told wsX4_told) := goodIn_app (goodIn_of _ (by decide +kernel)) ggX4_canWrite_X4_told
theorem dX4_canWrite_0 : decode cX4_canWrite 0 = .ok (.iload_n 2, 1) := by decide +kernel
theorem dX4_canWrite_1 : decode cX4_canWrite 1 = .ok (.iconst 1, 1) := by decide +kernel
theorem dX4_canWrite_2 : decode cX4_canWrite 2 = .ok (.if_icmp .ne 23, 3) := by decide +kernel
theorem dX4_canWrite_5 : decode cX4_canWrite 5 = .ok (.aload_n 0, 1) := by decide +kernel
theorem dX4_canWrite_6 : decode cX4_canWrite 6 = .ok (.invokevirtual 79, 3) := by decide +kernel
theorem dX4_canWrite_9 : decode cX4_canWrite 9 = .ok (.ifCond .eq 12, 3) := by decide +kernel
theorem dX4_canWrite_12 : decode cX4_canWrite 12 = .ok (.aload_n 0, 1) := by decide +kernel
theorem dX4_canWrite_13 : decode cX4_canWrite 13 = .ok (.iload_n 1, 1) := by decide +kernel
theorem dX4_canWrite_14 : decode cX4_canWrite 14 = .ok (.iconst 5, 1) := by decide +kernel
theorem dX4_canWrite_15 : decode cX4_canWrite 15 = .ok (.invokevirtual 37, 3) := by decide +kernel
theorem dX4_canWrite_18 : decode cX4_canWrite 18 = .ok (.ifCond .ne 7, 3) := by decide +kernel
theorem dX4_canWrite_21 : decode cX4_canWrite 21 = .ok (.iconst 1, 1) := by decide +kernel
theorem dX4_canWrite_22 : decode cX4_canWrite 22 = .ok (.goto 4, 3) := by decide +kernel
theorem dX4_canWrite_25 : decode cX4_canWrite 25 = .ok (.iconst 0, 1) := by decide +kernel
theorem dX4_canWrite_26 : decode cX4_canWrite 26 = .ok (.istore_n 3, 1) := by decide +kernel
theorem dX4_canWrite_27 : decode cX4_canWrite 27 = .ok (.iload_n 3, 1) := by decide +kernel
theorem dX4_canWrite_28 : decode cX4_canWrite 28 = .ok (.ifCond .ne 14, 3) := by decide +kernel
theorem dX4_canWrite_31 : decode cX4_canWrite 31 = .ok (.aload_n 0, 1) := by decide +kernel
theorem dX4_canWrite_32 : decode cX4_canWrite 32 = .ok (.iload_n 1, 1) := by decide +kernel
theorem dX4_canWrite_33 : decode cX4_canWrite 33 = .ok (.iload_n 2, 1) := by decide +kernel
theorem dX4_canWrite_34 : decode cX4_canWrite 34 = .ok (.invokevirtual 96, 3) := by decide +kernel
theorem dX4_canWrite_37 : decode cX4_canWrite 37 = .ok (.bipush (-6), 2) := by decide +kernel
theorem dX4_canWrite_39 : decode cX4_canWrite 39 = .ok (.if_icmp .eq 7, 3) := by decide +kernel
theorem dX4_canWrite_42 : decode cX4_canWrite 42 = .ok (.iconst 1, 1) := by decide +kernel
theorem dX4_canWrite_43 : decode cX4_canWrite 43 = .ok (.goto 4, 3) := by decide +kernel
theorem dX4_canWrite_46 : decode cX4_canWrite 46 = .ok (.iconst 0, 1) := by decide +kernel
theorem dX4_canWrite_47 : decode cX4_canWrite 47 = .ok (.ireturn, 1) := by decide +kernel
set_option maxRecDepth 20000 in
theorem ggX4_writeIt_X4_runs : GoodIn wsX4_writeIt wsX4_runs := goodIn_r _ [5, 6, 58, 59, 60, 61, 62, 63, 64, 65, 66, 67, 68, 69] (by decide +kernel) (by decide +kernel)
set_option maxRecDepth 20000 in
theorem gX4_writeIt_X4_runs : GoodIn wsX4_writeIt (wsV RX4 79 RX4 yX4_runs wsX4_runs) := goodIn_app (goodIn_of _ (by decide +kernel)) ggX4_writeIt_X4_runs
set_option maxRecDepth 20000 in
theorem ggX4_writeIt_X4_of : GoodIn wsX4_writeIt wsX4_of := goodIn_r _ [10, 6, 58, 59, 60, 61, 62, 63, 64, 65, 66, 67, 68, 69] (by decide +kernel) (by decide +kernel)
set_option maxRecDepth 20000 in
theorem gX4_writeIt_X4_of : GoodIn wsX4_writeIt (wsV RX4 37 RX4 yX4_of wsX4_of) := goodIn_app (goodIn_of _ (by decide +kernel)) ggX4_writeIt_X4_of
set_option maxRecDepth 20000 in
theorem ggX4_writeIt_X4_make : GoodIn wsX4_writeIt wsX4_make := goodIn_r _ [14, 6, 15, 16, 17, 4, 18, 7, 8, 9, 10, 19, 20, 21, 22, 23, 24, 25, 26, 27, 28, 29, 30, 31, 32, 33, 1, 2, 3, 5, 34, 35, 36, 37, 38, 39, 40, 41, 42, 43, 44, 45, 58, 59, 60, 61, 62, 63, 64, 65, 66, 67, 68, 69] (by decide +kernel) (by decide +kernel)
set_option maxRecDepth 20000 in
theorem gX4_writeIt_X4_make : GoodIn wsX4_writeIt (wsV RX4 99 RX4 yX4_make wsX4_make) := goodIn_app (goodIn_of _ (by decide +kernel)) ggX4_writeIt_X4_make
set_option maxRecDepth 20000 in
theorem ggX4_writeIt_X4_lay : GoodIn wsX4_writeIt wsX4_lay := goodIn_r _ [30, 6, 58, 59, 60, 61, 62, 63, 64, 65, 66, 67, 68, 69] (by decide +kernel) (by decide +kernel)
set_option maxRecDepth 20000 in
theorem gX4_writeIt_X4_lay : GoodIn wsX4_writeIt (wsV RX4 41 RX4 yX4_lay wsX4_lay) := goodIn_app (goodIn_of _ (by decide +kernel)) ggX4_writeIt_X4_lay
set_option maxRecDepth 20000 in
theorem ggX4_writeIt_X4_told : GoodIn wsX4_writeIt wsX4_told := goodIn_r _ [49, 1, 2, 3, 4, 5, 6, 50, 51, 52, 53, 7, 8, 9, 10, 54, 55, 56, 57, 15, 16, 17, 18, 19, 20, 21, 22, 38, 39, 40, 41, 58, 59, 60, 61, 62, 63, 64, 65, 66, 67, 68, 69] (by decide +kernel) (by decide +kernel)
set_option maxRecDepth 20000 in
theorem gX4_writeIt_X4_told : GoodIn wsX4_writeIt (wsV RX4 96 RX4 yX4_told wsX4_told) := goodIn_app (goodIn_of _ (by decide +kernel)) ggX4_writeIt_X4_told
set_option maxRecDepth 20000 in
theorem ggX4_writeIt_X4_layGen : GoodIn wsX4_writeIt wsX4_layGen := goodIn_r _ [26, 27, 28, 29, 4, 30, 6, 58, 59, 60, 61, 62, 63, 64, 65, 66, 67, 68, 69] (by decide +kernel) (by decide +kernel)
set_option maxRecDepth 20000 in
theorem gX4_writeIt_X4_layGen : GoodIn wsX4_writeIt (wsV RX4 72 RX4 yX4_layGen wsX4_layGen) := goodIn_app (goodIn_of _ (by decide +kernel)) ggX4_writeIt_X4_layGen
set_option maxRecDepth 20000 in
theorem ggX4_writeIt_X4_gen : GoodIn wsX4_writeIt wsX4_gen := goodIn_r _ [22, 7, 8, 9, 4, 10, 6, 58, 59, 60, 61, 62, 63, 64, 65, 66, 67, 68, 69] (by decide +kernel) (by decide +kernel)
set_option maxRecDepth 20000 in
theorem gX4_writeIt_X4_gen : GoodIn wsX4_writeIt (wsV RX4 45 RX4 yX4_gen wsX4_gen) := goodIn_app (goodIn_of _ (by decide +kernel)) ggX4_writeIt_X4_gen
theorem dX4_writeIt_0 : decode cX4_writeIt 0 = .ok (.iload_n 2, 1) := by decide +kernel
theorem dX4_writeIt_1 : decode cX4_writeIt 1 = .ok (.iconst 1, 1) := by decide +kernel
theorem dX4_writeIt_2 : decode cX4_writeIt 2 = .ok (.if_icmp .ne 49, 3) := by decide +kernel
theorem dX4_writeIt_5 : decode cX4_writeIt 5 = .ok (.aload_n 0, 1) := by decide +kernel
theorem dX4_writeIt_6 : decode cX4_writeIt 6 = .ok (.invokevirtual 79, 3) := by decide +kernel
theorem dX4_writeIt_9 : decode cX4_writeIt 9 = .ok (.ifCond .eq 12, 3) := by decide +kernel
theorem dX4_writeIt_12 : decode cX4_writeIt 12 = .ok (.aload_n 0, 1) := by decide +kernel
theorem dX4_writeIt_13 : decode cX4_writeIt 13 = .ok (.iload_n 1, 1) := by decide +kernel
theorem dX4_writeIt_14 : decode cX4_writeIt 14 = .ok (.iconst 5, 1) := by decide +kernel
theorem dX4_writeIt_15 : decode cX4_writeIt 15 = .ok (.invokevirtual 37, 3) := by decide +kernel
theorem dX4_writeIt_18 : decode cX4_writeIt 18 = .ok (.ifCond .ne 33, 3) := by decide +kernel
theorem dX4_writeIt_21 : decode cX4_writeIt 21 = .ok (.aload_n 0, 1) := by decide +kernel
theorem dX4_writeIt_22 : decode cX4_writeIt 22 = .ok (.iload_n 1, 1) := by decide +kernel
theorem dX4_writeIt_23 : decode cX4_writeIt 23 = .ok (.iload_n 3, 1) := by decide +kernel
theorem dX4_writeIt_24 : decode cX4_writeIt 24 = .ok (.invokevirtual 99, 3) := by decide +kernel
theorem dX4_writeIt_27 : decode cX4_writeIt 27 = .ok (.istore 4, 2) := by decide +kernel
theorem dX4_writeIt_29 : decode cX4_writeIt 29 = .ok (.aload_n 0, 1) := by decide +kernel
theorem dX4_writeIt_30 : decode cX4_writeIt 30 = .ok (.invokevirtual 79, 3) := by decide +kernel
theorem dX4_writeIt_33 : decode cX4_writeIt 33 = .ok (.ifCond .eq 11, 3) := by decide +kernel
theorem dX4_writeIt_36 : decode cX4_writeIt 36 = .ok (.aload_n 0, 1) := by decide +kernel
theorem dX4_writeIt_37 : decode cX4_writeIt 37 = .ok (.iload_n 1, 1) := by decide +kernel
theorem dX4_writeIt_38 : decode cX4_writeIt 38 = .ok (.iconst 5, 1) := by decide +kernel
theorem dX4_writeIt_39 : decode cX4_writeIt 39 = .ok (.iload 4, 2) := by decide +kernel
theorem dX4_writeIt_41 : decode cX4_writeIt 41 = .ok (.invokevirtual 41, 3) := by decide +kernel
theorem dX4_writeIt_44 : decode cX4_writeIt 44 = .ok (.aload_n 0, 1) := by decide +kernel
theorem dX4_writeIt_45 : decode cX4_writeIt 45 = .ok (.iload_n 1, 1) := by decide +kernel
theorem dX4_writeIt_46 : decode cX4_writeIt 46 = .ok (.iconst 2, 1) := by decide +kernel
theorem dX4_writeIt_47 : decode cX4_writeIt 47 = .ok (.invokevirtual 37, 3) := by decide +kernel
theorem dX4_writeIt_50 : decode cX4_writeIt 50 = .ok (.ireturn, 1) := by decide +kernel
theorem dX4_writeIt_51 : decode cX4_writeIt 51 = .ok (.aload_n 0, 1) := by decide +kernel
theorem dX4_writeIt_52 : decode cX4_writeIt 52 = .ok (.iload_n 1, 1) := by decide +kernel
theorem dX4_writeIt_53 : decode cX4_writeIt 53 = .ok (.iload_n 2, 1) := by decide +kernel
theorem dX4_writeIt_54 : decode cX4_writeIt 54 = .ok (.invokevirtual 96, 3) := by decide +kernel
theorem dX4_writeIt_57 : decode cX4_writeIt 57 = .ok (.istore 4, 2) := by decide +kernel
theorem dX4_writeIt_59 : decode cX4_writeIt 59 = .ok (.aload_n 0, 1) := by decide +kernel
theorem dX4_writeIt_60 : decode cX4_writeIt 60 = .ok (.iload_n 1, 1) := by decide +kernel
theorem dX4_writeIt_61 : decode cX4_writeIt 61 = .ok (.iload 4, 2) := by decide +kernel
theorem dX4_writeIt_63 : decode cX4_writeIt 63 = .ok (.iconst 2, 1) := by decide +kernel
theorem dX4_writeIt_64 : decode cX4_writeIt 64 = .ok (.iload_n 3, 1) := by decide +kernel
theorem dX4_writeIt_65 : decode cX4_writeIt 65 = .ok (.invokevirtual 72, 3) := by decide +kernel
theorem dX4_writeIt_68 : decode cX4_writeIt 68 = .ok (.aload_n 0, 1) := by decide +kernel
theorem dX4_writeIt_69 : decode cX4_writeIt 69 = .ok (.iload_n 1, 1) := by decide +kernel
theorem dX4_writeIt_70 : decode cX4_writeIt 70 = .ok (.iload 4, 2) := by decide +kernel
theorem dX4_writeIt_72 : decode cX4_writeIt 72 = .ok (.iconst 1, 1) := by decide +kernel
theorem dX4_writeIt_73 : decode cX4_writeIt 73 = .ok (.invokevirtual 45, 3) := by decide +kernel
theorem dX4_writeIt_76 : decode cX4_writeIt 76 = .ok (.ireturn, 1) := by decide +kernel
set_option maxRecDepth 20000 in
theorem ggX4_write_X4_isGroup : GoodIn wsX4_write wsX4_isGroup := goodIn_r _ [4, 5, 6, 3, 7] (by decide +kernel) (by decide +kernel)
set_option maxRecDepth 20000 in
theorem gX4_write_X4_isGroup : GoodIn wsX4_write (va_wsS RX4 92 yX4_isGroup wsX4_isGroup) := goodIn_app (goodIn_of _ (by decide +kernel)) ggX4_write_X4_isGroup
set_option maxRecDepth 20000 in
theorem ggX4_write_X4_isName : GoodIn wsX4_write wsX4_isName := goodIn_r _ [10, 5, 6, 3, 7] (by decide +kernel) (by decide +kernel)
set_option maxRecDepth 20000 in
theorem gX4_write_X4_isName : GoodIn wsX4_write (va_wsS RX4 102 yX4_isName wsX4_isName) := goodIn_app (goodIn_of _ (by decide +kernel)) ggX4_write_X4_isName
set_option maxRecDepth 20000 in
theorem ggX4_write_X4_in : GoodIn wsX4_write wsX4_in := goodIn_r _ [7] (by decide +kernel) (by decide +kernel)
set_option maxRecDepth 20000 in
theorem gX4_write_X4_in : GoodIn wsX4_write (va_wsS RX4 33 yX4_in wsX4_in) := goodIn_app (goodIn_of _ (by decide +kernel)) ggX4_write_X4_in
set_option maxRecDepth 20000 in
theorem ggX4_write_X4_canWrite : GoodIn wsX4_write wsX4_canWrite := goodIn_r _ [14, 15, 16, 17, 3, 18, 19, 20, 21, 22, 23, 24, 25, 26, 27, 28, 29, 30, 31, 32, 33, 34, 35, 36, 37, 38, 39, 40, 41, 42, 43, 44, 45, 46, 47, 81, 82, 83, 84, 85, 86, 87, 88, 89, 90, 91, 92] (by decide +kernel) (by decide +kernel)
set_option maxRecDepth 20000 in
theorem gX4_write_X4_canWrite : GoodIn wsX4_write (wsV RX4 105 RX4 yX4_canWrite wsX4_canWrite) := goodIn_app (goodIn_of _ (by decide +kernel)) ggX4_write_X4_canWrite
set_option maxRecDepth 20000 in
theorem ggX4_write_X4_record : GoodIn wsX4_write wsX4_record := goodIn_r _ [51, 52, 53, 19, 81, 82, 83, 84, 85, 86, 87, 88, 89, 90, 91, 92] (by decide +kernel) (by decide +kernel)
set_option maxRecDepth 20000 in
theorem gX4_write_X4_record : GoodIn wsX4_write (wsV RX4 57 RX4 yX4_record wsX4_record) := goodIn_app (goodIn_of _ (by decide +kernel)) ggX4_write_X4_record
set_option maxRecDepth 20000 in
theorem ggX4_write_X4_writeIt : GoodIn wsX4_write wsX4_writeIt := goodIn_r _ [57, 15, 16, 17, 3, 18, 19, 20, 21, 22, 23, 58, 59, 60, 61, 36, 37, 38, 39, 40, 41, 42, 43, 62, 63, 64, 65, 66, 67, 68, 69, 70, 71, 72, 73, 74, 75, 76, 44, 45, 46, 47, 77, 78, 79, 80, 24, 25, 26, 27, 28, 29, 30, 31, 32, 33, 34, 35, 81, 82, 83, 84, 85, 86, 87, 88, 89, 90, 91, 92] (by decide +kernel) (by decide +kernel)
set_option maxRecDepth 20000 in
theorem gX4_write_X4_writeIt : GoodIn wsX4_write (wsV RX4 108 RX4 yX4_writeIt wsX4_writeIt) := goodIn_app (goodIn_of _ (by decide +kernel)) ggX4_write_X4_writeIt
theorem dX4_write_0 : decode cX4_write 0 = .ok (.iload_n 1, 1) := by decide +kernel
theorem dX4_write_1 : decode cX4_write 1 = .ok (.invokestatic 92, 3) := by decide +kernel
theorem dX4_write_4 : decode cX4_write 4 = .ok (.ifCond .ne 5, 3) := by decide +kernel
theorem dX4_write_7 : decode cX4_write 7 = .ok (.iconst (-1), 1) := by decide +kernel
theorem dX4_write_8 : decode cX4_write 8 = .ok (.ireturn, 1) := by decide +kernel
theorem dX4_write_9 : decode cX4_write 9 = .ok (.iload_n 2, 1) := by decide +kernel
theorem dX4_write_10 : decode cX4_write 10 = .ok (.invokestatic 102, 3) := by decide +kernel
theorem dX4_write_13 : decode cX4_write 13 = .ok (.ifCond .eq 14, 3) := by decide +kernel
theorem dX4_write_16 : decode cX4_write 16 = .ok (.iload_n 3, 1) := by decide +kernel
theorem dX4_write_17 : decode cX4_write 17 = .ok (.iconst 0, 1) := by decide +kernel
theorem dX4_write_18 : decode cX4_write 18 = .ok (.sipush 9999, 3) := by decide +kernel
theorem dX4_write_21 : decode cX4_write 21 = .ok (.invokestatic 33, 3) := by decide +kernel
theorem dX4_write_24 : decode cX4_write 24 = .ok (.ifCond .ne 6, 3) := by decide +kernel
theorem dX4_write_27 : decode cX4_write 27 = .ok (.bipush (-2), 2) := by decide +kernel
theorem dX4_write_29 : decode cX4_write 29 = .ok (.ireturn, 1) := by decide +kernel
theorem dX4_write_30 : decode cX4_write 30 = .ok (.aload_n 0, 1) := by decide +kernel
theorem dX4_write_31 : decode cX4_write 31 = .ok (.iload_n 1, 1) := by decide +kernel
theorem dX4_write_32 : decode cX4_write 32 = .ok (.iload_n 2, 1) := by decide +kernel
theorem dX4_write_33 : decode cX4_write 33 = .ok (.invokevirtual 105, 3) := by decide +kernel
theorem dX4_write_36 : decode cX4_write 36 = .ok (.ifCond .ne 6, 3) := by decide +kernel
theorem dX4_write_39 : decode cX4_write 39 = .ok (.bipush (-5), 2) := by decide +kernel
theorem dX4_write_41 : decode cX4_write 41 = .ok (.ireturn, 1) := by decide +kernel
theorem dX4_write_42 : decode cX4_write 42 = .ok (.aload_n 0, 1) := by decide +kernel
theorem dX4_write_43 : decode cX4_write 43 = .ok (.invokevirtual 57, 3) := by decide +kernel
theorem dX4_write_46 : decode cX4_write 46 = .ok (.aload_n 0, 1) := by decide +kernel
theorem dX4_write_47 : decode cX4_write 47 = .ok (.iload_n 1, 1) := by decide +kernel
theorem dX4_write_48 : decode cX4_write 48 = .ok (.iload_n 2, 1) := by decide +kernel
theorem dX4_write_49 : decode cX4_write 49 = .ok (.iload_n 3, 1) := by decide +kernel
theorem dX4_write_50 : decode cX4_write 50 = .ok (.invokevirtual 108, 3) := by decide +kernel
theorem dX4_write_53 : decode cX4_write 53 = .ok (.ireturn, 1) := by decide +kernel
set_option maxRecDepth 20000 in
theorem ggX4_readIt_X4_told : GoodIn wsX4_readIt wsX4_told := goodIn_r _ [6, 7, 8, 9, 5, 10, 1, 11, 12, 13, 14, 15, 16, 17, 18, 19, 20, 21, 22, 23, 24, 25, 26, 27, 28, 29, 30, 31, 32, 33, 34, 43, 44, 45, 46, 47, 48, 49, 50, 51, 52, 53, 54] (by decide +kernel) (by decide +kernel)
set_option maxRecDepth 20000 in
theorem gX4_readIt_X4_told : GoodIn wsX4_readIt (wsV RX4 96 RX4 yX4_told wsX4_told) := goodIn_app (goodIn_of _ (by decide +kernel)) ggX4_readIt_X4_told
set_option maxRecDepth 20000 in
theorem ggX4_readIt_X4_gen : GoodIn wsX4_readIt wsX4_gen := goodIn_r _ [30, 15, 16, 17, 5, 18, 1, 43, 44, 45, 46, 47, 48, 49, 50, 51, 52, 53, 54] (by decide +kernel) (by decide +kernel)
set_option maxRecDepth 20000 in
theorem gX4_readIt_X4_gen : GoodIn wsX4_readIt (wsV RX4 45 RX4 yX4_gen wsX4_gen) := goodIn_app (goodIn_of _ (by decide +kernel)) ggX4_readIt_X4_gen
set_option maxRecDepth 20000 in
theorem ggX4_readIt_X4_layGen : GoodIn wsX4_readIt wsX4_layGen := goodIn_r _ [38, 39, 40, 41, 5, 42, 1, 43, 44, 45, 46, 47, 48, 49, 50, 51, 52, 53, 54] (by decide +kernel) (by decide +kernel)
set_option maxRecDepth 20000 in
theorem gX4_readIt_X4_layGen : GoodIn wsX4_readIt (wsV RX4 72 RX4 yX4_layGen wsX4_layGen) := goodIn_app (goodIn_of _ (by decide +kernel)) ggX4_readIt_X4_layGen
theorem dX4_readIt_0 : decode cX4_readIt 0 = .ok (.aload_n 0, 1) := by decide +kernel
theorem dX4_readIt_1 : decode cX4_readIt 1 = .ok (.getfield 7, 3) := by decide +kernel
theorem dX4_readIt_4 : decode cX4_readIt 4 = .ok (.iconst 4, 1) := by decide +kernel
theorem dX4_readIt_5 : decode cX4_readIt 5 = .ok (.dup2, 1) := by decide +kernel
theorem dX4_readIt_6 : decode cX4_readIt 6 = .ok (.iaload, 1) := by decide +kernel
theorem dX4_readIt_7 : decode cX4_readIt 7 = .ok (.iconst 1, 1) := by decide +kernel
theorem dX4_readIt_8 : decode cX4_readIt 8 = .ok (.iadd, 1) := by decide +kernel
theorem dX4_readIt_9 : decode cX4_readIt 9 = .ok (.iastore, 1) := by decide +kernel
theorem dX4_readIt_10 : decode cX4_readIt 10 = .ok (.aload_n 0, 1) := by decide +kernel
theorem dX4_readIt_11 : decode cX4_readIt 11 = .ok (.iload_n 1, 1) := by decide +kernel
theorem dX4_readIt_12 : decode cX4_readIt 12 = .ok (.iload_n 2, 1) := by decide +kernel
theorem dX4_readIt_13 : decode cX4_readIt 13 = .ok (.invokevirtual 96, 3) := by decide +kernel
theorem dX4_readIt_16 : decode cX4_readIt 16 = .ok (.istore_n 3, 1) := by decide +kernel
theorem dX4_readIt_17 : decode cX4_readIt 17 = .ok (.iload_n 3, 1) := by decide +kernel
theorem dX4_readIt_18 : decode cX4_readIt 18 = .ok (.bipush (-6), 2) := by decide +kernel
theorem dX4_readIt_20 : decode cX4_readIt 20 = .ok (.if_icmp .ne 16, 3) := by decide +kernel
theorem dX4_readIt_23 : decode cX4_readIt 23 = .ok (.aload_n 0, 1) := by decide +kernel
theorem dX4_readIt_24 : decode cX4_readIt 24 = .ok (.getfield 7, 3) := by decide +kernel
theorem dX4_readIt_27 : decode cX4_readIt 27 = .ok (.iconst 5, 1) := by decide +kernel
theorem dX4_readIt_28 : decode cX4_readIt 28 = .ok (.dup2, 1) := by decide +kernel
theorem dX4_readIt_29 : decode cX4_readIt 29 = .ok (.iaload, 1) := by decide +kernel
theorem dX4_readIt_30 : decode cX4_readIt 30 = .ok (.iconst 1, 1) := by decide +kernel
theorem dX4_readIt_31 : decode cX4_readIt 31 = .ok (.iadd, 1) := by decide +kernel
theorem dX4_readIt_32 : decode cX4_readIt 32 = .ok (.iastore, 1) := by decide +kernel
theorem dX4_readIt_33 : decode cX4_readIt 33 = .ok (.bipush (-6), 2) := by decide +kernel
theorem dX4_readIt_35 : decode cX4_readIt 35 = .ok (.ireturn, 1) := by decide +kernel
theorem dX4_readIt_36 : decode cX4_readIt 36 = .ok (.aload_n 0, 1) := by decide +kernel
theorem dX4_readIt_37 : decode cX4_readIt 37 = .ok (.iload_n 1, 1) := by decide +kernel
theorem dX4_readIt_38 : decode cX4_readIt 38 = .ok (.iload_n 3, 1) := by decide +kernel
theorem dX4_readIt_39 : decode cX4_readIt 39 = .ok (.iconst 3, 1) := by decide +kernel
theorem dX4_readIt_40 : decode cX4_readIt 40 = .ok (.aload_n 0, 1) := by decide +kernel
theorem dX4_readIt_41 : decode cX4_readIt 41 = .ok (.iload_n 1, 1) := by decide +kernel
theorem dX4_readIt_42 : decode cX4_readIt 42 = .ok (.iload_n 3, 1) := by decide +kernel
theorem dX4_readIt_43 : decode cX4_readIt 43 = .ok (.iconst 3, 1) := by decide +kernel
theorem dX4_readIt_44 : decode cX4_readIt 44 = .ok (.invokevirtual 45, 3) := by decide +kernel
theorem dX4_readIt_47 : decode cX4_readIt 47 = .ok (.iconst 1, 1) := by decide +kernel
theorem dX4_readIt_48 : decode cX4_readIt 48 = .ok (.iadd, 1) := by decide +kernel
theorem dX4_readIt_49 : decode cX4_readIt 49 = .ok (.invokevirtual 72, 3) := by decide +kernel
theorem dX4_readIt_52 : decode cX4_readIt 52 = .ok (.aload_n 0, 1) := by decide +kernel
theorem dX4_readIt_53 : decode cX4_readIt 53 = .ok (.iload_n 1, 1) := by decide +kernel
theorem dX4_readIt_54 : decode cX4_readIt 54 = .ok (.iload_n 3, 1) := by decide +kernel
theorem dX4_readIt_55 : decode cX4_readIt 55 = .ok (.iconst 2, 1) := by decide +kernel
theorem dX4_readIt_56 : decode cX4_readIt 56 = .ok (.invokevirtual 45, 3) := by decide +kernel
theorem dX4_readIt_59 : decode cX4_readIt 59 = .ok (.ireturn, 1) := by decide +kernel
set_option maxRecDepth 20000 in
theorem ggX4_read_X4_isGroup : GoodIn wsX4_read wsX4_isGroup := goodIn_r _ [4, 5, 6, 3, 7] (by decide +kernel) (by decide +kernel)
set_option maxRecDepth 20000 in
theorem gX4_read_X4_isGroup : GoodIn wsX4_read (va_wsS RX4 92 yX4_isGroup wsX4_isGroup) := goodIn_app (goodIn_of _ (by decide +kernel)) ggX4_read_X4_isGroup
set_option maxRecDepth 20000 in
theorem ggX4_read_X4_isName : GoodIn wsX4_read wsX4_isName := goodIn_r _ [10, 5, 6, 3, 7] (by decide +kernel) (by decide +kernel)
set_option maxRecDepth 20000 in
theorem gX4_read_X4_isName : GoodIn wsX4_read (va_wsS RX4 102 yX4_isName wsX4_isName) := goodIn_app (goodIn_of _ (by decide +kernel)) ggX4_read_X4_isName
set_option maxRecDepth 20000 in
theorem ggX4_read_X4_record : GoodIn wsX4_read wsX4_record := goodIn_r _ [14, 15, 16, 17, 62, 63, 64, 65, 66, 67, 68, 69, 70, 71, 72, 73] (by decide +kernel) (by decide +kernel)
set_option maxRecDepth 20000 in
theorem gX4_read_X4_record : GoodIn wsX4_read (wsV RX4 57 RX4 yX4_record wsX4_record) := goodIn_app (goodIn_of _ (by decide +kernel)) ggX4_read_X4_record
set_option maxRecDepth 20000 in
theorem ggX4_read_X4_readIt : GoodIn wsX4_read wsX4_readIt := goodIn_r _ [21, 17, 22, 23, 24, 3, 25, 26, 27, 28, 29, 30, 31, 32, 33, 34, 35, 36, 37, 38, 39, 40, 41, 42, 43, 44, 45, 46, 47, 48, 49, 50, 51, 52, 53, 54, 55, 56, 57, 58, 59, 60, 61, 62, 63, 64, 65, 66, 67, 68, 69, 70, 71, 72, 73] (by decide +kernel) (by decide +kernel)
set_option maxRecDepth 20000 in
theorem gX4_read_X4_readIt : GoodIn wsX4_read (wsV RX4 111 RX4 yX4_readIt wsX4_readIt) := goodIn_app (goodIn_of _ (by decide +kernel)) ggX4_read_X4_readIt
theorem dX4_read_0 : decode cX4_read 0 = .ok (.iload_n 1, 1) := by decide +kernel
theorem dX4_read_1 : decode cX4_read 1 = .ok (.invokestatic 92, 3) := by decide +kernel
theorem dX4_read_4 : decode cX4_read 4 = .ok (.ifCond .ne 5, 3) := by decide +kernel
theorem dX4_read_7 : decode cX4_read 7 = .ok (.iconst (-1), 1) := by decide +kernel
theorem dX4_read_8 : decode cX4_read 8 = .ok (.ireturn, 1) := by decide +kernel
theorem dX4_read_9 : decode cX4_read 9 = .ok (.iload_n 2, 1) := by decide +kernel
theorem dX4_read_10 : decode cX4_read 10 = .ok (.invokestatic 102, 3) := by decide +kernel
theorem dX4_read_13 : decode cX4_read 13 = .ok (.ifCond .ne 6, 3) := by decide +kernel
theorem dX4_read_16 : decode cX4_read 16 = .ok (.bipush (-2), 2) := by decide +kernel
theorem dX4_read_18 : decode cX4_read 18 = .ok (.ireturn, 1) := by decide +kernel
theorem dX4_read_19 : decode cX4_read 19 = .ok (.aload_n 0, 1) := by decide +kernel
theorem dX4_read_20 : decode cX4_read 20 = .ok (.invokevirtual 57, 3) := by decide +kernel
theorem dX4_read_23 : decode cX4_read 23 = .ok (.aload_n 0, 1) := by decide +kernel
theorem dX4_read_24 : decode cX4_read 24 = .ok (.iload_n 1, 1) := by decide +kernel
theorem dX4_read_25 : decode cX4_read 25 = .ok (.iload_n 2, 1) := by decide +kernel
theorem dX4_read_26 : decode cX4_read 26 = .ok (.invokevirtual 111, 3) := by decide +kernel
theorem dX4_read_29 : decode cX4_read 29 = .ok (.ireturn, 1) := by decide +kernel
set_option maxRecDepth 20000 in
theorem ggX4_deleteIt_X4_told : GoodIn wsX4_deleteIt wsX4_told := goodIn_r _ [5, 6, 7, 8, 4, 9, 10, 11, 12, 13, 14, 15, 16, 17, 18, 19, 20, 21, 22, 23, 24, 25, 26, 27, 28, 29, 30, 31, 32, 33, 34, 51, 52, 53, 54, 55, 56, 57, 58, 59, 60, 61, 62] (by decide +kernel) (by decide +kernel)
set_option maxRecDepth 20000 in
theorem gX4_deleteIt_X4_told : GoodIn wsX4_deleteIt (wsV RX4 96 RX4 yX4_told wsX4_told) := goodIn_app (goodIn_of _ (by decide +kernel)) ggX4_deleteIt_X4_told
set_option maxRecDepth 20000 in
theorem ggX4_deleteIt_X4_gen : GoodIn wsX4_deleteIt wsX4_gen := goodIn_r _ [30, 15, 16, 17, 4, 18, 10, 51, 52, 53, 54, 55, 56, 57, 58, 59, 60, 61, 62] (by decide +kernel) (by decide +kernel)
set_option maxRecDepth 20000 in
theorem gX4_deleteIt_X4_gen : GoodIn wsX4_deleteIt (wsV RX4 45 RX4 yX4_gen wsX4_gen) := goodIn_app (goodIn_of _ (by decide +kernel)) ggX4_deleteIt_X4_gen
set_option maxRecDepth 20000 in
theorem ggX4_deleteIt_X4_deleteAt : GoodIn wsX4_deleteIt wsX4_deleteAt := goodIn_r _ [38, 39, 40, 41, 4, 42, 43, 44, 45, 46, 10, 15, 16, 17, 18, 47, 48, 49, 50, 23, 24, 25, 26, 31, 32, 33, 34, 27, 28, 29, 30, 51, 52, 53, 54, 55, 56, 57, 58, 59, 60, 61, 62] (by decide +kernel) (by decide +kernel)
set_option maxRecDepth 20000 in
theorem gX4_deleteIt_X4_deleteAt : GoodIn wsX4_deleteIt (wsV RX4 114 RX4 yX4_deleteAt wsX4_deleteAt) := goodIn_app (goodIn_of _ (by decide +kernel)) ggX4_deleteIt_X4_deleteAt
theorem dX4_deleteIt_0 : decode cX4_deleteIt 0 = .ok (.aload_n 0, 1) := by decide +kernel
theorem dX4_deleteIt_1 : decode cX4_deleteIt 1 = .ok (.iload_n 1, 1) := by decide +kernel
theorem dX4_deleteIt_2 : decode cX4_deleteIt 2 = .ok (.iload_n 2, 1) := by decide +kernel
theorem dX4_deleteIt_3 : decode cX4_deleteIt 3 = .ok (.invokevirtual 96, 3) := by decide +kernel
theorem dX4_deleteIt_6 : decode cX4_deleteIt 6 = .ok (.istore_n 3, 1) := by decide +kernel
theorem dX4_deleteIt_7 : decode cX4_deleteIt 7 = .ok (.aload_n 0, 1) := by decide +kernel
theorem dX4_deleteIt_8 : decode cX4_deleteIt 8 = .ok (.iload_n 1, 1) := by decide +kernel
theorem dX4_deleteIt_9 : decode cX4_deleteIt 9 = .ok (.iload_n 3, 1) := by decide +kernel
theorem dX4_deleteIt_10 : decode cX4_deleteIt 10 = .ok (.iconst 1, 1) := by decide +kernel
theorem dX4_deleteIt_11 : decode cX4_deleteIt 11 = .ok (.invokevirtual 45, 3) := by decide +kernel
theorem dX4_deleteIt_14 : decode cX4_deleteIt 14 = .ok (.istore 4, 2) := by decide +kernel
theorem dX4_deleteIt_16 : decode cX4_deleteIt 16 = .ok (.aload_n 0, 1) := by decide +kernel
theorem dX4_deleteIt_17 : decode cX4_deleteIt 17 = .ok (.iload_n 1, 1) := by decide +kernel
theorem dX4_deleteIt_18 : decode cX4_deleteIt 18 = .ok (.iload_n 3, 1) := by decide +kernel
theorem dX4_deleteIt_19 : decode cX4_deleteIt 19 = .ok (.invokevirtual 114, 3) := by decide +kernel
theorem dX4_deleteIt_22 : decode cX4_deleteIt 22 = .ok (.iload 4, 2) := by decide +kernel
theorem dX4_deleteIt_24 : decode cX4_deleteIt 24 = .ok (.ireturn, 1) := by decide +kernel
set_option maxRecDepth 20000 in
theorem ggX4_delete_X4_isGroup : GoodIn wsX4_delete wsX4_isGroup := goodIn_r _ [4, 5, 6, 3, 7] (by decide +kernel) (by decide +kernel)
set_option maxRecDepth 20000 in
theorem gX4_delete_X4_isGroup : GoodIn wsX4_delete (va_wsS RX4 92 yX4_isGroup wsX4_isGroup) := goodIn_app (goodIn_of _ (by decide +kernel)) ggX4_delete_X4_isGroup
set_option maxRecDepth 20000 in
theorem ggX4_delete_X4_isName : GoodIn wsX4_delete wsX4_isName := goodIn_r _ [10, 5, 6, 3, 7] (by decide +kernel) (by decide +kernel)
set_option maxRecDepth 20000 in
theorem gX4_delete_X4_isName : GoodIn wsX4_delete (va_wsS RX4 102 yX4_isName wsX4_isName) := goodIn_app (goodIn_of _ (by decide +kernel)) ggX4_delete_X4_isName
set_option maxRecDepth 20000 in
theorem ggX4_delete_X4_told : GoodIn wsX4_delete wsX4_told := goodIn_r _ [14, 15, 16, 17, 3, 18, 19, 20, 21, 22, 23, 24, 25, 26, 27, 28, 29, 30, 31, 32, 33, 34, 35, 36, 37, 38, 39, 40, 41, 42, 43, 70, 71, 72, 73, 74, 75, 76, 77, 78, 79, 80, 81] (by decide +kernel) (by decide +kernel)
set_option maxRecDepth 20000 in
theorem gX4_delete_X4_told : GoodIn wsX4_delete (wsV RX4 96 RX4 yX4_told wsX4_told) := goodIn_app (goodIn_of _ (by decide +kernel)) ggX4_delete_X4_told
set_option maxRecDepth 20000 in
theorem ggX4_delete_X4_record : GoodIn wsX4_delete wsX4_record := goodIn_r _ [47, 48, 49, 19, 70, 71, 72, 73, 74, 75, 76, 77, 78, 79, 80, 81] (by decide +kernel) (by decide +kernel)
set_option maxRecDepth 20000 in
theorem gX4_delete_X4_record : GoodIn wsX4_delete (wsV RX4 57 RX4 yX4_record wsX4_record) := goodIn_app (goodIn_of _ (by decide +kernel)) ggX4_delete_X4_record
set_option maxRecDepth 20000 in
theorem ggX4_delete_X4_deleteIt : GoodIn wsX4_delete wsX4_deleteIt := goodIn_r _ [53, 11, 12, 13, 3, 14, 15, 16, 17, 18, 19, 20, 21, 22, 23, 24, 25, 26, 27, 28, 29, 30, 31, 32, 33, 34, 35, 36, 37, 38, 39, 40, 41, 42, 43, 54, 55, 56, 57, 58, 59, 60, 61, 62, 63, 64, 65, 66, 67, 68, 69, 70, 71, 72, 73, 74, 75, 76, 77, 78, 79, 80, 81] (by decide +kernel) (by decide +kernel)
set_option maxRecDepth 20000 in
theorem gX4_delete_X4_deleteIt : GoodIn wsX4_delete (wsV RX4 118 RX4 yX4_deleteIt wsX4_deleteIt) := goodIn_app (goodIn_of _ (by decide +kernel)) ggX4_delete_X4_deleteIt
theorem dX4_delete_0 : decode cX4_delete 0 = .ok (.iload_n 1, 1) := by decide +kernel
theorem dX4_delete_1 : decode cX4_delete 1 = .ok (.invokestatic 92, 3) := by decide +kernel
theorem dX4_delete_4 : decode cX4_delete 4 = .ok (.ifCond .ne 5, 3) := by decide +kernel
theorem dX4_delete_7 : decode cX4_delete 7 = .ok (.iconst (-1), 1) := by decide +kernel
theorem dX4_delete_8 : decode cX4_delete 8 = .ok (.ireturn, 1) := by decide +kernel
theorem dX4_delete_9 : decode cX4_delete 9 = .ok (.iload_n 2, 1) := by decide +kernel
theorem dX4_delete_10 : decode cX4_delete 10 = .ok (.invokestatic 102, 3) := by decide +kernel
theorem dX4_delete_13 : decode cX4_delete 13 = .ok (.ifCond .ne 6, 3) := by decide +kernel
theorem dX4_delete_16 : decode cX4_delete 16 = .ok (.bipush (-2), 2) := by decide +kernel
theorem dX4_delete_18 : decode cX4_delete 18 = .ok (.ireturn, 1) := by decide +kernel
theorem dX4_delete_19 : decode cX4_delete 19 = .ok (.aload_n 0, 1) := by decide +kernel
theorem dX4_delete_20 : decode cX4_delete 20 = .ok (.iload_n 1, 1) := by decide +kernel
theorem dX4_delete_21 : decode cX4_delete 21 = .ok (.iload_n 2, 1) := by decide +kernel
theorem dX4_delete_22 : decode cX4_delete 22 = .ok (.invokevirtual 96, 3) := by decide +kernel
theorem dX4_delete_25 : decode cX4_delete 25 = .ok (.bipush (-6), 2) := by decide +kernel
theorem dX4_delete_27 : decode cX4_delete 27 = .ok (.if_icmp .ne 6, 3) := by decide +kernel
theorem dX4_delete_30 : decode cX4_delete 30 = .ok (.bipush (-5), 2) := by decide +kernel
theorem dX4_delete_32 : decode cX4_delete 32 = .ok (.ireturn, 1) := by decide +kernel
theorem dX4_delete_33 : decode cX4_delete 33 = .ok (.aload_n 0, 1) := by decide +kernel
theorem dX4_delete_34 : decode cX4_delete 34 = .ok (.invokevirtual 57, 3) := by decide +kernel
theorem dX4_delete_37 : decode cX4_delete 37 = .ok (.aload_n 0, 1) := by decide +kernel
theorem dX4_delete_38 : decode cX4_delete 38 = .ok (.iload_n 1, 1) := by decide +kernel
theorem dX4_delete_39 : decode cX4_delete 39 = .ok (.iload_n 2, 1) := by decide +kernel
theorem dX4_delete_40 : decode cX4_delete 40 = .ok (.invokevirtual 118, 3) := by decide +kernel
theorem dX4_delete_43 : decode cX4_delete 43 = .ok (.ireturn, 1) := by decide +kernel
set_option maxRecDepth 20000 in
theorem ggX4_start_X4_lay : GoodIn wsX4_start wsX4_lay := goodIn_r _ [6, 1, 7, 8, 9, 10, 11, 12, 13, 14, 15, 16, 17, 18] (by decide +kernel) (by decide +kernel)
set_option maxRecDepth 20000 in
theorem gX4_start_X4_lay : GoodIn wsX4_start (wsV RX4 41 RX4 yX4_lay wsX4_lay) := goodIn_app (goodIn_of _ (by decide +kernel)) ggX4_start_X4_lay
theorem dX4_start_0 : decode cX4_start 0 = .ok (.aload_n 0, 1) := by decide +kernel
theorem dX4_start_1 : decode cX4_start 1 = .ok (.getfield 7, 3) := by decide +kernel
theorem dX4_start_4 : decode cX4_start 4 = .ok (.iconst 1, 1) := by decide +kernel
theorem dX4_start_5 : decode cX4_start 5 = .ok (.iconst 1, 1) := by decide +kernel
theorem dX4_start_6 : decode cX4_start 6 = .ok (.iastore, 1) := by decide +kernel
theorem dX4_start_7 : decode cX4_start 7 = .ok (.aload_n 0, 1) := by decide +kernel
theorem dX4_start_8 : decode cX4_start 8 = .ok (.getfield 7, 3) := by decide +kernel
theorem dX4_start_11 : decode cX4_start 11 = .ok (.iconst 2, 1) := by decide +kernel
theorem dX4_start_12 : decode cX4_start 12 = .ok (.iconst 0, 1) := by decide +kernel
theorem dX4_start_13 : decode cX4_start 13 = .ok (.iastore, 1) := by decide +kernel
theorem dX4_start_14 : decode cX4_start 14 = .ok (.aload_n 0, 1) := by decide +kernel
theorem dX4_start_15 : decode cX4_start 15 = .ok (.getfield 7, 3) := by decide +kernel
theorem dX4_start_18 : decode cX4_start 18 = .ok (.iconst 0, 1) := by decide +kernel
theorem dX4_start_19 : decode cX4_start 19 = .ok (.dup2, 1) := by decide +kernel
theorem dX4_start_20 : decode cX4_start 20 = .ok (.iaload, 1) := by decide +kernel
theorem dX4_start_21 : decode cX4_start 21 = .ok (.iconst 1, 1) := by decide +kernel
theorem dX4_start_22 : decode cX4_start 22 = .ok (.iadd, 1) := by decide +kernel
theorem dX4_start_23 : decode cX4_start 23 = .ok (.iastore, 1) := by decide +kernel
theorem dX4_start_24 : decode cX4_start 24 = .ok (.iconst 0, 1) := by decide +kernel
theorem dX4_start_25 : decode cX4_start 25 = .ok (.istore_n 1, 1) := by decide +kernel
theorem dX4_start_26 : decode cX4_start 26 = .ok (.iload_n 1, 1) := by decide +kernel
theorem dX4_start_27 : decode cX4_start 27 = .ok (.bipush 6, 2) := by decide +kernel
theorem dX4_start_29 : decode cX4_start 29 = .ok (.if_icmp .ge 16, 3) := by decide +kernel
theorem dX4_start_32 : decode cX4_start 32 = .ok (.aload_n 0, 1) := by decide +kernel
theorem dX4_start_33 : decode cX4_start 33 = .ok (.iload_n 1, 1) := by decide +kernel
theorem dX4_start_34 : decode cX4_start 34 = .ok (.iconst 5, 1) := by decide +kernel
theorem dX4_start_35 : decode cX4_start 35 = .ok (.iconst 0, 1) := by decide +kernel
theorem dX4_start_36 : decode cX4_start 36 = .ok (.invokevirtual 41, 3) := by decide +kernel
theorem dX4_start_39 : decode cX4_start 39 = .ok (.iinc 1 1, 3) := by decide +kernel
theorem dX4_start_42 : decode cX4_start 42 = .ok (.goto (-16), 3) := by decide +kernel
theorem dX4_start_45 : decode cX4_start 45 = .ok (.aload_n 0, 1) := by decide +kernel
theorem dX4_start_46 : decode cX4_start 46 = .ok (.getfield 7, 3) := by decide +kernel
theorem dX4_start_49 : decode cX4_start 49 = .ok (.iconst 0, 1) := by decide +kernel
theorem dX4_start_50 : decode cX4_start 50 = .ok (.iaload, 1) := by decide +kernel
theorem dX4_start_51 : decode cX4_start 51 = .ok (.ireturn, 1) := by decide +kernel
set_option maxRecDepth 20000 in
theorem ggX4_beginIt_X4_many : GoodIn wsX4_beginIt wsX4_many := goodIn_r _ [5, 6, 7, 8, 4, 9, 10, 23, 24, 25, 26, 27, 28, 29, 30, 31, 32, 33, 34] (by decide +kernel) (by decide +kernel)
set_option maxRecDepth 20000 in
theorem gX4_beginIt_X4_many : GoodIn wsX4_beginIt (wsV RX4 60 RX4 yX4_many wsX4_many) := goodIn_app (goodIn_of _ (by decide +kernel)) ggX4_beginIt_X4_many
set_option maxRecDepth 20000 in
theorem ggX4_beginIt_X4_gen : GoodIn wsX4_beginIt wsX4_gen := goodIn_r _ [14, 6, 7, 8, 4, 9, 10, 23, 24, 25, 26, 27, 28, 29, 30, 31, 32, 33, 34] (by decide +kernel) (by decide +kernel)
set_option maxRecDepth 20000 in
theorem gX4_beginIt_X4_gen : GoodIn wsX4_beginIt (wsV RX4 45 RX4 yX4_gen wsX4_gen) := goodIn_app (goodIn_of _ (by decide +kernel)) ggX4_beginIt_X4_gen
set_option maxRecDepth 20000 in
theorem ggX4_beginIt_X4_lay : GoodIn wsX4_beginIt wsX4_lay := goodIn_r _ [18, 10, 23, 24, 25, 26, 27, 28, 29, 30, 31, 32, 33, 34] (by decide +kernel) (by decide +kernel)
set_option maxRecDepth 20000 in
theorem gX4_beginIt_X4_lay : GoodIn wsX4_beginIt (wsV RX4 41 RX4 yX4_lay wsX4_lay) := goodIn_app (goodIn_of _ (by decide +kernel)) ggX4_beginIt_X4_lay
set_option maxRecDepth 20000 in
theorem ggX4_beginIt_X4_start : GoodIn wsX4_beginIt wsX4_start := goodIn_r _ [22, 10, 15, 16, 17, 4, 18, 23, 24, 25, 26, 27, 28, 29, 30, 31, 32, 33, 34] (by decide +kernel) (by decide +kernel)
set_option maxRecDepth 20000 in
theorem gX4_beginIt_X4_start : GoodIn wsX4_beginIt (wsV RX4 121 RX4 yX4_start wsX4_start) := goodIn_app (goodIn_of _ (by decide +kernel)) ggX4_beginIt_X4_start
theorem dX4_beginIt_0 : decode cX4_beginIt 0 = .ok (.iconst 0, 1) := by decide +kernel
theorem dX4_beginIt_1 : decode cX4_beginIt 1 = .ok (.istore_n 1, 1) := by decide +kernel
theorem dX4_beginIt_2 : decode cX4_beginIt 2 = .ok (.iload_n 1, 1) := by decide +kernel
theorem dX4_beginIt_3 : decode cX4_beginIt 3 = .ok (.bipush 6, 2) := by decide +kernel
theorem dX4_beginIt_5 : decode cX4_beginIt 5 = .ok (.if_icmp .ge 52, 3) := by decide +kernel
theorem dX4_beginIt_8 : decode cX4_beginIt 8 = .ok (.iconst 0, 1) := by decide +kernel
theorem dX4_beginIt_9 : decode cX4_beginIt 9 = .ok (.istore_n 2, 1) := by decide +kernel
theorem dX4_beginIt_10 : decode cX4_beginIt 10 = .ok (.iload_n 2, 1) := by decide +kernel
theorem dX4_beginIt_11 : decode cX4_beginIt 11 = .ok (.bipush 8, 2) := by decide +kernel
theorem dX4_beginIt_13 : decode cX4_beginIt 13 = .ok (.if_icmp .ge 38, 3) := by decide +kernel
theorem dX4_beginIt_16 : decode cX4_beginIt 16 = .ok (.aload_n 0, 1) := by decide +kernel
theorem dX4_beginIt_17 : decode cX4_beginIt 17 = .ok (.iload_n 1, 1) := by decide +kernel
theorem dX4_beginIt_18 : decode cX4_beginIt 18 = .ok (.bipush 7, 2) := by decide +kernel
theorem dX4_beginIt_20 : decode cX4_beginIt 20 = .ok (.iload_n 2, 1) := by decide +kernel
theorem dX4_beginIt_21 : decode cX4_beginIt 21 = .ok (.iadd, 1) := by decide +kernel
theorem dX4_beginIt_22 : decode cX4_beginIt 22 = .ok (.iload_n 2, 1) := by decide +kernel
theorem dX4_beginIt_23 : decode cX4_beginIt 23 = .ok (.aload_n 0, 1) := by decide +kernel
theorem dX4_beginIt_24 : decode cX4_beginIt 24 = .ok (.iload_n 1, 1) := by decide +kernel
theorem dX4_beginIt_25 : decode cX4_beginIt 25 = .ok (.invokevirtual 60, 3) := by decide +kernel
theorem dX4_beginIt_28 : decode cX4_beginIt 28 = .ok (.if_icmp .ge 13, 3) := by decide +kernel
theorem dX4_beginIt_31 : decode cX4_beginIt 31 = .ok (.aload_n 0, 1) := by decide +kernel
theorem dX4_beginIt_32 : decode cX4_beginIt 32 = .ok (.iload_n 1, 1) := by decide +kernel
theorem dX4_beginIt_33 : decode cX4_beginIt 33 = .ok (.iload_n 2, 1) := by decide +kernel
theorem dX4_beginIt_34 : decode cX4_beginIt 34 = .ok (.iconst 0, 1) := by decide +kernel
theorem dX4_beginIt_35 : decode cX4_beginIt 35 = .ok (.invokevirtual 45, 3) := by decide +kernel
theorem dX4_beginIt_38 : decode cX4_beginIt 38 = .ok (.goto 4, 3) := by decide +kernel
theorem dX4_beginIt_41 : decode cX4_beginIt 41 = .ok (.iconst 0, 1) := by decide +kernel
theorem dX4_beginIt_42 : decode cX4_beginIt 42 = .ok (.invokevirtual 41, 3) := by decide +kernel
theorem dX4_beginIt_45 : decode cX4_beginIt 45 = .ok (.iinc 2 1, 3) := by decide +kernel
theorem dX4_beginIt_48 : decode cX4_beginIt 48 = .ok (.goto (-38), 3) := by decide +kernel
theorem dX4_beginIt_51 : decode cX4_beginIt 51 = .ok (.iinc 1 1, 3) := by decide +kernel
theorem dX4_beginIt_54 : decode cX4_beginIt 54 = .ok (.goto (-52), 3) := by decide +kernel
theorem dX4_beginIt_57 : decode cX4_beginIt 57 = .ok (.aload_n 0, 1) := by decide +kernel
theorem dX4_beginIt_58 : decode cX4_beginIt 58 = .ok (.invokevirtual 121, 3) := by decide +kernel
theorem dX4_beginIt_61 : decode cX4_beginIt 61 = .ok (.ireturn, 1) := by decide +kernel
set_option maxRecDepth 20000 in
theorem ggX4_begin_X4_runs : GoodIn wsX4_begin wsX4_runs := goodIn_r _ [5, 6, 37, 38, 39, 40, 41, 42, 43, 44, 45, 46, 47, 48] (by decide +kernel) (by decide +kernel)
set_option maxRecDepth 20000 in
theorem gX4_begin_X4_runs : GoodIn wsX4_begin (wsV RX4 79 RX4 yX4_runs wsX4_runs) := goodIn_app (goodIn_of _ (by decide +kernel)) ggX4_begin_X4_runs
set_option maxRecDepth 20000 in
theorem ggX4_begin_X4_record : GoodIn wsX4_begin wsX4_record := goodIn_r _ [10, 11, 12, 6, 37, 38, 39, 40, 41, 42, 43, 44, 45, 46, 47, 48] (by decide +kernel) (by decide +kernel)
set_option maxRecDepth 20000 in
theorem gX4_begin_X4_record : GoodIn wsX4_begin (wsV RX4 57 RX4 yX4_record wsX4_record) := goodIn_app (goodIn_of _ (by decide +kernel)) ggX4_begin_X4_record
set_option maxRecDepth 20000 in
theorem ggX4_begin_X4_beginIt : GoodIn wsX4_begin wsX4_beginIt := goodIn_r _ [16, 17, 18, 19, 4, 20, 21, 22, 23, 24, 6, 25, 26, 27, 28, 29, 30, 31, 32, 33, 34, 35, 36, 37, 38, 39, 40, 41, 42, 43, 44, 45, 46, 47, 48] (by decide +kernel) (by decide +kernel)
set_option maxRecDepth 20000 in
theorem gX4_begin_X4_beginIt : GoodIn wsX4_begin (wsV RX4 124 RX4 yX4_beginIt wsX4_beginIt) := goodIn_app (goodIn_of _ (by decide +kernel)) ggX4_begin_X4_beginIt
theorem dX4_begin_0 : decode cX4_begin 0 = .ok (.aload_n 0, 1) := by decide +kernel
theorem dX4_begin_1 : decode cX4_begin 1 = .ok (.invokevirtual 79, 3) := by decide +kernel
theorem dX4_begin_4 : decode cX4_begin 4 = .ok (.ifCond .eq 6, 3) := by decide +kernel
theorem dX4_begin_7 : decode cX4_begin 7 = .ok (.bipush (-5), 2) := by decide +kernel
theorem dX4_begin_9 : decode cX4_begin 9 = .ok (.ireturn, 1) := by decide +kernel
theorem dX4_begin_10 : decode cX4_begin 10 = .ok (.aload_n 0, 1) := by decide +kernel
theorem dX4_begin_11 : decode cX4_begin 11 = .ok (.invokevirtual 57, 3) := by decide +kernel
theorem dX4_begin_14 : decode cX4_begin 14 = .ok (.aload_n 0, 1) := by decide +kernel
theorem dX4_begin_15 : decode cX4_begin 15 = .ok (.invokevirtual 124, 3) := by decide +kernel
theorem dX4_begin_18 : decode cX4_begin 18 = .ok (.ireturn, 1) := by decide +kernel
set_option maxRecDepth 20000 in
theorem ggX4_madePlace_X4_of : GoodIn wsX4_madePlace wsX4_of := goodIn_r _ [5, 6, 27, 28, 29, 30, 31, 32, 33, 34, 35, 36, 37, 38] (by decide +kernel) (by decide +kernel)
set_option maxRecDepth 20000 in
theorem gX4_madePlace_X4_of : GoodIn wsX4_madePlace (wsV RX4 37 RX4 yX4_of wsX4_of) := goodIn_app (goodIn_of _ (by decide +kernel)) ggX4_madePlace_X4_of
set_option maxRecDepth 20000 in
theorem ggX4_madePlace_X4_runs : GoodIn wsX4_madePlace wsX4_runs := goodIn_r _ [10, 6, 27, 28, 29, 30, 31, 32, 33, 34, 35, 36, 37, 38] (by decide +kernel) (by decide +kernel)
set_option maxRecDepth 20000 in
theorem gX4_madePlace_X4_runs : GoodIn wsX4_madePlace (wsV RX4 79 RX4 yX4_runs wsX4_runs) := goodIn_app (goodIn_of _ (by decide +kernel)) ggX4_madePlace_X4_runs
set_option maxRecDepth 20000 in
theorem ggX4_madePlace_X4_placeOf : GoodIn wsX4_madePlace wsX4_placeOf := goodIn_r _ [14, 15, 16, 17, 4, 18, 1, 2, 3, 5, 6, 19, 20, 21, 22, 27, 28, 29, 30, 31, 32, 33, 34, 35, 36, 37, 38] (by decide +kernel) (by decide +kernel)
set_option maxRecDepth 20000 in
theorem gX4_madePlace_X4_placeOf : GoodIn wsX4_madePlace (wsV RX4 89 RX4 yX4_placeOf wsX4_placeOf) := goodIn_app (goodIn_of _ (by decide +kernel)) ggX4_madePlace_X4_placeOf
set_option maxRecDepth 20000 in
theorem ggX4_madePlace_X4_isHole : GoodIn wsX4_madePlace wsX4_isHole := goodIn_r _ [26, 19, 20, 21, 4, 22, 1, 2, 3, 5, 6, 27, 28, 29, 30, 31, 32, 33, 34, 35, 36, 37, 38] (by decide +kernel) (by decide +kernel)
set_option maxRecDepth 20000 in
theorem gX4_madePlace_X4_isHole : GoodIn wsX4_madePlace (wsV RX4 64 RX4 yX4_isHole wsX4_isHole) := goodIn_app (goodIn_of _ (by decide +kernel)) ggX4_madePlace_X4_isHole
theorem dX4_madePlace_0 : decode cX4_madePlace 0 = .ok (.aload_n 0, 1) := by decide +kernel
theorem dX4_madePlace_1 : decode cX4_madePlace 1 = .ok (.iload_n 1, 1) := by decide +kernel
theorem dX4_madePlace_2 : decode cX4_madePlace 2 = .ok (.iconst 5, 1) := by decide +kernel
theorem dX4_madePlace_3 : decode cX4_madePlace 3 = .ok (.invokevirtual 37, 3) := by decide +kernel
theorem dX4_madePlace_6 : decode cX4_madePlace 6 = .ok (.ifCond .eq 10, 3) := by decide +kernel
theorem dX4_madePlace_9 : decode cX4_madePlace 9 = .ok (.aload_n 0, 1) := by decide +kernel
theorem dX4_madePlace_10 : decode cX4_madePlace 10 = .ok (.invokevirtual 79, 3) := by decide +kernel
theorem dX4_madePlace_13 : decode cX4_madePlace 13 = .ok (.ifCond .ne 8, 3) := by decide +kernel
theorem dX4_madePlace_16 : decode cX4_madePlace 16 = .ok (.bipush (-6), 2) := by decide +kernel
theorem dX4_madePlace_18 : decode cX4_madePlace 18 = .ok (.goto 14, 3) := by decide +kernel
theorem dX4_madePlace_21 : decode cX4_madePlace 21 = .ok (.aload_n 0, 1) := by decide +kernel
theorem dX4_madePlace_22 : decode cX4_madePlace 22 = .ok (.iload_n 1, 1) := by decide +kernel
theorem dX4_madePlace_23 : decode cX4_madePlace 23 = .ok (.aload_n 0, 1) := by decide +kernel
theorem dX4_madePlace_24 : decode cX4_madePlace 24 = .ok (.iload_n 1, 1) := by decide +kernel
theorem dX4_madePlace_25 : decode cX4_madePlace 25 = .ok (.iconst 5, 1) := by decide +kernel
theorem dX4_madePlace_26 : decode cX4_madePlace 26 = .ok (.invokevirtual 37, 3) := by decide +kernel
theorem dX4_madePlace_29 : decode cX4_madePlace 29 = .ok (.invokevirtual 89, 3) := by decide +kernel
theorem dX4_madePlace_32 : decode cX4_madePlace 32 = .ok (.istore_n 2, 1) := by decide +kernel
theorem dX4_madePlace_33 : decode cX4_madePlace 33 = .ok (.iload_n 2, 1) := by decide +kernel
theorem dX4_madePlace_34 : decode cX4_madePlace 34 = .ok (.bipush (-6), 2) := by decide +kernel
theorem dX4_madePlace_36 : decode cX4_madePlace 36 = .ok (.if_icmp .eq 12, 3) := by decide +kernel
theorem dX4_madePlace_39 : decode cX4_madePlace 39 = .ok (.aload_n 0, 1) := by decide +kernel
theorem dX4_madePlace_40 : decode cX4_madePlace 40 = .ok (.iload_n 1, 1) := by decide +kernel
theorem dX4_madePlace_41 : decode cX4_madePlace 41 = .ok (.iload_n 2, 1) := by decide +kernel
theorem dX4_madePlace_42 : decode cX4_madePlace 42 = .ok (.invokevirtual 64, 3) := by decide +kernel
theorem dX4_madePlace_45 : decode cX4_madePlace 45 = .ok (.ifCond .eq 8, 3) := by decide +kernel
theorem dX4_madePlace_48 : decode cX4_madePlace 48 = .ok (.bipush (-6), 2) := by decide +kernel
theorem dX4_madePlace_50 : decode cX4_madePlace 50 = .ok (.goto 4, 3) := by decide +kernel
theorem dX4_madePlace_53 : decode cX4_madePlace 53 = .ok (.iload_n 2, 1) := by decide +kernel
theorem dX4_madePlace_54 : decode cX4_madePlace 54 = .ok (.ireturn, 1) := by decide +kernel
set_option maxRecDepth 20000 in
theorem ggX4_madeMany_X4_madePlace : GoodIn wsX4_madeMany wsX4_madePlace := goodIn_r _ [5, 6, 7, 8, 4, 9, 10, 11, 12, 13, 14, 15, 16, 17, 18, 19, 20, 21, 22, 23, 24, 25, 26, 27, 28, 29, 30, 31, 32, 33, 34, 35, 36, 37, 38, 39, 40, 41, 42] (by decide +kernel) (by decide +kernel)
set_option maxRecDepth 20000 in
theorem gX4_madeMany_X4_madePlace : GoodIn wsX4_madeMany (wsV RX4 127 RX4 yX4_madePlace wsX4_madePlace) := goodIn_app (goodIn_of _ (by decide +kernel)) ggX4_madeMany_X4_madePlace
theorem dX4_madeMany_0 : decode cX4_madeMany 0 = .ok (.iconst 0, 1) := by decide +kernel
theorem dX4_madeMany_1 : decode cX4_madeMany 1 = .ok (.istore_n 1, 1) := by decide +kernel
theorem dX4_madeMany_2 : decode cX4_madeMany 2 = .ok (.iconst 0, 1) := by decide +kernel
theorem dX4_madeMany_3 : decode cX4_madeMany 3 = .ok (.istore_n 2, 1) := by decide +kernel
theorem dX4_madeMany_4 : decode cX4_madeMany 4 = .ok (.iload_n 2, 1) := by decide +kernel
theorem dX4_madeMany_5 : decode cX4_madeMany 5 = .ok (.bipush 6, 2) := by decide +kernel
theorem dX4_madeMany_7 : decode cX4_madeMany 7 = .ok (.if_icmp .ge 27, 3) := by decide +kernel
theorem dX4_madeMany_10 : decode cX4_madeMany 10 = .ok (.iload_n 1, 1) := by decide +kernel
theorem dX4_madeMany_11 : decode cX4_madeMany 11 = .ok (.aload_n 0, 1) := by decide +kernel
theorem dX4_madeMany_12 : decode cX4_madeMany 12 = .ok (.iload_n 2, 1) := by decide +kernel
theorem dX4_madeMany_13 : decode cX4_madeMany 13 = .ok (.invokevirtual 127, 3) := by decide +kernel
theorem dX4_madeMany_16 : decode cX4_madeMany 16 = .ok (.bipush (-6), 2) := by decide +kernel
theorem dX4_madeMany_18 : decode cX4_madeMany 18 = .ok (.if_icmp .ne 7, 3) := by decide +kernel
theorem dX4_madeMany_21 : decode cX4_madeMany 21 = .ok (.iconst 0, 1) := by decide +kernel
theorem dX4_madeMany_22 : decode cX4_madeMany 22 = .ok (.goto 4, 3) := by decide +kernel
theorem dX4_madeMany_25 : decode cX4_madeMany 25 = .ok (.iconst 1, 1) := by decide +kernel
theorem dX4_madeMany_26 : decode cX4_madeMany 26 = .ok (.iadd, 1) := by decide +kernel
theorem dX4_madeMany_27 : decode cX4_madeMany 27 = .ok (.istore_n 1, 1) := by decide +kernel
theorem dX4_madeMany_28 : decode cX4_madeMany 28 = .ok (.iinc 2 1, 3) := by decide +kernel
theorem dX4_madeMany_31 : decode cX4_madeMany 31 = .ok (.goto (-27), 3) := by decide +kernel
theorem dX4_madeMany_34 : decode cX4_madeMany 34 = .ok (.iload_n 1, 1) := by decide +kernel
theorem dX4_madeMany_35 : decode cX4_madeMany 35 = .ok (.ireturn, 1) := by decide +kernel
set_option maxRecDepth 20000 in
theorem ggX4_endIt_X4_madePlace : GoodIn wsX4_endIt wsX4_madePlace := goodIn_r _ [6, 7, 8, 9, 5, 10, 1, 11, 12, 13, 14, 15, 16, 17, 18, 19, 20, 21, 22, 23, 24, 25, 26, 27, 28, 29, 30, 51, 52, 53, 54, 55, 56, 57, 58, 59, 60, 61, 62] (by decide +kernel) (by decide +kernel)
set_option maxRecDepth 20000 in
theorem gX4_endIt_X4_madePlace : GoodIn wsX4_endIt (wsV RX4 127 RX4 yX4_madePlace wsX4_madePlace) := goodIn_app (goodIn_of _ (by decide +kernel)) ggX4_endIt_X4_madePlace
set_option maxRecDepth 20000 in
theorem ggX4_endIt_X4_deleteAt : GoodIn wsX4_endIt wsX4_deleteAt := goodIn_r _ [34, 35, 36, 37, 5, 38, 39, 40, 41, 42, 1, 7, 8, 9, 10, 43, 44, 45, 46, 19, 20, 21, 22, 27, 28, 29, 30, 23, 24, 25, 26, 51, 52, 53, 54, 55, 56, 57, 58, 59, 60, 61, 62] (by decide +kernel) (by decide +kernel)
set_option maxRecDepth 20000 in
theorem gX4_endIt_X4_deleteAt : GoodIn wsX4_endIt (wsV RX4 114 RX4 yX4_deleteAt wsX4_deleteAt) := goodIn_app (goodIn_of _ (by decide +kernel)) ggX4_endIt_X4_deleteAt
set_option maxRecDepth 20000 in
theorem ggX4_endIt_X4_madeMany : GoodIn wsX4_endIt wsX4_madeMany := goodIn_r _ [50, 2, 3, 4, 5, 6, 7, 8, 9, 10, 1, 11, 12, 13, 14, 15, 16, 17, 18, 19, 20, 21, 22, 23, 24, 25, 26, 27, 28, 29, 30, 51, 52, 53, 54, 55, 56, 57, 58, 59, 60, 61, 62] (by decide +kernel) (by decide +kernel)
set_option maxRecDepth 20000 in
theorem gX4_endIt_X4_madeMany : GoodIn wsX4_endIt (wsV RX4 130 RX4 yX4_madeMany wsX4_madeMany) := goodIn_app (goodIn_of _ (by decide +kernel)) ggX4_endIt_X4_madeMany
theorem dX4_endIt_0 : decode cX4_endIt 0 = .ok (.iconst 0, 1) := by decide +kernel
theorem dX4_endIt_1 : decode cX4_endIt 1 = .ok (.istore_n 2, 1) := by decide +kernel
theorem dX4_endIt_2 : decode cX4_endIt 2 = .ok (.iload_n 2, 1) := by decide +kernel
theorem dX4_endIt_3 : decode cX4_endIt 3 = .ok (.bipush 6, 2) := by decide +kernel
theorem dX4_endIt_5 : decode cX4_endIt 5 = .ok (.if_icmp .ge 33, 3) := by decide +kernel
theorem dX4_endIt_8 : decode cX4_endIt 8 = .ok (.iload_n 1, 1) := by decide +kernel
theorem dX4_endIt_9 : decode cX4_endIt 9 = .ok (.ifCond .ne 29, 3) := by decide +kernel
theorem dX4_endIt_12 : decode cX4_endIt 12 = .ok (.aload_n 0, 1) := by decide +kernel
theorem dX4_endIt_13 : decode cX4_endIt 13 = .ok (.iload_n 2, 1) := by decide +kernel
theorem dX4_endIt_14 : decode cX4_endIt 14 = .ok (.invokevirtual 127, 3) := by decide +kernel
theorem dX4_endIt_17 : decode cX4_endIt 17 = .ok (.bipush (-6), 2) := by decide +kernel
theorem dX4_endIt_19 : decode cX4_endIt 19 = .ok (.if_icmp .eq 13, 3) := by decide +kernel
theorem dX4_endIt_22 : decode cX4_endIt 22 = .ok (.aload_n 0, 1) := by decide +kernel
theorem dX4_endIt_23 : decode cX4_endIt 23 = .ok (.iload_n 2, 1) := by decide +kernel
theorem dX4_endIt_24 : decode cX4_endIt 24 = .ok (.aload_n 0, 1) := by decide +kernel
theorem dX4_endIt_25 : decode cX4_endIt 25 = .ok (.iload_n 2, 1) := by decide +kernel
theorem dX4_endIt_26 : decode cX4_endIt 26 = .ok (.invokevirtual 127, 3) := by decide +kernel
theorem dX4_endIt_29 : decode cX4_endIt 29 = .ok (.invokevirtual 114, 3) := by decide +kernel
theorem dX4_endIt_32 : decode cX4_endIt 32 = .ok (.iinc 2 1, 3) := by decide +kernel
theorem dX4_endIt_35 : decode cX4_endIt 35 = .ok (.goto (-33), 3) := by decide +kernel
theorem dX4_endIt_38 : decode cX4_endIt 38 = .ok (.aload_n 0, 1) := by decide +kernel
theorem dX4_endIt_39 : decode cX4_endIt 39 = .ok (.invokevirtual 130, 3) := by decide +kernel
theorem dX4_endIt_42 : decode cX4_endIt 42 = .ok (.istore_n 2, 1) := by decide +kernel
theorem dX4_endIt_43 : decode cX4_endIt 43 = .ok (.aload_n 0, 1) := by decide +kernel
theorem dX4_endIt_44 : decode cX4_endIt 44 = .ok (.getfield 7, 3) := by decide +kernel
theorem dX4_endIt_47 : decode cX4_endIt 47 = .ok (.iconst 1, 1) := by decide +kernel
theorem dX4_endIt_48 : decode cX4_endIt 48 = .ok (.iconst 0, 1) := by decide +kernel
theorem dX4_endIt_49 : decode cX4_endIt 49 = .ok (.iastore, 1) := by decide +kernel
theorem dX4_endIt_50 : decode cX4_endIt 50 = .ok (.aload_n 0, 1) := by decide +kernel
theorem dX4_endIt_51 : decode cX4_endIt 51 = .ok (.getfield 7, 3) := by decide +kernel
theorem dX4_endIt_54 : decode cX4_endIt 54 = .ok (.iconst 2, 1) := by decide +kernel
theorem dX4_endIt_55 : decode cX4_endIt 55 = .ok (.iconst 1, 1) := by decide +kernel
theorem dX4_endIt_56 : decode cX4_endIt 56 = .ok (.iload_n 1, 1) := by decide +kernel
theorem dX4_endIt_57 : decode cX4_endIt 57 = .ok (.isub, 1) := by decide +kernel
theorem dX4_endIt_58 : decode cX4_endIt 58 = .ok (.iastore, 1) := by decide +kernel
theorem dX4_endIt_59 : decode cX4_endIt 59 = .ok (.aload_n 0, 1) := by decide +kernel
theorem dX4_endIt_60 : decode cX4_endIt 60 = .ok (.getfield 7, 3) := by decide +kernel
