theorem dX0_init_0 : decode cX0_init 0 = .ok (.aload_n 0, 1) := by decide +kernel
theorem dX0_init_1 : decode cX0_init 1 = .ok (.invokespecial 3, 3) := by decide +kernel
theorem dX0_init_4 : decode cX0_init 4 = .ok (.aload_n 0, 1) := by decide +kernel
theorem dX0_init_5 : decode cX0_init 5 = .ok (.iconst 3, 1) := by decide +kernel
theorem dX0_init_6 : decode cX0_init 6 = .ok (.putfield 9, 3) := by decide +kernel
theorem dX0_init_9 : decode cX0_init 9 = .ok (.aload_n 0, 1) := by decide +kernel
theorem dX0_init_10 : decode cX0_init 10 = .ok (.iconst 0, 1) := by decide +kernel
theorem dX0_init_11 : decode cX0_init 11 = .ok (.putfield 15, 3) := by decide +kernel
theorem dX0_init_14 : decode cX0_init 14 = .ok (.aload_n 0, 1) := by decide +kernel
theorem dX0_init_15 : decode cX0_init 15 = .ok (.iconst 0, 1) := by decide +kernel
theorem dX0_init_16 : decode cX0_init 16 = .ok (.putfield 18, 3) := by decide +kernel
theorem dX0_init_19 : decode cX0_init 19 = .ok (.aload_n 0, 1) := by decide +kernel
theorem dX0_init_20 : decode cX0_init 20 = .ok (.iconst 0, 1) := by decide +kernel
theorem dX0_init_21 : decode cX0_init 21 = .ok (.putfield 21, 3) := by decide +kernel
theorem dX0_init_24 : decode cX0_init 24 = .ok (.aload_n 0, 1) := by decide +kernel
theorem dX0_init_25 : decode cX0_init 25 = .ok (.iconst 0, 1) := by decide +kernel
theorem dX0_init_26 : decode cX0_init 26 = .ok (.putfield 24, 3) := by decide +kernel
theorem dX0_init_29 : decode cX0_init 29 = .ok (.aload_n 0, 1) := by decide +kernel
theorem dX0_init_30 : decode cX0_init 30 = .ok (.iconst 0, 1) := by decide +kernel
theorem dX0_init_31 : decode cX0_init 31 = .ok (.putfield 27, 3) := by decide +kernel
theorem dX0_init_34 : decode cX0_init 34 = .ok (.aload_n 0, 1) := by decide +kernel
theorem dX0_init_35 : decode cX0_init 35 = .ok (.iconst 0, 1) := by decide +kernel
theorem dX0_init_36 : decode cX0_init 36 = .ok (.putfield 30, 3) := by decide +kernel
theorem dX0_init_39 : decode cX0_init 39 = .ok (.aload_n 0, 1) := by decide +kernel
theorem dX0_init_40 : decode cX0_init 40 = .ok (.bipush 8, 2) := by decide +kernel
theorem dX0_init_42 : decode cX0_init 42 = .ok (.newarray .int, 2) := by decide +kernel
theorem dX0_init_44 : decode cX0_init 44 = .ok (.putfield 33, 3) := by decide +kernel
theorem dX0_init_47 : decode cX0_init 47 = .ok (.aload_n 0, 1) := by decide +kernel
theorem dX0_init_48 : decode cX0_init 48 = .ok (.bipush 8, 2) := by decide +kernel
theorem dX0_init_50 : decode cX0_init 50 = .ok (.newarray .int, 2) := by decide +kernel
theorem dX0_init_52 : decode cX0_init 52 = .ok (.putfield 37, 3) := by decide +kernel
theorem dX0_init_55 : decode cX0_init 55 = .ok (.aload_n 0, 1) := by decide +kernel
theorem dX0_init_56 : decode cX0_init 56 = .ok (.bipush 8, 2) := by decide +kernel
theorem dX0_init_58 : decode cX0_init 58 = .ok (.newarray .int, 2) := by decide +kernel
theorem dX0_init_60 : decode cX0_init 60 = .ok (.putfield 40, 3) := by decide +kernel
theorem dX0_init_63 : decode cX0_init 63 = .ok (.return_, 1) := by decide +kernel
theorem dX0_copyFrom_0 : decode cX0_copyFrom 0 = .ok (.aload_n 0, 1) := by decide +kernel
theorem dX0_copyFrom_1 : decode cX0_copyFrom 1 = .ok (.aload_n 1, 1) := by decide +kernel
theorem dX0_copyFrom_2 : decode cX0_copyFrom 2 = .ok (.getfield 9, 3) := by decide +kernel
theorem dX0_copyFrom_5 : decode cX0_copyFrom 5 = .ok (.putfield 9, 3) := by decide +kernel
theorem dX0_copyFrom_8 : decode cX0_copyFrom 8 = .ok (.aload_n 0, 1) := by decide +kernel
theorem dX0_copyFrom_9 : decode cX0_copyFrom 9 = .ok (.aload_n 1, 1) := by decide +kernel
theorem dX0_copyFrom_10 : decode cX0_copyFrom 10 = .ok (.getfield 15, 3) := by decide +kernel
theorem dX0_copyFrom_13 : decode cX0_copyFrom 13 = .ok (.putfield 15, 3) := by decide +kernel
theorem dX0_copyFrom_16 : decode cX0_copyFrom 16 = .ok (.aload_n 0, 1) := by decide +kernel
theorem dX0_copyFrom_17 : decode cX0_copyFrom 17 = .ok (.aload_n 1, 1) := by decide +kernel
theorem dX0_copyFrom_18 : decode cX0_copyFrom 18 = .ok (.getfield 18, 3) := by decide +kernel
theorem dX0_copyFrom_21 : decode cX0_copyFrom 21 = .ok (.putfield 18, 3) := by decide +kernel
theorem dX0_copyFrom_24 : decode cX0_copyFrom 24 = .ok (.aload_n 0, 1) := by decide +kernel
theorem dX0_copyFrom_25 : decode cX0_copyFrom 25 = .ok (.aload_n 1, 1) := by decide +kernel
theorem dX0_copyFrom_26 : decode cX0_copyFrom 26 = .ok (.getfield 21, 3) := by decide +kernel
theorem dX0_copyFrom_29 : decode cX0_copyFrom 29 = .ok (.putfield 21, 3) := by decide +kernel
theorem dX0_copyFrom_32 : decode cX0_copyFrom 32 = .ok (.aload_n 0, 1) := by decide +kernel
theorem dX0_copyFrom_33 : decode cX0_copyFrom 33 = .ok (.aload_n 1, 1) := by decide +kernel
theorem dX0_copyFrom_34 : decode cX0_copyFrom 34 = .ok (.getfield 24, 3) := by decide +kernel
theorem dX0_copyFrom_37 : decode cX0_copyFrom 37 = .ok (.putfield 24, 3) := by decide +kernel
theorem dX0_copyFrom_40 : decode cX0_copyFrom 40 = .ok (.aload_n 0, 1) := by decide +kernel
theorem dX0_copyFrom_41 : decode cX0_copyFrom 41 = .ok (.aload_n 1, 1) := by decide +kernel
theorem dX0_copyFrom_42 : decode cX0_copyFrom 42 = .ok (.getfield 27, 3) := by decide +kernel
theorem dX0_copyFrom_45 : decode cX0_copyFrom 45 = .ok (.putfield 27, 3) := by decide +kernel
theorem dX0_copyFrom_48 : decode cX0_copyFrom 48 = .ok (.aload_n 0, 1) := by decide +kernel
theorem dX0_copyFrom_49 : decode cX0_copyFrom 49 = .ok (.aload_n 1, 1) := by decide +kernel
theorem dX0_copyFrom_50 : decode cX0_copyFrom 50 = .ok (.getfield 30, 3) := by decide +kernel
theorem dX0_copyFrom_53 : decode cX0_copyFrom 53 = .ok (.putfield 30, 3) := by decide +kernel
theorem dX0_copyFrom_56 : decode cX0_copyFrom 56 = .ok (.aload_n 1, 1) := by decide +kernel
theorem dX0_copyFrom_57 : decode cX0_copyFrom 57 = .ok (.getfield 33, 3) := by decide +kernel
theorem dX0_copyFrom_60 : decode cX0_copyFrom 60 = .ok (.iconst 0, 1) := by decide +kernel
theorem dX0_copyFrom_61 : decode cX0_copyFrom 61 = .ok (.aload_n 0, 1) := by decide +kernel
theorem dX0_copyFrom_62 : decode cX0_copyFrom 62 = .ok (.getfield 33, 3) := by decide +kernel
theorem dX0_copyFrom_65 : decode cX0_copyFrom 65 = .ok (.iconst 0, 1) := by decide +kernel
theorem dX0_copyFrom_66 : decode cX0_copyFrom 66 = .ok (.bipush 8, 2) := by decide +kernel
theorem dX0_copyFrom_68 : decode cX0_copyFrom 68 = .ok (.invokestatic 43, 3) := by decide +kernel
theorem dX0_copyFrom_71 : decode cX0_copyFrom 71 = .ok (.aload_n 1, 1) := by decide +kernel
theorem dX0_copyFrom_72 : decode cX0_copyFrom 72 = .ok (.getfield 37, 3) := by decide +kernel
theorem dX0_copyFrom_75 : decode cX0_copyFrom 75 = .ok (.iconst 0, 1) := by decide +kernel
theorem dX0_copyFrom_76 : decode cX0_copyFrom 76 = .ok (.aload_n 0, 1) := by decide +kernel
theorem dX0_copyFrom_77 : decode cX0_copyFrom 77 = .ok (.getfield 37, 3) := by decide +kernel
theorem dX0_copyFrom_80 : decode cX0_copyFrom 80 = .ok (.iconst 0, 1) := by decide +kernel
theorem dX0_copyFrom_81 : decode cX0_copyFrom 81 = .ok (.bipush 8, 2) := by decide +kernel
theorem dX0_copyFrom_83 : decode cX0_copyFrom 83 = .ok (.invokestatic 43, 3) := by decide +kernel
theorem dX0_copyFrom_86 : decode cX0_copyFrom 86 = .ok (.aload_n 1, 1) := by decide +kernel
theorem dX0_copyFrom_87 : decode cX0_copyFrom 87 = .ok (.getfield 40, 3) := by decide +kernel
theorem dX0_copyFrom_90 : decode cX0_copyFrom 90 = .ok (.iconst 0, 1) := by decide +kernel
theorem dX0_copyFrom_91 : decode cX0_copyFrom 91 = .ok (.aload_n 0, 1) := by decide +kernel
theorem dX0_copyFrom_92 : decode cX0_copyFrom 92 = .ok (.getfield 40, 3) := by decide +kernel
theorem dX0_copyFrom_95 : decode cX0_copyFrom 95 = .ok (.iconst 0, 1) := by decide +kernel
theorem dX0_copyFrom_96 : decode cX0_copyFrom 96 = .ok (.bipush 8, 2) := by decide +kernel
theorem dX0_copyFrom_98 : decode cX0_copyFrom 98 = .ok (.invokestatic 43, 3) := by decide +kernel
theorem dX0_copyFrom_101 : decode cX0_copyFrom 101 = .ok (.return_, 1) := by decide +kernel
theorem dX0_numberOf_0 : decode cX0_numberOf 0 = .ok (.iload_n 1, 1) := by decide +kernel
theorem dX0_numberOf_1 : decode cX0_numberOf 1 = .ok (.iconst 1, 1) := by decide +kernel
theorem dX0_numberOf_2 : decode cX0_numberOf 2 = .ok (.if_icmp .ge 7, 3) := by decide +kernel
theorem dX0_numberOf_5 : decode cX0_numberOf 5 = .ok (.iconst 0, 1) := by decide +kernel
theorem dX0_numberOf_6 : decode cX0_numberOf 6 = .ok (.goto 11, 3) := by decide +kernel
theorem dX0_numberOf_9 : decode cX0_numberOf 9 = .ok (.iload_n 1, 1) := by decide +kernel
theorem dX0_numberOf_10 : decode cX0_numberOf 10 = .ok (.iconst 1, 1) := by decide +kernel
theorem dX0_numberOf_11 : decode cX0_numberOf 11 = .ok (.isub, 1) := by decide +kernel
theorem dX0_numberOf_12 : decode cX0_numberOf 12 = .ok (.bipush 99, 2) := by decide +kernel
theorem dX0_numberOf_14 : decode cX0_numberOf 14 = .ok (.irem, 1) := by decide +kernel
theorem dX0_numberOf_15 : decode cX0_numberOf 15 = .ok (.iconst 1, 1) := by decide +kernel
theorem dX0_numberOf_16 : decode cX0_numberOf 16 = .ok (.iadd, 1) := by decide +kernel
theorem dX0_numberOf_17 : decode cX0_numberOf 17 = .ok (.ireturn, 1) := by decide +kernel
theorem dX0_oldest_0 : decode cX0_oldest 0 = .ok (.aload_n 0, 1) := by decide +kernel
theorem dX0_oldest_1 : decode cX0_oldest 1 = .ok (.getfield 15, 3) := by decide +kernel
theorem dX0_oldest_4 : decode cX0_oldest 4 = .ok (.aload_n 0, 1) := by decide +kernel
theorem dX0_oldest_5 : decode cX0_oldest 5 = .ok (.getfield 18, 3) := by decide +kernel
theorem dX0_oldest_8 : decode cX0_oldest 8 = .ok (.isub, 1) := by decide +kernel
theorem dX0_oldest_9 : decode cX0_oldest 9 = .ok (.iconst 1, 1) := by decide +kernel
theorem dX0_oldest_10 : decode cX0_oldest 10 = .ok (.iadd, 1) := by decide +kernel
theorem dX0_oldest_11 : decode cX0_oldest 11 = .ok (.ireturn, 1) := by decide +kernel
theorem dX0_isHole_0 : decode cX0_isHole 0 = .ok (.aload_n 0, 1) := by decide +kernel
theorem dX0_isHole_1 : decode cX0_isHole 1 = .ok (.getfield 33, 3) := by decide +kernel
theorem dX0_isHole_4 : decode cX0_isHole 4 = .ok (.iload_n 1, 1) := by decide +kernel
theorem dX0_isHole_5 : decode cX0_isHole 5 = .ok (.bipush 7, 2) := by decide +kernel
theorem dX0_isHole_7 : decode cX0_isHole 7 = .ok (.iand, 1) := by decide +kernel
theorem dX0_isHole_8 : decode cX0_isHole 8 = .ok (.iaload, 1) := by decide +kernel
theorem dX0_isHole_9 : decode cX0_isHole 9 = .ok (.bipush (-6), 2) := by decide +kernel
theorem dX0_isHole_11 : decode cX0_isHole 11 = .ok (.if_icmp .ne 7, 3) := by decide +kernel
theorem dX0_isHole_14 : decode cX0_isHole 14 = .ok (.iconst 1, 1) := by decide +kernel
theorem dX0_isHole_15 : decode cX0_isHole 15 = .ok (.goto 4, 3) := by decide +kernel
theorem dX0_isHole_18 : decode cX0_isHole 18 = .ok (.iconst 0, 1) := by decide +kernel
theorem dX0_isHole_19 : decode cX0_isHole 19 = .ok (.ireturn, 1) := by decide +kernel
set_option maxRecDepth 20000 in
theorem ggX0_isThere_X0_oldest : GoodIn wsX0_isThere wsX0_oldest := goodIn_r _ [6, 1, 7, 13, 14, 15, 16, 17, 18, 19, 20, 21, 22] (by decide +kernel) (by decide +kernel)
set_option maxRecDepth 20000 in
theorem gX0_isThere_X0_oldest : GoodIn wsX0_isThere (wsV RX0 49 RX0 yX0_oldest wsX0_oldest) := goodIn_app (goodIn_of _ (by decide +kernel)) ggX0_isThere_X0_oldest
set_option maxRecDepth 20000 in
theorem ggX0_isThere_X0_isHole : GoodIn wsX0_isThere wsX0_isHole := goodIn_r _ [11, 12, 13, 14, 15, 16, 17, 18, 19, 20, 21, 22] (by decide +kernel) (by decide +kernel)
set_option maxRecDepth 20000 in
theorem gX0_isThere_X0_isHole : GoodIn wsX0_isThere (wsV RX0 53 RX0 yX0_isHole wsX0_isHole) := goodIn_app (goodIn_of _ (by decide +kernel)) ggX0_isThere_X0_isHole
theorem dX0_isThere_0 : decode cX0_isThere 0 = .ok (.iload_n 1, 1) := by decide +kernel
theorem dX0_isThere_1 : decode cX0_isThere 1 = .ok (.aload_n 0, 1) := by decide +kernel
theorem dX0_isThere_2 : decode cX0_isThere 2 = .ok (.invokevirtual 49, 3) := by decide +kernel
theorem dX0_isThere_5 : decode cX0_isThere 5 = .ok (.if_icmp .lt 23, 3) := by decide +kernel
theorem dX0_isThere_8 : decode cX0_isThere 8 = .ok (.iload_n 1, 1) := by decide +kernel
theorem dX0_isThere_9 : decode cX0_isThere 9 = .ok (.aload_n 0, 1) := by decide +kernel
theorem dX0_isThere_10 : decode cX0_isThere 10 = .ok (.getfield 15, 3) := by decide +kernel
theorem dX0_isThere_13 : decode cX0_isThere 13 = .ok (.if_icmp .gt 15, 3) := by decide +kernel
theorem dX0_isThere_16 : decode cX0_isThere 16 = .ok (.aload_n 0, 1) := by decide +kernel
theorem dX0_isThere_17 : decode cX0_isThere 17 = .ok (.iload_n 1, 1) := by decide +kernel
theorem dX0_isThere_18 : decode cX0_isThere 18 = .ok (.invokevirtual 53, 3) := by decide +kernel
theorem dX0_isThere_21 : decode cX0_isThere 21 = .ok (.ifCond .ne 7, 3) := by decide +kernel
theorem dX0_isThere_24 : decode cX0_isThere 24 = .ok (.iconst 1, 1) := by decide +kernel
theorem dX0_isThere_25 : decode cX0_isThere 25 = .ok (.goto 4, 3) := by decide +kernel
theorem dX0_isThere_28 : decode cX0_isThere 28 = .ok (.iconst 0, 1) := by decide +kernel
theorem dX0_isThere_29 : decode cX0_isThere 29 = .ok (.ireturn, 1) := by decide +kernel
set_option maxRecDepth 20000 in
theorem ggX0_numberIfThere_X0_isThere : GoodIn wsX0_numberIfThere wsX0_isThere := goodIn_r _ [5, 6, 7, 8, 9, 4, 10, 11, 12, 13, 14, 15, 16, 21, 22, 23, 24, 25, 26, 27, 28, 29, 30] (by decide +kernel) (by decide +kernel)
set_option maxRecDepth 20000 in
theorem gX0_numberIfThere_X0_isThere : GoodIn wsX0_numberIfThere (wsV RX0 57 RX0 yX0_isThere wsX0_isThere) := goodIn_app (goodIn_of _ (by decide +kernel)) ggX0_numberIfThere_X0_isThere
set_option maxRecDepth 20000 in
theorem ggX0_numberIfThere_X0_numberOf : GoodIn wsX0_numberIfThere wsX0_numberOf := goodIn_r _ [20] (by decide +kernel) (by decide +kernel)
set_option maxRecDepth 20000 in
theorem gX0_numberIfThere_X0_numberOf : GoodIn wsX0_numberIfThere (wsV RX0 60 RX0 yX0_numberOf wsX0_numberOf) := goodIn_app (goodIn_of _ (by decide +kernel)) ggX0_numberIfThere_X0_numberOf
theorem dX0_numberIfThere_0 : decode cX0_numberIfThere 0 = .ok (.aload_n 0, 1) := by decide +kernel
theorem dX0_numberIfThere_1 : decode cX0_numberIfThere 1 = .ok (.iload_n 1, 1) := by decide +kernel
theorem dX0_numberIfThere_2 : decode cX0_numberIfThere 2 = .ok (.invokevirtual 57, 3) := by decide +kernel
theorem dX0_numberIfThere_5 : decode cX0_numberIfThere 5 = .ok (.ifCond .eq 11, 3) := by decide +kernel
theorem dX0_numberIfThere_8 : decode cX0_numberIfThere 8 = .ok (.aload_n 0, 1) := by decide +kernel
theorem dX0_numberIfThere_9 : decode cX0_numberIfThere 9 = .ok (.iload_n 1, 1) := by decide +kernel
theorem dX0_numberIfThere_10 : decode cX0_numberIfThere 10 = .ok (.invokevirtual 60, 3) := by decide +kernel
theorem dX0_numberIfThere_13 : decode cX0_numberIfThere 13 = .ok (.goto 5, 3) := by decide +kernel
theorem dX0_numberIfThere_16 : decode cX0_numberIfThere 16 = .ok (.bipush (-6), 2) := by decide +kernel
theorem dX0_numberIfThere_18 : decode cX0_numberIfThere 18 = .ok (.ireturn, 1) := by decide +kernel
theorem dX0_serialOf_0 : decode cX0_serialOf 0 = .ok (.iload_n 1, 1) := by decide +kernel
theorem dX0_serialOf_1 : decode cX0_serialOf 1 = .ok (.iconst 1, 1) := by decide +kernel
theorem dX0_serialOf_2 : decode cX0_serialOf 2 = .ok (.if_icmp .ne 16, 3) := by decide +kernel
theorem dX0_serialOf_5 : decode cX0_serialOf 5 = .ok (.iload_n 2, 1) := by decide +kernel
theorem dX0_serialOf_6 : decode cX0_serialOf 6 = .ok (.ifCond .eq 10, 3) := by decide +kernel
theorem dX0_serialOf_9 : decode cX0_serialOf 9 = .ok (.aload_n 0, 1) := by decide +kernel
theorem dX0_serialOf_10 : decode cX0_serialOf 10 = .ok (.getfield 30, 3) := by decide +kernel
theorem dX0_serialOf_13 : decode cX0_serialOf 13 = .ok (.goto 4, 3) := by decide +kernel
theorem dX0_serialOf_16 : decode cX0_serialOf 16 = .ok (.iconst 0, 1) := by decide +kernel
theorem dX0_serialOf_17 : decode cX0_serialOf 17 = .ok (.ireturn, 1) := by decide +kernel
theorem dX0_serialOf_18 : decode cX0_serialOf 18 = .ok (.iload_n 2, 1) := by decide +kernel
theorem dX0_serialOf_19 : decode cX0_serialOf 19 = .ok (.ifCond .eq 10, 3) := by decide +kernel
theorem dX0_serialOf_22 : decode cX0_serialOf 22 = .ok (.aload_n 0, 1) := by decide +kernel
theorem dX0_serialOf_23 : decode cX0_serialOf 23 = .ok (.getfield 27, 3) := by decide +kernel
theorem dX0_serialOf_26 : decode cX0_serialOf 26 = .ok (.goto 7, 3) := by decide +kernel
theorem dX0_serialOf_29 : decode cX0_serialOf 29 = .ok (.aload_n 0, 1) := by decide +kernel
theorem dX0_serialOf_30 : decode cX0_serialOf 30 = .ok (.getfield 15, 3) := by decide +kernel
theorem dX0_serialOf_33 : decode cX0_serialOf 33 = .ok (.iload_n 1, 1) := by decide +kernel
theorem dX0_serialOf_34 : decode cX0_serialOf 34 = .ok (.iadd, 1) := by decide +kernel
theorem dX0_serialOf_35 : decode cX0_serialOf 35 = .ok (.ireturn, 1) := by decide +kernel
theorem dX0_nameForJob_0 : decode cX0_nameForJob 0 = .ok (.iload_n 1, 1) := by decide +kernel
theorem dX0_nameForJob_1 : decode cX0_nameForJob 1 = .ok (.aload_n 0, 1) := by decide +kernel
theorem dX0_nameForJob_2 : decode cX0_nameForJob 2 = .ok (.getfield 30, 3) := by decide +kernel
theorem dX0_nameForJob_5 : decode cX0_nameForJob 5 = .ok (.if_icmp .ne 6, 3) := by decide +kernel
theorem dX0_nameForJob_8 : decode cX0_nameForJob 8 = .ok (.bipush 11, 2) := by decide +kernel
theorem dX0_nameForJob_10 : decode cX0_nameForJob 10 = .ok (.ireturn, 1) := by decide +kernel
theorem dX0_nameForJob_11 : decode cX0_nameForJob 11 = .ok (.iload_n 1, 1) := by decide +kernel
theorem dX0_nameForJob_12 : decode cX0_nameForJob 12 = .ok (.aload_n 0, 1) := by decide +kernel
theorem dX0_nameForJob_13 : decode cX0_nameForJob 13 = .ok (.getfield 27, 3) := by decide +kernel
theorem dX0_nameForJob_16 : decode cX0_nameForJob 16 = .ok (.isub, 1) := by decide +kernel
theorem dX0_nameForJob_17 : decode cX0_nameForJob 17 = .ok (.istore_n 2, 1) := by decide +kernel
theorem dX0_nameForJob_18 : decode cX0_nameForJob 18 = .ok (.iload_n 2, 1) := by decide +kernel
theorem dX0_nameForJob_19 : decode cX0_nameForJob 19 = .ok (.bipush (-7), 2) := by decide +kernel
theorem dX0_nameForJob_21 : decode cX0_nameForJob 21 = .ok (.if_icmp .lt 14, 3) := by decide +kernel
theorem dX0_nameForJob_24 : decode cX0_nameForJob 24 = .ok (.iload_n 2, 1) := by decide +kernel
theorem dX0_nameForJob_25 : decode cX0_nameForJob 25 = .ok (.ifCond .gt 10, 3) := by decide +kernel
theorem dX0_nameForJob_28 : decode cX0_nameForJob 28 = .ok (.iload_n 2, 1) := by decide +kernel
theorem dX0_nameForJob_29 : decode cX0_nameForJob 29 = .ok (.bipush 10, 2) := by decide +kernel
theorem dX0_nameForJob_31 : decode cX0_nameForJob 31 = .ok (.iadd, 1) := by decide +kernel
theorem dX0_nameForJob_32 : decode cX0_nameForJob 32 = .ok (.goto 5, 3) := by decide +kernel
theorem dX0_nameForJob_35 : decode cX0_nameForJob 35 = .ok (.bipush (-6), 2) := by decide +kernel
theorem dX0_nameForJob_37 : decode cX0_nameForJob 37 = .ok (.ireturn, 1) := by decide +kernel
set_option maxRecDepth 20000 in
theorem ggX0_make_X0_leaveMost : GoodIn wsX0_make wsX0_leaveMost := goodIn_r _ [12, 3, 13, 14, 15, 16, 11, 17, 2, 18, 19, 20, 21, 4, 22, 23, 24, 25, 26, 27, 28, 29, 30, 31] (by decide +kernel) (by decide +kernel)
set_option maxRecDepth 20000 in
theorem gX0_make_X0_leaveMost : GoodIn wsX0_make (wsV RX0 64 RX0 yX0_leaveMost wsX0_leaveMost) := goodIn_app (goodIn_of _ (by decide +kernel)) ggX0_make_X0_leaveMost
theorem dX0_make_0 : decode cX0_make 0 = .ok (.aload_n 0, 1) := by decide +kernel
theorem dX0_make_1 : decode cX0_make 1 = .ok (.aload_n 0, 1) := by decide +kernel
theorem dX0_make_2 : decode cX0_make 2 = .ok (.getfield 9, 3) := by decide +kernel
theorem dX0_make_5 : decode cX0_make 5 = .ok (.iconst 1, 1) := by decide +kernel
theorem dX0_make_6 : decode cX0_make 6 = .ok (.isub, 1) := by decide +kernel
theorem dX0_make_7 : decode cX0_make 7 = .ok (.invokevirtual 64, 3) := by decide +kernel
theorem dX0_make_10 : decode cX0_make 10 = .ok (.aload_n 0, 1) := by decide +kernel
theorem dX0_make_11 : decode cX0_make 11 = .ok (.dup, 1) := by decide +kernel
theorem dX0_make_12 : decode cX0_make 12 = .ok (.getfield 15, 3) := by decide +kernel
theorem dX0_make_15 : decode cX0_make 15 = .ok (.iconst 1, 1) := by decide +kernel
theorem dX0_make_16 : decode cX0_make 16 = .ok (.iadd, 1) := by decide +kernel
theorem dX0_make_17 : decode cX0_make 17 = .ok (.putfield 15, 3) := by decide +kernel
theorem dX0_make_20 : decode cX0_make 20 = .ok (.aload_n 0, 1) := by decide +kernel
theorem dX0_make_21 : decode cX0_make 21 = .ok (.dup, 1) := by decide +kernel
theorem dX0_make_22 : decode cX0_make 22 = .ok (.getfield 18, 3) := by decide +kernel
theorem dX0_make_25 : decode cX0_make 25 = .ok (.iconst 1, 1) := by decide +kernel
theorem dX0_make_26 : decode cX0_make 26 = .ok (.iadd, 1) := by decide +kernel
theorem dX0_make_27 : decode cX0_make 27 = .ok (.putfield 18, 3) := by decide +kernel
theorem dX0_make_30 : decode cX0_make 30 = .ok (.aload_n 0, 1) := by decide +kernel
theorem dX0_make_31 : decode cX0_make 31 = .ok (.getfield 15, 3) := by decide +kernel
theorem dX0_make_34 : decode cX0_make 34 = .ok (.bipush 7, 2) := by decide +kernel
theorem dX0_make_36 : decode cX0_make 36 = .ok (.iand, 1) := by decide +kernel
theorem dX0_make_37 : decode cX0_make 37 = .ok (.istore_n 3, 1) := by decide +kernel
theorem dX0_make_38 : decode cX0_make 38 = .ok (.aload_n 0, 1) := by decide +kernel
theorem dX0_make_39 : decode cX0_make 39 = .ok (.getfield 33, 3) := by decide +kernel
theorem dX0_make_42 : decode cX0_make 42 = .ok (.iload_n 3, 1) := by decide +kernel
theorem dX0_make_43 : decode cX0_make 43 = .ok (.iload_n 1, 1) := by decide +kernel
theorem dX0_make_44 : decode cX0_make 44 = .ok (.iastore, 1) := by decide +kernel
theorem dX0_make_45 : decode cX0_make 45 = .ok (.aload_n 0, 1) := by decide +kernel
theorem dX0_make_46 : decode cX0_make 46 = .ok (.getfield 37, 3) := by decide +kernel
theorem dX0_make_49 : decode cX0_make 49 = .ok (.iload_n 3, 1) := by decide +kernel
theorem dX0_make_50 : decode cX0_make 50 = .ok (.iconst 0, 1) := by decide +kernel
theorem dX0_make_51 : decode cX0_make 51 = .ok (.iastore, 1) := by decide +kernel
theorem dX0_make_52 : decode cX0_make 52 = .ok (.aload_n 0, 1) := by decide +kernel
theorem dX0_make_53 : decode cX0_make 53 = .ok (.getfield 40, 3) := by decide +kernel
theorem dX0_make_56 : decode cX0_make 56 = .ok (.iload_n 3, 1) := by decide +kernel
theorem dX0_make_57 : decode cX0_make 57 = .ok (.iload_n 2, 1) := by decide +kernel
theorem dX0_make_58 : decode cX0_make 58 = .ok (.iastore, 1) := by decide +kernel
theorem dX0_make_59 : decode cX0_make 59 = .ok (.aload_n 0, 1) := by decide +kernel
theorem dX0_make_60 : decode cX0_make 60 = .ok (.aload_n 0, 1) := by decide +kernel
theorem dX0_make_61 : decode cX0_make 61 = .ok (.getfield 15, 3) := by decide +kernel
theorem dX0_make_64 : decode cX0_make 64 = .ok (.putfield 30, 3) := by decide +kernel
theorem dX0_make_67 : decode cX0_make 67 = .ok (.aload_n 0, 1) := by decide +kernel
theorem dX0_make_68 : decode cX0_make 68 = .ok (.getfield 15, 3) := by decide +kernel
theorem dX0_make_71 : decode cX0_make 71 = .ok (.ireturn, 1) := by decide +kernel
set_option maxRecDepth 20000 in
theorem ggX0_leaveMost_X0_oldest : GoodIn wsX0_leaveMost wsX0_oldest := goodIn_r _ [7, 8, 1, 14, 15, 16, 17, 18, 19, 20, 21, 22, 23] (by decide +kernel) (by decide +kernel)
set_option maxRecDepth 20000 in
theorem gX0_leaveMost_X0_oldest : GoodIn wsX0_leaveMost (wsV RX0 49 RX0 yX0_oldest wsX0_oldest) := goodIn_app (goodIn_of _ (by decide +kernel)) ggX0_leaveMost_X0_oldest
set_option maxRecDepth 20000 in
theorem ggX0_leaveMost_X0_isHole : GoodIn wsX0_leaveMost wsX0_isHole := goodIn_r _ [12, 13, 14, 15, 16, 17, 18, 19, 20, 21, 22, 23] (by decide +kernel) (by decide +kernel)
set_option maxRecDepth 20000 in
theorem gX0_leaveMost_X0_isHole : GoodIn wsX0_leaveMost (wsV RX0 53 RX0 yX0_isHole wsX0_isHole) := goodIn_app (goodIn_of _ (by decide +kernel)) ggX0_leaveMost_X0_isHole
theorem dX0_leaveMost_0 : decode cX0_leaveMost 0 = .ok (.aload_n 0, 1) := by decide +kernel
theorem dX0_leaveMost_1 : decode cX0_leaveMost 1 = .ok (.getfield 18, 3) := by decide +kernel
theorem dX0_leaveMost_4 : decode cX0_leaveMost 4 = .ok (.ifCond .le 56, 3) := by decide +kernel
theorem dX0_leaveMost_7 : decode cX0_leaveMost 7 = .ok (.aload_n 0, 1) := by decide +kernel
theorem dX0_leaveMost_8 : decode cX0_leaveMost 8 = .ok (.getfield 18, 3) := by decide +kernel
theorem dX0_leaveMost_11 : decode cX0_leaveMost 11 = .ok (.iload_n 1, 1) := by decide +kernel
theorem dX0_leaveMost_12 : decode cX0_leaveMost 12 = .ok (.if_icmp .gt 14, 3) := by decide +kernel
theorem dX0_leaveMost_15 : decode cX0_leaveMost 15 = .ok (.aload_n 0, 1) := by decide +kernel
theorem dX0_leaveMost_16 : decode cX0_leaveMost 16 = .ok (.aload_n 0, 1) := by decide +kernel
theorem dX0_leaveMost_17 : decode cX0_leaveMost 17 = .ok (.invokevirtual 49, 3) := by decide +kernel
theorem dX0_leaveMost_20 : decode cX0_leaveMost 20 = .ok (.invokevirtual 53, 3) := by decide +kernel
theorem dX0_leaveMost_23 : decode cX0_leaveMost 23 = .ok (.ifCond .eq 37, 3) := by decide +kernel
theorem dX0_leaveMost_26 : decode cX0_leaveMost 26 = .ok (.aload_n 0, 1) := by decide +kernel
theorem dX0_leaveMost_27 : decode cX0_leaveMost 27 = .ok (.aload_n 0, 1) := by decide +kernel
theorem dX0_leaveMost_28 : decode cX0_leaveMost 28 = .ok (.invokevirtual 49, 3) := by decide +kernel
theorem dX0_leaveMost_31 : decode cX0_leaveMost 31 = .ok (.invokevirtual 53, 3) := by decide +kernel
theorem dX0_leaveMost_34 : decode cX0_leaveMost 34 = .ok (.ifCond .ne 13, 3) := by decide +kernel
theorem dX0_leaveMost_37 : decode cX0_leaveMost 37 = .ok (.aload_n 0, 1) := by decide +kernel
theorem dX0_leaveMost_38 : decode cX0_leaveMost 38 = .ok (.dup, 1) := by decide +kernel
theorem dX0_leaveMost_39 : decode cX0_leaveMost 39 = .ok (.getfield 21, 3) := by decide +kernel
theorem dX0_leaveMost_42 : decode cX0_leaveMost 42 = .ok (.iconst 1, 1) := by decide +kernel
theorem dX0_leaveMost_43 : decode cX0_leaveMost 43 = .ok (.iadd, 1) := by decide +kernel
theorem dX0_leaveMost_44 : decode cX0_leaveMost 44 = .ok (.putfield 21, 3) := by decide +kernel
theorem dX0_leaveMost_47 : decode cX0_leaveMost 47 = .ok (.aload_n 0, 1) := by decide +kernel
theorem dX0_leaveMost_48 : decode cX0_leaveMost 48 = .ok (.dup, 1) := by decide +kernel
theorem dX0_leaveMost_49 : decode cX0_leaveMost 49 = .ok (.getfield 18, 3) := by decide +kernel
theorem dX0_leaveMost_52 : decode cX0_leaveMost 52 = .ok (.iconst 1, 1) := by decide +kernel
theorem dX0_leaveMost_53 : decode cX0_leaveMost 53 = .ok (.isub, 1) := by decide +kernel
theorem dX0_leaveMost_54 : decode cX0_leaveMost 54 = .ok (.putfield 18, 3) := by decide +kernel
theorem dX0_leaveMost_57 : decode cX0_leaveMost 57 = .ok (.goto (-57), 3) := by decide +kernel
theorem dX0_leaveMost_60 : decode cX0_leaveMost 60 = .ok (.return_, 1) := by decide +kernel
set_option maxRecDepth 20000 in
theorem ggX0_makeHole_X0_leaveMost : GoodIn wsX0_makeHole wsX0_leaveMost := goodIn_r _ [8, 9, 10, 11, 12, 13, 7, 14, 15, 16, 17, 18, 19, 1, 20, 21, 22, 23, 24, 25, 26, 27, 28, 29] (by decide +kernel) (by decide +kernel)
set_option maxRecDepth 20000 in
theorem gX0_makeHole_X0_leaveMost : GoodIn wsX0_makeHole (wsV RX0 64 RX0 yX0_leaveMost wsX0_leaveMost) := goodIn_app (goodIn_of _ (by decide +kernel)) ggX0_makeHole_X0_leaveMost
theorem dX0_makeHole_0 : decode cX0_makeHole 0 = .ok (.aload_n 0, 1) := by decide +kernel
theorem dX0_makeHole_1 : decode cX0_makeHole 1 = .ok (.getfield 33, 3) := by decide +kernel
theorem dX0_makeHole_4 : decode cX0_makeHole 4 = .ok (.iload_n 1, 1) := by decide +kernel
theorem dX0_makeHole_5 : decode cX0_makeHole 5 = .ok (.bipush 7, 2) := by decide +kernel
theorem dX0_makeHole_7 : decode cX0_makeHole 7 = .ok (.iand, 1) := by decide +kernel
theorem dX0_makeHole_8 : decode cX0_makeHole 8 = .ok (.bipush (-6), 2) := by decide +kernel
theorem dX0_makeHole_10 : decode cX0_makeHole 10 = .ok (.iastore, 1) := by decide +kernel
theorem dX0_makeHole_11 : decode cX0_makeHole 11 = .ok (.aload_n 0, 1) := by decide +kernel
theorem dX0_makeHole_12 : decode cX0_makeHole 12 = .ok (.dup, 1) := by decide +kernel
theorem dX0_makeHole_13 : decode cX0_makeHole 13 = .ok (.getfield 24, 3) := by decide +kernel
theorem dX0_makeHole_16 : decode cX0_makeHole 16 = .ok (.iconst 1, 1) := by decide +kernel
theorem dX0_makeHole_17 : decode cX0_makeHole 17 = .ok (.iadd, 1) := by decide +kernel
theorem dX0_makeHole_18 : decode cX0_makeHole 18 = .ok (.putfield 24, 3) := by decide +kernel
theorem dX0_makeHole_21 : decode cX0_makeHole 21 = .ok (.aload_n 0, 1) := by decide +kernel
theorem dX0_makeHole_22 : decode cX0_makeHole 22 = .ok (.aload_n 0, 1) := by decide +kernel
theorem dX0_makeHole_23 : decode cX0_makeHole 23 = .ok (.getfield 9, 3) := by decide +kernel
theorem dX0_makeHole_26 : decode cX0_makeHole 26 = .ok (.invokevirtual 64, 3) := by decide +kernel
theorem dX0_makeHole_29 : decode cX0_makeHole 29 = .ok (.return_, 1) := by decide +kernel
set_option maxRecDepth 20000 in
theorem ggX0_countHoles_X0_isHole : GoodIn wsX0_countHoles wsX0_isHole := goodIn_r _ [7, 8, 9, 10, 11, 12, 13, 14, 15, 16, 17, 18] (by decide +kernel) (by decide +kernel)
set_option maxRecDepth 20000 in
theorem gX0_countHoles_X0_isHole : GoodIn wsX0_countHoles (wsV RX0 53 RX0 yX0_isHole wsX0_isHole) := goodIn_app (goodIn_of _ (by decide +kernel)) ggX0_countHoles_X0_isHole
theorem dX0_countHoles_0 : decode cX0_countHoles 0 = .ok (.iconst 0, 1) := by decide +kernel
theorem dX0_countHoles_1 : decode cX0_countHoles 1 = .ok (.istore_n 1, 1) := by decide +kernel
theorem dX0_countHoles_2 : decode cX0_countHoles 2 = .ok (.iconst 0, 1) := by decide +kernel
theorem dX0_countHoles_3 : decode cX0_countHoles 3 = .ok (.istore_n 2, 1) := by decide +kernel
theorem dX0_countHoles_4 : decode cX0_countHoles 4 = .ok (.iload_n 2, 1) := by decide +kernel
theorem dX0_countHoles_5 : decode cX0_countHoles 5 = .ok (.aload_n 0, 1) := by decide +kernel
theorem dX0_countHoles_6 : decode cX0_countHoles 6 = .ok (.getfield 18, 3) := by decide +kernel
theorem dX0_countHoles_9 : decode cX0_countHoles 9 = .ok (.if_icmp .ge 25, 3) := by decide +kernel
theorem dX0_countHoles_12 : decode cX0_countHoles 12 = .ok (.aload_n 0, 1) := by decide +kernel
theorem dX0_countHoles_13 : decode cX0_countHoles 13 = .ok (.aload_n 0, 1) := by decide +kernel
theorem dX0_countHoles_14 : decode cX0_countHoles 14 = .ok (.getfield 15, 3) := by decide +kernel
theorem dX0_countHoles_17 : decode cX0_countHoles 17 = .ok (.iload_n 2, 1) := by decide +kernel
theorem dX0_countHoles_18 : decode cX0_countHoles 18 = .ok (.isub, 1) := by decide +kernel
theorem dX0_countHoles_19 : decode cX0_countHoles 19 = .ok (.invokevirtual 53, 3) := by decide +kernel
theorem dX0_countHoles_22 : decode cX0_countHoles 22 = .ok (.ifCond .eq 6, 3) := by decide +kernel
theorem dX0_countHoles_25 : decode cX0_countHoles 25 = .ok (.iinc 1 1, 3) := by decide +kernel
theorem dX0_countHoles_28 : decode cX0_countHoles 28 = .ok (.iinc 2 1, 3) := by decide +kernel
theorem dX0_countHoles_31 : decode cX0_countHoles 31 = .ok (.goto (-27), 3) := by decide +kernel
theorem dX0_countHoles_34 : decode cX0_countHoles 34 = .ok (.iload_n 1, 1) := by decide +kernel
theorem dX0_countHoles_35 : decode cX0_countHoles 35 = .ok (.ireturn, 1) := by decide +kernel
set_option maxRecDepth 20000 in
theorem ggX0_sumOfData_X0_isHole : GoodIn wsX0_sumOfData wsX0_isHole := goodIn_r _ [8, 3, 9, 10, 11, 12, 13, 14, 15, 16, 17, 18] (by decide +kernel) (by decide +kernel)
set_option maxRecDepth 20000 in
theorem gX0_sumOfData_X0_isHole : GoodIn wsX0_sumOfData (wsV RX0 53 RX0 yX0_isHole wsX0_isHole) := goodIn_app (goodIn_of _ (by decide +kernel)) ggX0_sumOfData_X0_isHole
theorem dX0_sumOfData_0 : decode cX0_sumOfData 0 = .ok (.iconst 0, 1) := by decide +kernel
theorem dX0_sumOfData_1 : decode cX0_sumOfData 1 = .ok (.istore_n 1, 1) := by decide +kernel
theorem dX0_sumOfData_2 : decode cX0_sumOfData 2 = .ok (.iconst 0, 1) := by decide +kernel
theorem dX0_sumOfData_3 : decode cX0_sumOfData 3 = .ok (.istore_n 2, 1) := by decide +kernel
theorem dX0_sumOfData_4 : decode cX0_sumOfData 4 = .ok (.iload_n 2, 1) := by decide +kernel
theorem dX0_sumOfData_5 : decode cX0_sumOfData 5 = .ok (.aload_n 0, 1) := by decide +kernel
theorem dX0_sumOfData_6 : decode cX0_sumOfData 6 = .ok (.getfield 18, 3) := by decide +kernel
theorem dX0_sumOfData_9 : decode cX0_sumOfData 9 = .ok (.if_icmp .ge 39, 3) := by decide +kernel
theorem dX0_sumOfData_12 : decode cX0_sumOfData 12 = .ok (.aload_n 0, 1) := by decide +kernel
theorem dX0_sumOfData_13 : decode cX0_sumOfData 13 = .ok (.aload_n 0, 1) := by decide +kernel
theorem dX0_sumOfData_14 : decode cX0_sumOfData 14 = .ok (.getfield 15, 3) := by decide +kernel
theorem dX0_sumOfData_17 : decode cX0_sumOfData 17 = .ok (.iload_n 2, 1) := by decide +kernel
theorem dX0_sumOfData_18 : decode cX0_sumOfData 18 = .ok (.isub, 1) := by decide +kernel
theorem dX0_sumOfData_19 : decode cX0_sumOfData 19 = .ok (.invokevirtual 53, 3) := by decide +kernel
theorem dX0_sumOfData_22 : decode cX0_sumOfData 22 = .ok (.ifCond .ne 20, 3) := by decide +kernel
theorem dX0_sumOfData_25 : decode cX0_sumOfData 25 = .ok (.iload_n 1, 1) := by decide +kernel
theorem dX0_sumOfData_26 : decode cX0_sumOfData 26 = .ok (.aload_n 0, 1) := by decide +kernel
theorem dX0_sumOfData_27 : decode cX0_sumOfData 27 = .ok (.getfield 33, 3) := by decide +kernel
theorem dX0_sumOfData_30 : decode cX0_sumOfData 30 = .ok (.aload_n 0, 1) := by decide +kernel
theorem dX0_sumOfData_31 : decode cX0_sumOfData 31 = .ok (.getfield 15, 3) := by decide +kernel
theorem dX0_sumOfData_34 : decode cX0_sumOfData 34 = .ok (.iload_n 2, 1) := by decide +kernel
theorem dX0_sumOfData_35 : decode cX0_sumOfData 35 = .ok (.isub, 1) := by decide +kernel
theorem dX0_sumOfData_36 : decode cX0_sumOfData 36 = .ok (.bipush 7, 2) := by decide +kernel
theorem dX0_sumOfData_38 : decode cX0_sumOfData 38 = .ok (.iand, 1) := by decide +kernel
theorem dX0_sumOfData_39 : decode cX0_sumOfData 39 = .ok (.iaload, 1) := by decide +kernel
theorem dX0_sumOfData_40 : decode cX0_sumOfData 40 = .ok (.iadd, 1) := by decide +kernel
theorem dX0_sumOfData_41 : decode cX0_sumOfData 41 = .ok (.istore_n 1, 1) := by decide +kernel
theorem dX0_sumOfData_42 : decode cX0_sumOfData 42 = .ok (.iinc 2 1, 3) := by decide +kernel
theorem dX0_sumOfData_45 : decode cX0_sumOfData 45 = .ok (.goto (-41), 3) := by decide +kernel
theorem dX0_sumOfData_48 : decode cX0_sumOfData 48 = .ok (.iload_n 1, 1) := by decide +kernel
theorem dX0_sumOfData_49 : decode cX0_sumOfData 49 = .ok (.ireturn, 1) := by decide +kernel
theorem dX1_init_0 : decode cX1_init 0 = .ok (.aload_n 0, 1) := by decide +kernel
theorem dX1_init_1 : decode cX1_init 1 = .ok (.invokespecial 3, 3) := by decide +kernel
theorem dX1_init_4 : decode cX1_init 4 = .ok (.aload_n 0, 1) := by decide +kernel
theorem dX1_init_5 : decode cX1_init 5 = .ok (.bipush 80, 2) := by decide +kernel
theorem dX1_init_7 : decode cX1_init 7 = .ok (.newarray .char, 2) := by decide +kernel
theorem dX1_init_9 : decode cX1_init 9 = .ok (.putfield 9, 3) := by decide +kernel
theorem dX1_init_12 : decode cX1_init 12 = .ok (.aload_n 0, 1) := by decide +kernel
theorem dX1_init_13 : decode cX1_init 13 = .ok (.iconst 0, 1) := by decide +kernel
theorem dX1_init_14 : decode cX1_init 14 = .ok (.putfield 15, 3) := by decide +kernel
theorem dX1_init_17 : decode cX1_init 17 = .ok (.return_, 1) := by decide +kernel
theorem dX1_size_0 : decode cX1_size 0 = .ok (.aload_n 0, 1) := by decide +kernel
theorem dX1_size_1 : decode cX1_size 1 = .ok (.getfield 15, 3) := by decide +kernel
theorem dX1_size_4 : decode cX1_size 4 = .ok (.ireturn, 1) := by decide +kernel
theorem dX1_sign_0 : decode cX1_sign 0 = .ok (.iload_n 1, 1) := by decide +kernel
theorem dX1_sign_1 : decode cX1_sign 1 = .ok (.ifCond .lt 20, 3) := by decide +kernel
theorem dX1_sign_4 : decode cX1_sign 4 = .ok (.iload_n 1, 1) := by decide +kernel
theorem dX1_sign_5 : decode cX1_sign 5 = .ok (.aload_n 0, 1) := by decide +kernel
theorem dX1_sign_6 : decode cX1_sign 6 = .ok (.getfield 15, 3) := by decide +kernel
theorem dX1_sign_9 : decode cX1_sign 9 = .ok (.if_icmp .ge 12, 3) := by decide +kernel
theorem dX1_sign_12 : decode cX1_sign 12 = .ok (.aload_n 0, 1) := by decide +kernel
theorem dX1_sign_13 : decode cX1_sign 13 = .ok (.getfield 9, 3) := by decide +kernel
theorem dX1_sign_16 : decode cX1_sign 16 = .ok (.iload_n 1, 1) := by decide +kernel
theorem dX1_sign_17 : decode cX1_sign 17 = .ok (.caload, 1) := by decide +kernel
theorem dX1_sign_18 : decode cX1_sign 18 = .ok (.goto 4, 3) := by decide +kernel
theorem dX1_sign_21 : decode cX1_sign 21 = .ok (.iconst 0, 1) := by decide +kernel
theorem dX1_sign_22 : decode cX1_sign 22 = .ok (.ireturn, 1) := by decide +kernel
theorem dX1_empty_0 : decode cX1_empty 0 = .ok (.aload_n 0, 1) := by decide +kernel
theorem dX1_empty_1 : decode cX1_empty 1 = .ok (.getfield 15, 3) := by decide +kernel
theorem dX1_empty_4 : decode cX1_empty 4 = .ok (.istore_n 1, 1) := by decide +kernel
theorem dX1_empty_5 : decode cX1_empty 5 = .ok (.aload_n 0, 1) := by decide +kernel
theorem dX1_empty_6 : decode cX1_empty 6 = .ok (.iconst 0, 1) := by decide +kernel
theorem dX1_empty_7 : decode cX1_empty 7 = .ok (.putfield 15, 3) := by decide +kernel
theorem dX1_empty_10 : decode cX1_empty 10 = .ok (.iload_n 1, 1) := by decide +kernel
theorem dX1_empty_11 : decode cX1_empty 11 = .ok (.ireturn, 1) := by decide +kernel
set_option maxRecDepth 20000 in
theorem ggX1_append_X1_countCharacters : GoodIn wsX1_append wsX1_countCharacters := goodIn_r _ [8, 3, 9, 10] (by decide +kernel) (by decide +kernel)
set_option maxRecDepth 20000 in
theorem gX1_append_X1_countCharacters : GoodIn wsX1_append (wsV RX1 19 RX1 yX1_countCharacters wsX1_countCharacters) := goodIn_app (goodIn_of _ (by decide +kernel)) ggX1_append_X1_countCharacters
theorem dX1_append_0 : decode cX1_append 0 = .ok (.aload_n 0, 1) := by decide +kernel
theorem dX1_append_1 : decode cX1_append 1 = .ok (.lload_n 1, 1) := by decide +kernel
theorem dX1_append_2 : decode cX1_append 2 = .ok (.invokevirtual 19, 3) := by decide +kernel
theorem dX1_append_5 : decode cX1_append 5 = .ok (.istore_n 3, 1) := by decide +kernel
theorem dX1_append_6 : decode cX1_append 6 = .ok (.iload_n 3, 1) := by decide +kernel
theorem dX1_append_7 : decode cX1_append 7 = .ok (.iconst 1, 1) := by decide +kernel
theorem dX1_append_8 : decode cX1_append 8 = .ok (.if_icmp .ge 6, 3) := by decide +kernel
theorem dX1_append_11 : decode cX1_append 11 = .ok (.bipush (-2), 2) := by decide +kernel
theorem dX1_append_13 : decode cX1_append 13 = .ok (.ireturn, 1) := by decide +kernel
theorem dX1_append_14 : decode cX1_append 14 = .ok (.aload_n 0, 1) := by decide +kernel
theorem dX1_append_15 : decode cX1_append 15 = .ok (.getfield 15, 3) := by decide +kernel
theorem dX1_append_18 : decode cX1_append 18 = .ok (.iload_n 3, 1) := by decide +kernel
theorem dX1_append_19 : decode cX1_append 19 = .ok (.iadd, 1) := by decide +kernel
theorem dX1_append_20 : decode cX1_append 20 = .ok (.bipush 80, 2) := by decide +kernel
theorem dX1_append_22 : decode cX1_append 22 = .ok (.if_icmp .le 6, 3) := by decide +kernel
theorem dX1_append_25 : decode cX1_append 25 = .ok (.bipush (-4), 2) := by decide +kernel
theorem dX1_append_27 : decode cX1_append 27 = .ok (.ireturn, 1) := by decide +kernel
theorem dX1_append_28 : decode cX1_append 28 = .ok (.bipush 8, 2) := by decide +kernel
theorem dX1_append_30 : decode cX1_append 30 = .ok (.iload_n 3, 1) := by decide +kernel
theorem dX1_append_31 : decode cX1_append 31 = .ok (.iconst 1, 1) := by decide +kernel
theorem dX1_append_32 : decode cX1_append 32 = .ok (.isub, 1) := by decide +kernel
theorem dX1_append_33 : decode cX1_append 33 = .ok (.imul, 1) := by decide +kernel
theorem dX1_append_34 : decode cX1_append 34 = .ok (.istore 4, 2) := by decide +kernel
theorem dX1_append_36 : decode cX1_append 36 = .ok (.iload 4, 2) := by decide +kernel
theorem dX1_append_38 : decode cX1_append 38 = .ok (.ifCond .lt 38, 3) := by decide +kernel
theorem dX1_append_41 : decode cX1_append 41 = .ok (.aload_n 0, 1) := by decide +kernel
theorem dX1_append_42 : decode cX1_append 42 = .ok (.getfield 9, 3) := by decide +kernel
theorem dX1_append_45 : decode cX1_append 45 = .ok (.aload_n 0, 1) := by decide +kernel
theorem dX1_append_46 : decode cX1_append 46 = .ok (.getfield 15, 3) := by decide +kernel
theorem dX1_append_49 : decode cX1_append 49 = .ok (.lload_n 1, 1) := by decide +kernel
theorem dX1_append_50 : decode cX1_append 50 = .ok (.iload 4, 2) := by decide +kernel
theorem dX1_append_52 : decode cX1_append 52 = .ok (.lushr, 1) := by decide +kernel
theorem dX1_append_53 : decode cX1_append 53 = .ok (.ldc2_w 23, 3) := by decide +kernel
theorem dX1_append_56 : decode cX1_append 56 = .ok (.land, 1) := by decide +kernel
theorem dX1_append_57 : decode cX1_append 57 = .ok (.l2i, 1) := by decide +kernel
theorem dX1_append_58 : decode cX1_append 58 = .ok (.i2c, 1) := by decide +kernel
theorem dX1_append_59 : decode cX1_append 59 = .ok (.castore, 1) := by decide +kernel
theorem dX1_append_60 : decode cX1_append 60 = .ok (.aload_n 0, 1) := by decide +kernel
theorem dX1_append_61 : decode cX1_append 61 = .ok (.dup, 1) := by decide +kernel
theorem dX1_append_62 : decode cX1_append 62 = .ok (.getfield 15, 3) := by decide +kernel
theorem dX1_append_65 : decode cX1_append 65 = .ok (.iconst 1, 1) := by decide +kernel
theorem dX1_append_66 : decode cX1_append 66 = .ok (.iadd, 1) := by decide +kernel
theorem dX1_append_67 : decode cX1_append 67 = .ok (.putfield 15, 3) := by decide +kernel
theorem dX1_append_70 : decode cX1_append 70 = .ok (.iinc 4 (-8), 3) := by decide +kernel
theorem dX1_append_73 : decode cX1_append 73 = .ok (.goto (-37), 3) := by decide +kernel
theorem dX1_append_76 : decode cX1_append 76 = .ok (.aload_n 0, 1) := by decide +kernel
theorem dX1_append_77 : decode cX1_append 77 = .ok (.getfield 15, 3) := by decide +kernel
theorem dX1_append_80 : decode cX1_append 80 = .ok (.ireturn, 1) := by decide +kernel
theorem dX1_countCharacters_0 : decode cX1_countCharacters 0 = .ok (.lload_n 1, 1) := by decide +kernel
theorem dX1_countCharacters_1 : decode cX1_countCharacters 1 = .ok (.lstore_n 3, 1) := by decide +kernel
theorem dX1_countCharacters_2 : decode cX1_countCharacters 2 = .ok (.iconst 0, 1) := by decide +kernel
theorem dX1_countCharacters_3 : decode cX1_countCharacters 3 = .ok (.istore 5, 2) := by decide +kernel
theorem dX1_countCharacters_5 : decode cX1_countCharacters 5 = .ok (.iload 5, 2) := by decide +kernel
theorem dX1_countCharacters_7 : decode cX1_countCharacters 7 = .ok (.bipush 8, 2) := by decide +kernel
theorem dX1_countCharacters_9 : decode cX1_countCharacters 9 = .ok (.if_icmp .ge 51, 3) := by decide +kernel
theorem dX1_countCharacters_12 : decode cX1_countCharacters 12 = .ok (.lload_n 3, 1) := by decide +kernel
theorem dX1_countCharacters_13 : decode cX1_countCharacters 13 = .ok (.ldc2_w 23, 3) := by decide +kernel
theorem dX1_countCharacters_16 : decode cX1_countCharacters 16 = .ok (.land, 1) := by decide +kernel
theorem dX1_countCharacters_17 : decode cX1_countCharacters 17 = .ok (.lconst 0, 1) := by decide +kernel
theorem dX1_countCharacters_18 : decode cX1_countCharacters 18 = .ok (.lcmp, 1) := by decide +kernel
theorem dX1_countCharacters_19 : decode cX1_countCharacters 19 = .ok (.ifCond .eq 41, 3) := by decide +kernel
theorem dX1_countCharacters_22 : decode cX1_countCharacters 22 = .ok (.lload_n 3, 1) := by decide +kernel
theorem dX1_countCharacters_23 : decode cX1_countCharacters 23 = .ok (.ldc2_w 23, 3) := by decide +kernel
theorem dX1_countCharacters_26 : decode cX1_countCharacters 26 = .ok (.land, 1) := by decide +kernel
theorem dX1_countCharacters_27 : decode cX1_countCharacters 27 = .ok (.lstore 6, 2) := by decide +kernel
theorem dX1_countCharacters_29 : decode cX1_countCharacters 29 = .ok (.lload 6, 2) := by decide +kernel
theorem dX1_countCharacters_31 : decode cX1_countCharacters 31 = .ok (.ldc2_w 25, 3) := by decide +kernel
theorem dX1_countCharacters_34 : decode cX1_countCharacters 34 = .ok (.lcmp, 1) := by decide +kernel
theorem dX1_countCharacters_35 : decode cX1_countCharacters 35 = .ok (.ifCond .lt 12, 3) := by decide +kernel
theorem dX1_countCharacters_38 : decode cX1_countCharacters 38 = .ok (.lload 6, 2) := by decide +kernel
theorem dX1_countCharacters_40 : decode cX1_countCharacters 40 = .ok (.ldc2_w 27, 3) := by decide +kernel
theorem dX1_countCharacters_43 : decode cX1_countCharacters 43 = .ok (.lcmp, 1) := by decide +kernel
theorem dX1_countCharacters_44 : decode cX1_countCharacters 44 = .ok (.ifCond .le 5, 3) := by decide +kernel
theorem dX1_countCharacters_47 : decode cX1_countCharacters 47 = .ok (.iconst 0, 1) := by decide +kernel
theorem dX1_countCharacters_48 : decode cX1_countCharacters 48 = .ok (.ireturn, 1) := by decide +kernel
theorem dX1_countCharacters_49 : decode cX1_countCharacters 49 = .ok (.lload_n 3, 1) := by decide +kernel
theorem dX1_countCharacters_50 : decode cX1_countCharacters 50 = .ok (.bipush 8, 2) := by decide +kernel
theorem dX1_countCharacters_52 : decode cX1_countCharacters 52 = .ok (.lushr, 1) := by decide +kernel
theorem dX1_countCharacters_53 : decode cX1_countCharacters 53 = .ok (.lstore_n 3, 1) := by decide +kernel
theorem dX1_countCharacters_54 : decode cX1_countCharacters 54 = .ok (.iinc 5 1, 3) := by decide +kernel
theorem dX1_countCharacters_57 : decode cX1_countCharacters 57 = .ok (.goto (-52), 3) := by decide +kernel
theorem dX1_countCharacters_60 : decode cX1_countCharacters 60 = .ok (.lload_n 3, 1) := by decide +kernel
theorem dX1_countCharacters_61 : decode cX1_countCharacters 61 = .ok (.lconst 0, 1) := by decide +kernel
theorem dX1_countCharacters_62 : decode cX1_countCharacters 62 = .ok (.lcmp, 1) := by decide +kernel
theorem dX1_countCharacters_63 : decode cX1_countCharacters 63 = .ok (.ifCond .ne 8, 3) := by decide +kernel
theorem dX1_countCharacters_66 : decode cX1_countCharacters 66 = .ok (.iload 5, 2) := by decide +kernel
theorem dX1_countCharacters_68 : decode cX1_countCharacters 68 = .ok (.goto 4, 3) := by decide +kernel
theorem dX1_countCharacters_71 : decode cX1_countCharacters 71 = .ok (.iconst 0, 1) := by decide +kernel
theorem dX1_countCharacters_72 : decode cX1_countCharacters 72 = .ok (.ireturn, 1) := by decide +kernel
set_option maxRecDepth 20000 in
theorem ggX1_findFault_X1_placeBehind : GoodIn wsX1_findFault wsX1_placeBehind := goodIn_r _ [7, 8, 9, 10, 6, 11, 12, 13, 14, 15, 16, 17, 18, 19, 20, 21, 22, 23] (by decide +kernel) (by decide +kernel)
set_option maxRecDepth 20000 in
theorem gX1_findFault_X1_placeBehind : GoodIn wsX1_findFault (wsV RX1 29 RX1 yX1_placeBehind wsX1_placeBehind) := goodIn_app (goodIn_of _ (by decide +kernel)) ggX1_findFault_X1_placeBehind
theorem dX1_findFault_0 : decode cX1_findFault 0 = .ok (.iconst 1, 1) := by decide +kernel
theorem dX1_findFault_1 : decode cX1_findFault 1 = .ok (.istore_n 1, 1) := by decide +kernel
theorem dX1_findFault_2 : decode cX1_findFault 2 = .ok (.iconst 0, 1) := by decide +kernel
theorem dX1_findFault_3 : decode cX1_findFault 3 = .ok (.istore_n 2, 1) := by decide +kernel
theorem dX1_findFault_4 : decode cX1_findFault 4 = .ok (.iload_n 2, 1) := by decide +kernel
theorem dX1_findFault_5 : decode cX1_findFault 5 = .ok (.aload_n 0, 1) := by decide +kernel
theorem dX1_findFault_6 : decode cX1_findFault 6 = .ok (.getfield 15, 3) := by decide +kernel
theorem dX1_findFault_9 : decode cX1_findFault 9 = .ok (.if_icmp .ge 27, 3) := by decide +kernel
theorem dX1_findFault_12 : decode cX1_findFault 12 = .ok (.aload_n 0, 1) := by decide +kernel
theorem dX1_findFault_13 : decode cX1_findFault 13 = .ok (.iload_n 1, 1) := by decide +kernel
theorem dX1_findFault_14 : decode cX1_findFault 14 = .ok (.aload_n 0, 1) := by decide +kernel
theorem dX1_findFault_15 : decode cX1_findFault 15 = .ok (.getfield 9, 3) := by decide +kernel
theorem dX1_findFault_18 : decode cX1_findFault 18 = .ok (.iload_n 2, 1) := by decide +kernel
theorem dX1_findFault_19 : decode cX1_findFault 19 = .ok (.caload, 1) := by decide +kernel
theorem dX1_findFault_20 : decode cX1_findFault 20 = .ok (.invokevirtual 29, 3) := by decide +kernel
theorem dX1_findFault_23 : decode cX1_findFault 23 = .ok (.istore_n 1, 1) := by decide +kernel
theorem dX1_findFault_24 : decode cX1_findFault 24 = .ok (.iload_n 1, 1) := by decide +kernel
theorem dX1_findFault_25 : decode cX1_findFault 25 = .ok (.ifCond .ne 5, 3) := by decide +kernel
theorem dX1_findFault_28 : decode cX1_findFault 28 = .ok (.iload_n 2, 1) := by decide +kernel
theorem dX1_findFault_29 : decode cX1_findFault 29 = .ok (.ireturn, 1) := by decide +kernel
theorem dX1_findFault_30 : decode cX1_findFault 30 = .ok (.iinc 2 1, 3) := by decide +kernel
theorem dX1_findFault_33 : decode cX1_findFault 33 = .ok (.goto (-29), 3) := by decide +kernel
theorem dX1_findFault_36 : decode cX1_findFault 36 = .ok (.iload_n 1, 1) := by decide +kernel
theorem dX1_findFault_37 : decode cX1_findFault 37 = .ok (.bipush 10, 2) := by decide +kernel
theorem dX1_findFault_39 : decode cX1_findFault 39 = .ok (.if_icmp .lt 8, 3) := by decide +kernel
theorem dX1_findFault_42 : decode cX1_findFault 42 = .ok (.bipush (-6), 2) := by decide +kernel
theorem dX1_findFault_44 : decode cX1_findFault 44 = .ok (.goto 7, 3) := by decide +kernel
theorem dX1_findFault_47 : decode cX1_findFault 47 = .ok (.aload_n 0, 1) := by decide +kernel
theorem dX1_findFault_48 : decode cX1_findFault 48 = .ok (.getfield 15, 3) := by decide +kernel
theorem dX1_findFault_51 : decode cX1_findFault 51 = .ok (.ireturn, 1) := by decide +kernel
set_option maxRecDepth 20000 in
theorem ggX1_placeBehind_X1_placeBehindLetter : GoodIn wsX1_placeBehind wsX1_placeBehindLetter := goodIn_r _ [5] (by decide +kernel) (by decide +kernel)
set_option maxRecDepth 20000 in
theorem gX1_placeBehind_X1_placeBehindLetter : GoodIn wsX1_placeBehind (wsV RX1 33 RX1 yX1_placeBehindLetter wsX1_placeBehindLetter) := goodIn_app (goodIn_of _ (by decide +kernel)) ggX1_placeBehind_X1_placeBehindLetter
set_option maxRecDepth 20000 in
theorem ggX1_placeBehind_X1_placeBehindName : GoodIn wsX1_placeBehind wsX1_placeBehindName := goodIn_r _ [9] (by decide +kernel) (by decide +kernel)
set_option maxRecDepth 20000 in
theorem gX1_placeBehind_X1_placeBehindName : GoodIn wsX1_placeBehind (wsV RX1 37 RX1 yX1_placeBehindName wsX1_placeBehindName) := goodIn_app (goodIn_of _ (by decide +kernel)) ggX1_placeBehind_X1_placeBehindName
set_option maxRecDepth 20000 in
theorem ggX1_placeBehind_X1_isDigit : GoodIn wsX1_placeBehind wsX1_isDigit := goodIn_r _ [13] (by decide +kernel) (by decide +kernel)
set_option maxRecDepth 20000 in
theorem gX1_placeBehind_X1_isDigit : GoodIn wsX1_placeBehind (wsV RX1 41 RX1 yX1_isDigit wsX1_isDigit) := goodIn_app (goodIn_of _ (by decide +kernel)) ggX1_placeBehind_X1_isDigit
set_option maxRecDepth 20000 in
theorem ggX1_placeBehind_X1_placeBehindOrder : GoodIn wsX1_placeBehind wsX1_placeBehindOrder := goodIn_r _ [17] (by decide +kernel) (by decide +kernel)
set_option maxRecDepth 20000 in
theorem gX1_placeBehind_X1_placeBehindOrder : GoodIn wsX1_placeBehind (wsV RX1 45 RX1 yX1_placeBehindOrder wsX1_placeBehindOrder) := goodIn_app (goodIn_of _ (by decide +kernel)) ggX1_placeBehind_X1_placeBehindOrder
theorem dX1_placeBehind_0 : decode cX1_placeBehind 0 = .ok (.iload_n 1, 1) := by decide +kernel
theorem dX1_placeBehind_1 : decode cX1_placeBehind 1 = .ok (.tableswitch 259 1 12 #[63, 69, 87, 105, 115, 125, 144, 163, 176, 202, 221, 240], 63) := by decide +kernel
theorem dX1_placeBehind_64 : decode cX1_placeBehind 64 = .ok (.aload_n 0, 1) := by decide +kernel
theorem dX1_placeBehind_65 : decode cX1_placeBehind 65 = .ok (.iload_n 2, 1) := by decide +kernel
theorem dX1_placeBehind_66 : decode cX1_placeBehind 66 = .ok (.invokevirtual 33, 3) := by decide +kernel
theorem dX1_placeBehind_69 : decode cX1_placeBehind 69 = .ok (.ireturn, 1) := by decide +kernel
theorem dX1_placeBehind_70 : decode cX1_placeBehind 70 = .ok (.iload_n 2, 1) := by decide +kernel
theorem dX1_placeBehind_71 : decode cX1_placeBehind 71 = .ok (.bipush 48, 2) := by decide +kernel
theorem dX1_placeBehind_73 : decode cX1_placeBehind 73 = .ok (.if_icmp .lt 13, 3) := by decide +kernel
theorem dX1_placeBehind_76 : decode cX1_placeBehind 76 = .ok (.iload_n 2, 1) := by decide +kernel
theorem dX1_placeBehind_77 : decode cX1_placeBehind 77 = .ok (.bipush 53, 2) := by decide +kernel
theorem dX1_placeBehind_79 : decode cX1_placeBehind 79 = .ok (.if_icmp .gt 7, 3) := by decide +kernel
theorem dX1_placeBehind_82 : decode cX1_placeBehind 82 = .ok (.iconst 4, 1) := by decide +kernel
theorem dX1_placeBehind_83 : decode cX1_placeBehind 83 = .ok (.goto 4, 3) := by decide +kernel
theorem dX1_placeBehind_86 : decode cX1_placeBehind 86 = .ok (.iconst 0, 1) := by decide +kernel
theorem dX1_placeBehind_87 : decode cX1_placeBehind 87 = .ok (.ireturn, 1) := by decide +kernel
theorem dX1_placeBehind_88 : decode cX1_placeBehind 88 = .ok (.iload_n 2, 1) := by decide +kernel
theorem dX1_placeBehind_89 : decode cX1_placeBehind 89 = .ok (.bipush 48, 2) := by decide +kernel
theorem dX1_placeBehind_91 : decode cX1_placeBehind 91 = .ok (.if_icmp .lt 13, 3) := by decide +kernel
theorem dX1_placeBehind_94 : decode cX1_placeBehind 94 = .ok (.iload_n 2, 1) := by decide +kernel
theorem dX1_placeBehind_95 : decode cX1_placeBehind 95 = .ok (.bipush 53, 2) := by decide +kernel
theorem dX1_placeBehind_97 : decode cX1_placeBehind 97 = .ok (.if_icmp .gt 7, 3) := by decide +kernel
theorem dX1_placeBehind_100 : decode cX1_placeBehind 100 = .ok (.iconst 5, 1) := by decide +kernel
theorem dX1_placeBehind_101 : decode cX1_placeBehind 101 = .ok (.goto 4, 3) := by decide +kernel
theorem dX1_placeBehind_104 : decode cX1_placeBehind 104 = .ok (.iconst 0, 1) := by decide +kernel
theorem dX1_placeBehind_105 : decode cX1_placeBehind 105 = .ok (.ireturn, 1) := by decide +kernel
theorem dX1_placeBehind_106 : decode cX1_placeBehind 106 = .ok (.aload_n 0, 1) := by decide +kernel
theorem dX1_placeBehind_107 : decode cX1_placeBehind 107 = .ok (.iload_n 2, 1) := by decide +kernel
theorem dX1_placeBehind_108 : decode cX1_placeBehind 108 = .ok (.bipush 6, 2) := by decide +kernel
theorem dX1_placeBehind_110 : decode cX1_placeBehind 110 = .ok (.bipush 13, 2) := by decide +kernel
theorem dX1_placeBehind_112 : decode cX1_placeBehind 112 = .ok (.invokevirtual 37, 3) := by decide +kernel
theorem dX1_placeBehind_115 : decode cX1_placeBehind 115 = .ok (.ireturn, 1) := by decide +kernel
theorem dX1_placeBehind_116 : decode cX1_placeBehind 116 = .ok (.aload_n 0, 1) := by decide +kernel
theorem dX1_placeBehind_117 : decode cX1_placeBehind 117 = .ok (.iload_n 2, 1) := by decide +kernel
theorem dX1_placeBehind_118 : decode cX1_placeBehind 118 = .ok (.bipush 7, 2) := by decide +kernel
theorem dX1_placeBehind_120 : decode cX1_placeBehind 120 = .ok (.bipush 8, 2) := by decide +kernel
theorem dX1_placeBehind_122 : decode cX1_placeBehind 122 = .ok (.invokevirtual 37, 3) := by decide +kernel
theorem dX1_placeBehind_125 : decode cX1_placeBehind 125 = .ok (.ireturn, 1) := by decide +kernel
theorem dX1_placeBehind_126 : decode cX1_placeBehind 126 = .ok (.iload_n 2, 1) := by decide +kernel
theorem dX1_placeBehind_127 : decode cX1_placeBehind 127 = .ok (.bipush 49, 2) := by decide +kernel
theorem dX1_placeBehind_129 : decode cX1_placeBehind 129 = .ok (.if_icmp .lt 14, 3) := by decide +kernel
theorem dX1_placeBehind_132 : decode cX1_placeBehind 132 = .ok (.iload_n 2, 1) := by decide +kernel
theorem dX1_placeBehind_133 : decode cX1_placeBehind 133 = .ok (.bipush 55, 2) := by decide +kernel
theorem dX1_placeBehind_135 : decode cX1_placeBehind 135 = .ok (.if_icmp .gt 8, 3) := by decide +kernel
theorem dX1_placeBehind_138 : decode cX1_placeBehind 138 = .ok (.bipush 13, 2) := by decide +kernel
theorem dX1_placeBehind_140 : decode cX1_placeBehind 140 = .ok (.goto 4, 3) := by decide +kernel
theorem dX1_placeBehind_143 : decode cX1_placeBehind 143 = .ok (.iconst 0, 1) := by decide +kernel
theorem dX1_placeBehind_144 : decode cX1_placeBehind 144 = .ok (.ireturn, 1) := by decide +kernel
theorem dX1_placeBehind_145 : decode cX1_placeBehind 145 = .ok (.iload_n 2, 1) := by decide +kernel
theorem dX1_placeBehind_146 : decode cX1_placeBehind 146 = .ok (.bipush 49, 2) := by decide +kernel
theorem dX1_placeBehind_148 : decode cX1_placeBehind 148 = .ok (.if_icmp .lt 14, 3) := by decide +kernel
theorem dX1_placeBehind_151 : decode cX1_placeBehind 151 = .ok (.iload_n 2, 1) := by decide +kernel
theorem dX1_placeBehind_152 : decode cX1_placeBehind 152 = .ok (.bipush 55, 2) := by decide +kernel
theorem dX1_placeBehind_154 : decode cX1_placeBehind 154 = .ok (.if_icmp .gt 8, 3) := by decide +kernel
theorem dX1_placeBehind_157 : decode cX1_placeBehind 157 = .ok (.bipush 8, 2) := by decide +kernel
theorem dX1_placeBehind_159 : decode cX1_placeBehind 159 = .ok (.goto 4, 3) := by decide +kernel
theorem dX1_placeBehind_162 : decode cX1_placeBehind 162 = .ok (.iconst 0, 1) := by decide +kernel
theorem dX1_placeBehind_163 : decode cX1_placeBehind 163 = .ok (.ireturn, 1) := by decide +kernel
theorem dX1_placeBehind_164 : decode cX1_placeBehind 164 = .ok (.iload_n 2, 1) := by decide +kernel
theorem dX1_placeBehind_165 : decode cX1_placeBehind 165 = .ok (.bipush 61, 2) := by decide +kernel
theorem dX1_placeBehind_167 : decode cX1_placeBehind 167 = .ok (.if_icmp .ne 8, 3) := by decide +kernel
theorem dX1_placeBehind_170 : decode cX1_placeBehind 170 = .ok (.bipush 9, 2) := by decide +kernel
theorem dX1_placeBehind_172 : decode cX1_placeBehind 172 = .ok (.goto 4, 3) := by decide +kernel
theorem dX1_placeBehind_175 : decode cX1_placeBehind 175 = .ok (.iconst 0, 1) := by decide +kernel
theorem dX1_placeBehind_176 : decode cX1_placeBehind 176 = .ok (.ireturn, 1) := by decide +kernel
theorem dX1_placeBehind_177 : decode cX1_placeBehind 177 = .ok (.iload_n 2, 1) := by decide +kernel
theorem dX1_placeBehind_178 : decode cX1_placeBehind 178 = .ok (.bipush 48, 2) := by decide +kernel
theorem dX1_placeBehind_180 : decode cX1_placeBehind 180 = .ok (.if_icmp .ne 8, 3) := by decide +kernel
theorem dX1_placeBehind_183 : decode cX1_placeBehind 183 = .ok (.bipush 13, 2) := by decide +kernel
theorem dX1_placeBehind_185 : decode cX1_placeBehind 185 = .ok (.goto 17, 3) := by decide +kernel
theorem dX1_placeBehind_188 : decode cX1_placeBehind 188 = .ok (.aload_n 0, 1) := by decide +kernel
theorem dX1_placeBehind_189 : decode cX1_placeBehind 189 = .ok (.iload_n 2, 1) := by decide +kernel
theorem dX1_placeBehind_190 : decode cX1_placeBehind 190 = .ok (.invokevirtual 41, 3) := by decide +kernel
theorem dX1_placeBehind_193 : decode cX1_placeBehind 193 = .ok (.ifCond .eq 8, 3) := by decide +kernel
theorem dX1_placeBehind_196 : decode cX1_placeBehind 196 = .ok (.bipush 10, 2) := by decide +kernel
theorem dX1_placeBehind_198 : decode cX1_placeBehind 198 = .ok (.goto 4, 3) := by decide +kernel
theorem dX1_placeBehind_201 : decode cX1_placeBehind 201 = .ok (.iconst 0, 1) := by decide +kernel
theorem dX1_placeBehind_202 : decode cX1_placeBehind 202 = .ok (.ireturn, 1) := by decide +kernel
theorem dX1_placeBehind_203 : decode cX1_placeBehind 203 = .ok (.aload_n 0, 1) := by decide +kernel
theorem dX1_placeBehind_204 : decode cX1_placeBehind 204 = .ok (.iload_n 2, 1) := by decide +kernel
theorem dX1_placeBehind_205 : decode cX1_placeBehind 205 = .ok (.invokevirtual 41, 3) := by decide +kernel
theorem dX1_placeBehind_208 : decode cX1_placeBehind 208 = .ok (.ifCond .eq 8, 3) := by decide +kernel
theorem dX1_placeBehind_211 : decode cX1_placeBehind 211 = .ok (.bipush 11, 2) := by decide +kernel
theorem dX1_placeBehind_213 : decode cX1_placeBehind 213 = .ok (.goto 8, 3) := by decide +kernel
theorem dX1_placeBehind_216 : decode cX1_placeBehind 216 = .ok (.aload_n 0, 1) := by decide +kernel
theorem dX1_placeBehind_217 : decode cX1_placeBehind 217 = .ok (.iload_n 2, 1) := by decide +kernel
theorem dX1_placeBehind_218 : decode cX1_placeBehind 218 = .ok (.invokevirtual 45, 3) := by decide +kernel
theorem dX1_placeBehind_221 : decode cX1_placeBehind 221 = .ok (.ireturn, 1) := by decide +kernel
theorem dX1_placeBehind_222 : decode cX1_placeBehind 222 = .ok (.aload_n 0, 1) := by decide +kernel
theorem dX1_placeBehind_223 : decode cX1_placeBehind 223 = .ok (.iload_n 2, 1) := by decide +kernel
theorem dX1_placeBehind_224 : decode cX1_placeBehind 224 = .ok (.invokevirtual 41, 3) := by decide +kernel
theorem dX1_placeBehind_227 : decode cX1_placeBehind 227 = .ok (.ifCond .eq 8, 3) := by decide +kernel
theorem dX1_placeBehind_230 : decode cX1_placeBehind 230 = .ok (.bipush 12, 2) := by decide +kernel
theorem dX1_placeBehind_232 : decode cX1_placeBehind 232 = .ok (.goto 8, 3) := by decide +kernel
theorem dX1_placeBehind_235 : decode cX1_placeBehind 235 = .ok (.aload_n 0, 1) := by decide +kernel
theorem dX1_placeBehind_236 : decode cX1_placeBehind 236 = .ok (.iload_n 2, 1) := by decide +kernel
theorem dX1_placeBehind_237 : decode cX1_placeBehind 237 = .ok (.invokevirtual 45, 3) := by decide +kernel
theorem dX1_placeBehind_240 : decode cX1_placeBehind 240 = .ok (.ireturn, 1) := by decide +kernel
theorem dX1_placeBehind_241 : decode cX1_placeBehind 241 = .ok (.aload_n 0, 1) := by decide +kernel
theorem dX1_placeBehind_242 : decode cX1_placeBehind 242 = .ok (.iload_n 2, 1) := by decide +kernel
theorem dX1_placeBehind_243 : decode cX1_placeBehind 243 = .ok (.invokevirtual 41, 3) := by decide +kernel
theorem dX1_placeBehind_246 : decode cX1_placeBehind 246 = .ok (.ifCond .eq 8, 3) := by decide +kernel
theorem dX1_placeBehind_249 : decode cX1_placeBehind 249 = .ok (.bipush 13, 2) := by decide +kernel
theorem dX1_placeBehind_251 : decode cX1_placeBehind 251 = .ok (.goto 8, 3) := by decide +kernel
theorem dX1_placeBehind_254 : decode cX1_placeBehind 254 = .ok (.aload_n 0, 1) := by decide +kernel
theorem dX1_placeBehind_255 : decode cX1_placeBehind 255 = .ok (.iload_n 2, 1) := by decide +kernel
theorem dX1_placeBehind_256 : decode cX1_placeBehind 256 = .ok (.invokevirtual 45, 3) := by decide +kernel
theorem dX1_placeBehind_259 : decode cX1_placeBehind 259 = .ok (.ireturn, 1) := by decide +kernel
theorem dX1_placeBehind_260 : decode cX1_placeBehind 260 = .ok (.aload_n 0, 1) := by decide +kernel
theorem dX1_placeBehind_261 : decode cX1_placeBehind 261 = .ok (.iload_n 2, 1) := by decide +kernel
theorem dX1_placeBehind_262 : decode cX1_placeBehind 262 = .ok (.invokevirtual 45, 3) := by decide +kernel
theorem dX1_placeBehind_265 : decode cX1_placeBehind 265 = .ok (.ireturn, 1) := by decide +kernel
theorem dX1_placeBehindLetter_0 : decode cX1_placeBehindLetter 0 = .ok (.iload_n 1, 1) := by decide +kernel
theorem dX1_placeBehindLetter_1 : decode cX1_placeBehindLetter 1 = .ok (.tableswitch 114 97 119 #[107, 114, 114, 112, 114, 107, 107, 114, 114, 107, 114, 114, 114, 114, 114, 114, 114, 112, 114, 114, 114, 114, 110], 107) := by decide +kernel
theorem dX1_placeBehindLetter_108 : decode cX1_placeBehindLetter 108 = .ok (.bipush 13, 2) := by decide +kernel
theorem dX1_placeBehindLetter_110 : decode cX1_placeBehindLetter 110 = .ok (.ireturn, 1) := by decide +kernel
theorem dX1_placeBehindLetter_111 : decode cX1_placeBehindLetter 111 = .ok (.iconst 3, 1) := by decide +kernel
theorem dX1_placeBehindLetter_112 : decode cX1_placeBehindLetter 112 = .ok (.ireturn, 1) := by decide +kernel
theorem dX1_placeBehindLetter_113 : decode cX1_placeBehindLetter 113 = .ok (.iconst 2, 1) := by decide +kernel
theorem dX1_placeBehindLetter_114 : decode cX1_placeBehindLetter 114 = .ok (.ireturn, 1) := by decide +kernel
theorem dX1_placeBehindLetter_115 : decode cX1_placeBehindLetter 115 = .ok (.iconst 0, 1) := by decide +kernel
theorem dX1_placeBehindLetter_116 : decode cX1_placeBehindLetter 116 = .ok (.ireturn, 1) := by decide +kernel
theorem dX1_placeBehindName_0 : decode cX1_placeBehindName 0 = .ok (.iload_n 1, 1) := by decide +kernel
theorem dX1_placeBehindName_1 : decode cX1_placeBehindName 1 = .ok (.bipush 45, 2) := by decide +kernel
theorem dX1_placeBehindName_3 : decode cX1_placeBehindName 3 = .ok (.if_icmp .ne 5, 3) := by decide +kernel
theorem dX1_placeBehindName_6 : decode cX1_placeBehindName 6 = .ok (.iload_n 2, 1) := by decide +kernel
theorem dX1_placeBehindName_7 : decode cX1_placeBehindName 7 = .ok (.ireturn, 1) := by decide +kernel
theorem dX1_placeBehindName_8 : decode cX1_placeBehindName 8 = .ok (.iload_n 1, 1) := by decide +kernel
theorem dX1_placeBehindName_9 : decode cX1_placeBehindName 9 = .ok (.bipush 48, 2) := by decide +kernel
theorem dX1_placeBehindName_11 : decode cX1_placeBehindName 11 = .ok (.if_icmp .eq 9, 3) := by decide +kernel
theorem dX1_placeBehindName_14 : decode cX1_placeBehindName 14 = .ok (.iload_n 1, 1) := by decide +kernel
theorem dX1_placeBehindName_15 : decode cX1_placeBehindName 15 = .ok (.bipush 43, 2) := by decide +kernel
theorem dX1_placeBehindName_17 : decode cX1_placeBehindName 17 = .ok (.if_icmp .ne 7, 3) := by decide +kernel
theorem dX1_placeBehindName_20 : decode cX1_placeBehindName 20 = .ok (.iload_n 3, 1) := by decide +kernel
theorem dX1_placeBehindName_21 : decode cX1_placeBehindName 21 = .ok (.goto 4, 3) := by decide +kernel
theorem dX1_placeBehindName_24 : decode cX1_placeBehindName 24 = .ok (.iconst 0, 1) := by decide +kernel
theorem dX1_placeBehindName_25 : decode cX1_placeBehindName 25 = .ok (.ireturn, 1) := by decide +kernel
theorem dX1_placeBehindOrder_0 : decode cX1_placeBehindOrder 0 = .ok (.iload_n 1, 1) := by decide +kernel
theorem dX1_placeBehindOrder_1 : decode cX1_placeBehindOrder 1 = .ok (.bipush 59, 2) := by decide +kernel
theorem dX1_placeBehindOrder_3 : decode cX1_placeBehindOrder 3 = .ok (.if_icmp .ne 7, 3) := by decide +kernel
theorem dX1_placeBehindOrder_6 : decode cX1_placeBehindOrder 6 = .ok (.iconst 1, 1) := by decide +kernel
theorem dX1_placeBehindOrder_7 : decode cX1_placeBehindOrder 7 = .ok (.goto 4, 3) := by decide +kernel
theorem dX1_placeBehindOrder_10 : decode cX1_placeBehindOrder 10 = .ok (.iconst 0, 1) := by decide +kernel
theorem dX1_placeBehindOrder_11 : decode cX1_placeBehindOrder 11 = .ok (.ireturn, 1) := by decide +kernel
theorem dX1_isDigit_0 : decode cX1_isDigit 0 = .ok (.iload_n 1, 1) := by decide +kernel
theorem dX1_isDigit_1 : decode cX1_isDigit 1 = .ok (.bipush 48, 2) := by decide +kernel
theorem dX1_isDigit_3 : decode cX1_isDigit 3 = .ok (.if_icmp .lt 13, 3) := by decide +kernel
theorem dX1_isDigit_6 : decode cX1_isDigit 6 = .ok (.iload_n 1, 1) := by decide +kernel
theorem dX1_isDigit_7 : decode cX1_isDigit 7 = .ok (.bipush 57, 2) := by decide +kernel
theorem dX1_isDigit_9 : decode cX1_isDigit 9 = .ok (.if_icmp .gt 7, 3) := by decide +kernel
theorem dX1_isDigit_12 : decode cX1_isDigit 12 = .ok (.iconst 1, 1) := by decide +kernel
theorem dX1_isDigit_13 : decode cX1_isDigit 13 = .ok (.goto 4, 3) := by decide +kernel
theorem dX1_isDigit_16 : decode cX1_isDigit 16 = .ok (.iconst 0, 1) := by decide +kernel
theorem dX1_isDigit_17 : decode cX1_isDigit 17 = .ok (.ireturn, 1) := by decide +kernel
set_option maxRecDepth 20000 in
theorem ggX1_startsOrder_X1_sign : GoodIn wsX1_startsOrder wsX1_sign := goodIn_r _ [5, 6, 7, 8, 9] (by decide +kernel) (by decide +kernel)
set_option maxRecDepth 20000 in
theorem gX1_startsOrder_X1_sign : GoodIn wsX1_startsOrder (wsV RX1 48 RX1 yX1_sign wsX1_sign) := goodIn_app (goodIn_of _ (by decide +kernel)) ggX1_startsOrder_X1_sign
theorem dX1_startsOrder_0 : decode cX1_startsOrder 0 = .ok (.iload_n 1, 1) := by decide +kernel
theorem dX1_startsOrder_1 : decode cX1_startsOrder 1 = .ok (.ifCond .eq 15, 3) := by decide +kernel
theorem dX1_startsOrder_4 : decode cX1_startsOrder 4 = .ok (.aload_n 0, 1) := by decide +kernel
theorem dX1_startsOrder_5 : decode cX1_startsOrder 5 = .ok (.iload_n 1, 1) := by decide +kernel
theorem dX1_startsOrder_6 : decode cX1_startsOrder 6 = .ok (.iconst 1, 1) := by decide +kernel
theorem dX1_startsOrder_7 : decode cX1_startsOrder 7 = .ok (.isub, 1) := by decide +kernel
theorem dX1_startsOrder_8 : decode cX1_startsOrder 8 = .ok (.invokevirtual 48, 3) := by decide +kernel
theorem dX1_startsOrder_11 : decode cX1_startsOrder 11 = .ok (.bipush 59, 2) := by decide +kernel
theorem dX1_startsOrder_13 : decode cX1_startsOrder 13 = .ok (.if_icmp .ne 7, 3) := by decide +kernel
theorem dX1_startsOrder_16 : decode cX1_startsOrder 16 = .ok (.iconst 1, 1) := by decide +kernel
theorem dX1_startsOrder_17 : decode cX1_startsOrder 17 = .ok (.goto 4, 3) := by decide +kernel
theorem dX1_startsOrder_20 : decode cX1_startsOrder 20 = .ok (.iconst 0, 1) := by decide +kernel
theorem dX1_startsOrder_21 : decode cX1_startsOrder 21 = .ok (.ireturn, 1) := by decide +kernel
set_option maxRecDepth 20000 in
theorem ggX1_groupOfOrder_X1_sign : GoodIn wsX1_groupOfOrder wsX1_sign := goodIn_r _ [5, 6, 7, 8, 9] (by decide +kernel) (by decide +kernel)
set_option maxRecDepth 20000 in
theorem gX1_groupOfOrder_X1_sign : GoodIn wsX1_groupOfOrder (wsV RX1 48 RX1 yX1_sign wsX1_sign) := goodIn_app (goodIn_of _ (by decide +kernel)) ggX1_groupOfOrder_X1_sign
theorem dX1_groupOfOrder_0 : decode cX1_groupOfOrder 0 = .ok (.aload_n 0, 1) := by decide +kernel
theorem dX1_groupOfOrder_1 : decode cX1_groupOfOrder 1 = .ok (.iload_n 1, 1) := by decide +kernel
theorem dX1_groupOfOrder_2 : decode cX1_groupOfOrder 2 = .ok (.iconst 1, 1) := by decide +kernel
theorem dX1_groupOfOrder_3 : decode cX1_groupOfOrder 3 = .ok (.iadd, 1) := by decide +kernel
theorem dX1_groupOfOrder_4 : decode cX1_groupOfOrder 4 = .ok (.invokevirtual 48, 3) := by decide +kernel
theorem dX1_groupOfOrder_7 : decode cX1_groupOfOrder 7 = .ok (.bipush 48, 2) := by decide +kernel
theorem dX1_groupOfOrder_9 : decode cX1_groupOfOrder 9 = .ok (.isub, 1) := by decide +kernel
theorem dX1_groupOfOrder_10 : decode cX1_groupOfOrder 10 = .ok (.ireturn, 1) := by decide +kernel
set_option maxRecDepth 20000 in
theorem ggX1_nameOfOrder_X1_sign : GoodIn wsX1_nameOfOrder wsX1_sign := goodIn_r _ [5, 6, 7, 8, 9] (by decide +kernel) (by decide +kernel)
set_option maxRecDepth 20000 in
theorem gX1_nameOfOrder_X1_sign : GoodIn wsX1_nameOfOrder (wsV RX1 48 RX1 yX1_sign wsX1_sign) := goodIn_app (goodIn_of _ (by decide +kernel)) ggX1_nameOfOrder_X1_sign
theorem dX1_nameOfOrder_0 : decode cX1_nameOfOrder 0 = .ok (.aload_n 0, 1) := by decide +kernel
theorem dX1_nameOfOrder_1 : decode cX1_nameOfOrder 1 = .ok (.iload_n 1, 1) := by decide +kernel
theorem dX1_nameOfOrder_2 : decode cX1_nameOfOrder 2 = .ok (.iconst 2, 1) := by decide +kernel
theorem dX1_nameOfOrder_3 : decode cX1_nameOfOrder 3 = .ok (.iadd, 1) := by decide +kernel
theorem dX1_nameOfOrder_4 : decode cX1_nameOfOrder 4 = .ok (.invokevirtual 48, 3) := by decide +kernel
theorem dX1_nameOfOrder_7 : decode cX1_nameOfOrder 7 = .ok (.lookupswitch 38 #[(43, 25), (45, 27)], 25) := by decide +kernel
theorem dX1_nameOfOrder_32 : decode cX1_nameOfOrder 32 = .ok (.iconst 1, 1) := by decide +kernel
theorem dX1_nameOfOrder_33 : decode cX1_nameOfOrder 33 = .ok (.ireturn, 1) := by decide +kernel
theorem dX1_nameOfOrder_34 : decode cX1_nameOfOrder 34 = .ok (.bipush 48, 2) := by decide +kernel
theorem dX1_nameOfOrder_36 : decode cX1_nameOfOrder 36 = .ok (.aload_n 0, 1) := by decide +kernel
theorem dX1_nameOfOrder_37 : decode cX1_nameOfOrder 37 = .ok (.iload_n 1, 1) := by decide +kernel
theorem dX1_nameOfOrder_38 : decode cX1_nameOfOrder 38 = .ok (.iconst 3, 1) := by decide +kernel
theorem dX1_nameOfOrder_39 : decode cX1_nameOfOrder 39 = .ok (.iadd, 1) := by decide +kernel
theorem dX1_nameOfOrder_40 : decode cX1_nameOfOrder 40 = .ok (.invokevirtual 48, 3) := by decide +kernel
theorem dX1_nameOfOrder_43 : decode cX1_nameOfOrder 43 = .ok (.isub, 1) := by decide +kernel
theorem dX1_nameOfOrder_44 : decode cX1_nameOfOrder 44 = .ok (.ireturn, 1) := by decide +kernel
theorem dX1_nameOfOrder_45 : decode cX1_nameOfOrder 45 = .ok (.iconst 0, 1) := by decide +kernel
theorem dX1_nameOfOrder_46 : decode cX1_nameOfOrder 46 = .ok (.ireturn, 1) := by decide +kernel
set_option maxRecDepth 20000 in
theorem ggX1_dataOfOrder_X1_sign : GoodIn wsX1_dataOfOrder wsX1_sign := goodIn_r _ [6, 1, 7, 12, 13] (by decide +kernel) (by decide +kernel)
set_option maxRecDepth 20000 in
theorem gX1_dataOfOrder_X1_sign : GoodIn wsX1_dataOfOrder (wsV RX1 48 RX1 yX1_sign wsX1_sign) := goodIn_app (goodIn_of _ (by decide +kernel)) ggX1_dataOfOrder_X1_sign
set_option maxRecDepth 20000 in
theorem ggX1_dataOfOrder_X1_isDigit : GoodIn wsX1_dataOfOrder wsX1_isDigit := goodIn_r _ [11] (by decide +kernel) (by decide +kernel)
set_option maxRecDepth 20000 in
theorem gX1_dataOfOrder_X1_isDigit : GoodIn wsX1_dataOfOrder (wsV RX1 41 RX1 yX1_isDigit wsX1_isDigit) := goodIn_app (goodIn_of _ (by decide +kernel)) ggX1_dataOfOrder_X1_isDigit
theorem dX1_dataOfOrder_0 : decode cX1_dataOfOrder 0 = .ok (.iload_n 1, 1) := by decide +kernel
theorem dX1_dataOfOrder_1 : decode cX1_dataOfOrder 1 = .ok (.aload_n 0, 1) := by decide +kernel
theorem dX1_dataOfOrder_2 : decode cX1_dataOfOrder 2 = .ok (.iload_n 1, 1) := by decide +kernel
theorem dX1_dataOfOrder_3 : decode cX1_dataOfOrder 3 = .ok (.iconst 2, 1) := by decide +kernel
theorem dX1_dataOfOrder_4 : decode cX1_dataOfOrder 4 = .ok (.iadd, 1) := by decide +kernel
theorem dX1_dataOfOrder_5 : decode cX1_dataOfOrder 5 = .ok (.invokevirtual 48, 3) := by decide +kernel
theorem dX1_dataOfOrder_8 : decode cX1_dataOfOrder 8 = .ok (.bipush 45, 2) := by decide +kernel
theorem dX1_dataOfOrder_10 : decode cX1_dataOfOrder 10 = .ok (.if_icmp .ne 7, 3) := by decide +kernel
theorem dX1_dataOfOrder_13 : decode cX1_dataOfOrder 13 = .ok (.iconst 5, 1) := by decide +kernel
theorem dX1_dataOfOrder_14 : decode cX1_dataOfOrder 14 = .ok (.goto 4, 3) := by decide +kernel
theorem dX1_dataOfOrder_17 : decode cX1_dataOfOrder 17 = .ok (.iconst 4, 1) := by decide +kernel
theorem dX1_dataOfOrder_18 : decode cX1_dataOfOrder 18 = .ok (.iadd, 1) := by decide +kernel
theorem dX1_dataOfOrder_19 : decode cX1_dataOfOrder 19 = .ok (.istore_n 2, 1) := by decide +kernel
theorem dX1_dataOfOrder_20 : decode cX1_dataOfOrder 20 = .ok (.iconst 0, 1) := by decide +kernel
theorem dX1_dataOfOrder_21 : decode cX1_dataOfOrder 21 = .ok (.istore_n 3, 1) := by decide +kernel
theorem dX1_dataOfOrder_22 : decode cX1_dataOfOrder 22 = .ok (.iload_n 2, 1) := by decide +kernel
theorem dX1_dataOfOrder_23 : decode cX1_dataOfOrder 23 = .ok (.istore 4, 2) := by decide +kernel
theorem dX1_dataOfOrder_25 : decode cX1_dataOfOrder 25 = .ok (.iload 4, 2) := by decide +kernel
theorem dX1_dataOfOrder_27 : decode cX1_dataOfOrder 27 = .ok (.aload_n 0, 1) := by decide +kernel
theorem dX1_dataOfOrder_28 : decode cX1_dataOfOrder 28 = .ok (.getfield 15, 3) := by decide +kernel
theorem dX1_dataOfOrder_31 : decode cX1_dataOfOrder 31 = .ok (.if_icmp .ge 37, 3) := by decide +kernel
theorem dX1_dataOfOrder_34 : decode cX1_dataOfOrder 34 = .ok (.aload_n 0, 1) := by decide +kernel
theorem dX1_dataOfOrder_35 : decode cX1_dataOfOrder 35 = .ok (.aload_n 0, 1) := by decide +kernel
theorem dX1_dataOfOrder_36 : decode cX1_dataOfOrder 36 = .ok (.iload 4, 2) := by decide +kernel
theorem dX1_dataOfOrder_38 : decode cX1_dataOfOrder 38 = .ok (.invokevirtual 48, 3) := by decide +kernel
theorem dX1_dataOfOrder_41 : decode cX1_dataOfOrder 41 = .ok (.invokevirtual 41, 3) := by decide +kernel
theorem dX1_dataOfOrder_44 : decode cX1_dataOfOrder 44 = .ok (.ifCond .eq 24, 3) := by decide +kernel
theorem dX1_dataOfOrder_47 : decode cX1_dataOfOrder 47 = .ok (.bipush 10, 2) := by decide +kernel
theorem dX1_dataOfOrder_49 : decode cX1_dataOfOrder 49 = .ok (.iload_n 3, 1) := by decide +kernel
theorem dX1_dataOfOrder_50 : decode cX1_dataOfOrder 50 = .ok (.imul, 1) := by decide +kernel
theorem dX1_dataOfOrder_51 : decode cX1_dataOfOrder 51 = .ok (.aload_n 0, 1) := by decide +kernel
theorem dX1_dataOfOrder_52 : decode cX1_dataOfOrder 52 = .ok (.iload 4, 2) := by decide +kernel
theorem dX1_dataOfOrder_54 : decode cX1_dataOfOrder 54 = .ok (.invokevirtual 48, 3) := by decide +kernel
theorem dX1_dataOfOrder_57 : decode cX1_dataOfOrder 57 = .ok (.iadd, 1) := by decide +kernel
theorem dX1_dataOfOrder_58 : decode cX1_dataOfOrder 58 = .ok (.bipush 48, 2) := by decide +kernel
theorem dX1_dataOfOrder_60 : decode cX1_dataOfOrder 60 = .ok (.isub, 1) := by decide +kernel
theorem dX1_dataOfOrder_61 : decode cX1_dataOfOrder 61 = .ok (.istore_n 3, 1) := by decide +kernel
theorem dX1_dataOfOrder_62 : decode cX1_dataOfOrder 62 = .ok (.iinc 4 1, 3) := by decide +kernel
theorem dX1_dataOfOrder_65 : decode cX1_dataOfOrder 65 = .ok (.goto (-40), 3) := by decide +kernel
theorem dX1_dataOfOrder_68 : decode cX1_dataOfOrder 68 = .ok (.iload_n 3, 1) := by decide +kernel
theorem dX1_dataOfOrder_69 : decode cX1_dataOfOrder 69 = .ok (.ireturn, 1) := by decide +kernel
set_option maxRecDepth 20000 in
theorem ggX2_init_X0_init : GoodIn wsX2_init wsX0_init := goodIn_r _ [15, 16, 2, 3, 17, 18, 19, 20, 21, 22, 23, 24, 25, 26, 27, 35, 36, 37, 38, 39, 40, 41, 42, 43, 44] (by decide +kernel) (by decide +kernel)
set_option maxRecDepth 20000 in
theorem gX2_init_X0_init_n37 : GoodIn wsX2_init (wsX0_init) := ggX2_init_X0_init
theorem dX2_init_0 : decode cX2_init 0 = .ok (.aload_n 0, 1) := by decide +kernel
theorem dX2_init_1 : decode cX2_init 1 = .ok (.invokespecial 3, 3) := by decide +kernel
theorem dX2_init_4 : decode cX2_init 4 = .ok (.aload_n 0, 1) := by decide +kernel
theorem dX2_init_5 : decode cX2_init 5 = .ok (.bipush 6, 2) := by decide +kernel
theorem dX2_init_7 : decode cX2_init 7 = .ok (.anewarray 9, 3) := by decide +kernel
theorem dX2_init_10 : decode cX2_init 10 = .ok (.putfield 11, 3) := by decide +kernel
theorem dX2_init_13 : decode cX2_init 13 = .ok (.aload_n 0, 1) := by decide +kernel
theorem dX2_init_14 : decode cX2_init 14 = .ok (.iconst 0, 1) := by decide +kernel
theorem dX2_init_15 : decode cX2_init 15 = .ok (.putfield 17, 3) := by decide +kernel
theorem dX2_init_18 : decode cX2_init 18 = .ok (.aload_n 0, 1) := by decide +kernel
theorem dX2_init_19 : decode cX2_init 19 = .ok (.iconst 0, 1) := by decide +kernel
theorem dX2_init_20 : decode cX2_init 20 = .ok (.putfield 21, 3) := by decide +kernel
theorem dX2_init_23 : decode cX2_init 23 = .ok (.aload_n 0, 1) := by decide +kernel
theorem dX2_init_24 : decode cX2_init 24 = .ok (.iconst 0, 1) := by decide +kernel
theorem dX2_init_25 : decode cX2_init 25 = .ok (.putfield 25, 3) := by decide +kernel
theorem dX2_init_28 : decode cX2_init 28 = .ok (.aload_n 0, 1) := by decide +kernel
theorem dX2_init_29 : decode cX2_init 29 = .ok (.iconst 0, 1) := by decide +kernel
theorem dX2_init_30 : decode cX2_init 30 = .ok (.putfield 28, 3) := by decide +kernel
theorem dX2_init_33 : decode cX2_init 33 = .ok (.aload_n 0, 1) := by decide +kernel
theorem dX2_init_34 : decode cX2_init 34 = .ok (.iconst 0, 1) := by decide +kernel
theorem dX2_init_35 : decode cX2_init 35 = .ok (.putfield 31, 3) := by decide +kernel
theorem dX2_init_38 : decode cX2_init 38 = .ok (.aload_n 0, 1) := by decide +kernel
theorem dX2_init_39 : decode cX2_init 39 = .ok (.iconst 0, 1) := by decide +kernel
theorem dX2_init_40 : decode cX2_init 40 = .ok (.putfield 34, 3) := by decide +kernel
theorem dX2_init_43 : decode cX2_init 43 = .ok (.iconst 0, 1) := by decide +kernel
theorem dX2_init_44 : decode cX2_init 44 = .ok (.istore_n 1, 1) := by decide +kernel
theorem dX2_init_45 : decode cX2_init 45 = .ok (.iload_n 1, 1) := by decide +kernel
theorem dX2_init_46 : decode cX2_init 46 = .ok (.bipush 6, 2) := by decide +kernel
theorem dX2_init_48 : decode cX2_init 48 = .ok (.if_icmp .ge 22, 3) := by decide +kernel
theorem dX2_init_51 : decode cX2_init 51 = .ok (.aload_n 0, 1) := by decide +kernel
theorem dX2_init_52 : decode cX2_init 52 = .ok (.getfield 11, 3) := by decide +kernel
theorem dX2_init_55 : decode cX2_init 55 = .ok (.iload_n 1, 1) := by decide +kernel
theorem dX2_init_56 : decode cX2_init 56 = .ok (.new 9, 3) := by decide +kernel
theorem dX2_init_59 : decode cX2_init 59 = .ok (.dup, 1) := by decide +kernel
theorem dX2_init_60 : decode cX2_init 60 = .ok (.invokespecial 37, 3) := by decide +kernel
theorem dX2_init_63 : decode cX2_init 63 = .ok (.aastore, 1) := by decide +kernel
theorem dX2_init_64 : decode cX2_init 64 = .ok (.iinc 1 1, 3) := by decide +kernel
theorem dX2_init_67 : decode cX2_init 67 = .ok (.goto (-22), 3) := by decide +kernel
theorem dX2_init_70 : decode cX2_init 70 = .ok (.return_, 1) := by decide +kernel
set_option maxRecDepth 20000 in
theorem ggX2_copyFrom_X0_copyFrom : GoodIn wsX2_copyFrom wsX0_copyFrom := goodIn_r _ [12, 13, 14, 15, 16, 17, 18, 19, 20, 21, 22, 23, 24, 25, 26, 34, 35, 36, 37, 38, 39, 40, 41, 42, 43] (by decide +kernel) (by decide +kernel)
set_option maxRecDepth 20000 in
theorem gX2_copyFrom_X0_copyFrom : GoodIn wsX2_copyFrom (wsV RX2 38 RX0 yX0_copyFrom wsX0_copyFrom) := goodIn_app (goodIn_of _ (by decide +kernel)) ggX2_copyFrom_X0_copyFrom
theorem dX2_copyFrom_0 : decode cX2_copyFrom 0 = .ok (.iconst 0, 1) := by decide +kernel
theorem dX2_copyFrom_1 : decode cX2_copyFrom 1 = .ok (.istore_n 2, 1) := by decide +kernel
theorem dX2_copyFrom_2 : decode cX2_copyFrom 2 = .ok (.iload_n 2, 1) := by decide +kernel
theorem dX2_copyFrom_3 : decode cX2_copyFrom 3 = .ok (.bipush 6, 2) := by decide +kernel
theorem dX2_copyFrom_5 : decode cX2_copyFrom 5 = .ok (.if_icmp .ge 24, 3) := by decide +kernel
theorem dX2_copyFrom_8 : decode cX2_copyFrom 8 = .ok (.aload_n 0, 1) := by decide +kernel
theorem dX2_copyFrom_9 : decode cX2_copyFrom 9 = .ok (.getfield 11, 3) := by decide +kernel
theorem dX2_copyFrom_12 : decode cX2_copyFrom 12 = .ok (.iload_n 2, 1) := by decide +kernel
theorem dX2_copyFrom_13 : decode cX2_copyFrom 13 = .ok (.aaload, 1) := by decide +kernel
theorem dX2_copyFrom_14 : decode cX2_copyFrom 14 = .ok (.aload_n 1, 1) := by decide +kernel
theorem dX2_copyFrom_15 : decode cX2_copyFrom 15 = .ok (.getfield 11, 3) := by decide +kernel
theorem dX2_copyFrom_18 : decode cX2_copyFrom 18 = .ok (.iload_n 2, 1) := by decide +kernel
theorem dX2_copyFrom_19 : decode cX2_copyFrom 19 = .ok (.aaload, 1) := by decide +kernel
theorem dX2_copyFrom_20 : decode cX2_copyFrom 20 = .ok (.invokevirtual 38, 3) := by decide +kernel
theorem dX2_copyFrom_23 : decode cX2_copyFrom 23 = .ok (.iinc 2 1, 3) := by decide +kernel
theorem dX2_copyFrom_26 : decode cX2_copyFrom 26 = .ok (.goto (-24), 3) := by decide +kernel
theorem dX2_copyFrom_29 : decode cX2_copyFrom 29 = .ok (.aload_n 0, 1) := by decide +kernel
theorem dX2_copyFrom_30 : decode cX2_copyFrom 30 = .ok (.aload_n 1, 1) := by decide +kernel
theorem dX2_copyFrom_31 : decode cX2_copyFrom 31 = .ok (.getfield 17, 3) := by decide +kernel
theorem dX2_copyFrom_34 : decode cX2_copyFrom 34 = .ok (.putfield 17, 3) := by decide +kernel
theorem dX2_copyFrom_37 : decode cX2_copyFrom 37 = .ok (.aload_n 0, 1) := by decide +kernel
theorem dX2_copyFrom_38 : decode cX2_copyFrom 38 = .ok (.aload_n 1, 1) := by decide +kernel
theorem dX2_copyFrom_39 : decode cX2_copyFrom 39 = .ok (.getfield 21, 3) := by decide +kernel
theorem dX2_copyFrom_42 : decode cX2_copyFrom 42 = .ok (.putfield 21, 3) := by decide +kernel
theorem dX2_copyFrom_45 : decode cX2_copyFrom 45 = .ok (.aload_n 0, 1) := by decide +kernel
theorem dX2_copyFrom_46 : decode cX2_copyFrom 46 = .ok (.aload_n 1, 1) := by decide +kernel
theorem dX2_copyFrom_47 : decode cX2_copyFrom 47 = .ok (.getfield 25, 3) := by decide +kernel
theorem dX2_copyFrom_50 : decode cX2_copyFrom 50 = .ok (.putfield 25, 3) := by decide +kernel
theorem dX2_copyFrom_53 : decode cX2_copyFrom 53 = .ok (.aload_n 0, 1) := by decide +kernel
theorem dX2_copyFrom_54 : decode cX2_copyFrom 54 = .ok (.aload_n 1, 1) := by decide +kernel
theorem dX2_copyFrom_55 : decode cX2_copyFrom 55 = .ok (.getfield 28, 3) := by decide +kernel
theorem dX2_copyFrom_58 : decode cX2_copyFrom 58 = .ok (.putfield 28, 3) := by decide +kernel
theorem dX2_copyFrom_61 : decode cX2_copyFrom 61 = .ok (.aload_n 0, 1) := by decide +kernel
theorem dX2_copyFrom_62 : decode cX2_copyFrom 62 = .ok (.aload_n 1, 1) := by decide +kernel
theorem dX2_copyFrom_63 : decode cX2_copyFrom 63 = .ok (.getfield 31, 3) := by decide +kernel
theorem dX2_copyFrom_66 : decode cX2_copyFrom 66 = .ok (.putfield 31, 3) := by decide +kernel
theorem dX2_copyFrom_69 : decode cX2_copyFrom 69 = .ok (.aload_n 0, 1) := by decide +kernel
theorem dX2_copyFrom_70 : decode cX2_copyFrom 70 = .ok (.aload_n 1, 1) := by decide +kernel
theorem dX2_copyFrom_71 : decode cX2_copyFrom 71 = .ok (.getfield 34, 3) := by decide +kernel
theorem dX2_copyFrom_74 : decode cX2_copyFrom 74 = .ok (.putfield 34, 3) := by decide +kernel
theorem dX2_copyFrom_77 : decode cX2_copyFrom 77 = .ok (.return_, 1) := by decide +kernel
theorem dX2_isGroup_0 : decode cX2_isGroup 0 = .ok (.iload_n 1, 1) := by decide +kernel
theorem dX2_isGroup_1 : decode cX2_isGroup 1 = .ok (.ifCond .lt 13, 3) := by decide +kernel
theorem dX2_isGroup_4 : decode cX2_isGroup 4 = .ok (.iload_n 1, 1) := by decide +kernel
theorem dX2_isGroup_5 : decode cX2_isGroup 5 = .ok (.bipush 6, 2) := by decide +kernel
theorem dX2_isGroup_7 : decode cX2_isGroup 7 = .ok (.if_icmp .ge 7, 3) := by decide +kernel
theorem dX2_isGroup_10 : decode cX2_isGroup 10 = .ok (.iconst 1, 1) := by decide +kernel
theorem dX2_isGroup_11 : decode cX2_isGroup 11 = .ok (.goto 4, 3) := by decide +kernel
theorem dX2_isGroup_14 : decode cX2_isGroup 14 = .ok (.iconst 0, 1) := by decide +kernel
theorem dX2_isGroup_15 : decode cX2_isGroup 15 = .ok (.ireturn, 1) := by decide +kernel
theorem dX2_isName_0 : decode cX2_isName 0 = .ok (.iload_n 1, 1) := by decide +kernel
theorem dX2_isName_1 : decode cX2_isName 1 = .ok (.bipush (-7), 2) := by decide +kernel
theorem dX2_isName_3 : decode cX2_isName 3 = .ok (.if_icmp .lt 12, 3) := by decide +kernel
theorem dX2_isName_6 : decode cX2_isName 6 = .ok (.iload_n 1, 1) := by decide +kernel
theorem dX2_isName_7 : decode cX2_isName 7 = .ok (.iconst 1, 1) := by decide +kernel
theorem dX2_isName_8 : decode cX2_isName 8 = .ok (.if_icmp .gt 7, 3) := by decide +kernel
theorem dX2_isName_11 : decode cX2_isName 11 = .ok (.iconst 1, 1) := by decide +kernel
theorem dX2_isName_12 : decode cX2_isName 12 = .ok (.goto 4, 3) := by decide +kernel
theorem dX2_isName_15 : decode cX2_isName 15 = .ok (.iconst 0, 1) := by decide +kernel
theorem dX2_isName_16 : decode cX2_isName 16 = .ok (.ireturn, 1) := by decide +kernel
set_option maxRecDepth 20000 in
theorem ggX2_changeKeep_X2_isGroup : GoodIn wsX2_changeKeep wsX2_isGroup := goodIn_r _ [7] (by decide +kernel) (by decide +kernel)
set_option maxRecDepth 20000 in
theorem gX2_changeKeep_X2_isGroup : GoodIn wsX2_changeKeep (wsV RX2 42 RX2 yX2_isGroup wsX2_isGroup) := goodIn_app (goodIn_of _ (by decide +kernel)) ggX2_changeKeep_X2_isGroup
set_option maxRecDepth 20000 in
theorem ggX2_changeKeep_X0_leaveMost : GoodIn wsX2_changeKeep wsX0_leaveMost := goodIn_r _ [12, 13, 14, 15, 16, 17, 11, 18, 19, 20, 21, 22, 23, 24, 32, 33, 34, 35, 36, 37, 38, 39, 40, 41] (by decide +kernel) (by decide +kernel)
set_option maxRecDepth 20000 in
theorem gX2_changeKeep_X0_leaveMost : GoodIn wsX2_changeKeep (wsV RX2 49 RX0 yX0_leaveMost wsX0_leaveMost) := goodIn_app (goodIn_of _ (by decide +kernel)) ggX2_changeKeep_X0_leaveMost
theorem dX2_changeKeep_0 : decode cX2_changeKeep 0 = .ok (.aload_n 0, 1) := by decide +kernel
theorem dX2_changeKeep_1 : decode cX2_changeKeep 1 = .ok (.iload_n 1, 1) := by decide +kernel
theorem dX2_changeKeep_2 : decode cX2_changeKeep 2 = .ok (.invokevirtual 42, 3) := by decide +kernel
theorem dX2_changeKeep_5 : decode cX2_changeKeep 5 = .ok (.ifCond .ne 5, 3) := by decide +kernel
theorem dX2_changeKeep_8 : decode cX2_changeKeep 8 = .ok (.iconst (-1), 1) := by decide +kernel
theorem dX2_changeKeep_9 : decode cX2_changeKeep 9 = .ok (.ireturn, 1) := by decide +kernel
theorem dX2_changeKeep_10 : decode cX2_changeKeep 10 = .ok (.iload_n 2, 1) := by decide +kernel
theorem dX2_changeKeep_11 : decode cX2_changeKeep 11 = .ok (.iconst 1, 1) := by decide +kernel
theorem dX2_changeKeep_12 : decode cX2_changeKeep 12 = .ok (.if_icmp .lt 9, 3) := by decide +kernel
theorem dX2_changeKeep_15 : decode cX2_changeKeep 15 = .ok (.iload_n 2, 1) := by decide +kernel
theorem dX2_changeKeep_16 : decode cX2_changeKeep 16 = .ok (.bipush 8, 2) := by decide +kernel
theorem dX2_changeKeep_18 : decode cX2_changeKeep 18 = .ok (.if_icmp .le 6, 3) := by decide +kernel
theorem dX2_changeKeep_21 : decode cX2_changeKeep 21 = .ok (.bipush (-2), 2) := by decide +kernel
theorem dX2_changeKeep_23 : decode cX2_changeKeep 23 = .ok (.ireturn, 1) := by decide +kernel
theorem dX2_changeKeep_24 : decode cX2_changeKeep 24 = .ok (.aload_n 0, 1) := by decide +kernel
theorem dX2_changeKeep_25 : decode cX2_changeKeep 25 = .ok (.getfield 11, 3) := by decide +kernel
theorem dX2_changeKeep_28 : decode cX2_changeKeep 28 = .ok (.iload_n 1, 1) := by decide +kernel
theorem dX2_changeKeep_29 : decode cX2_changeKeep 29 = .ok (.aaload, 1) := by decide +kernel
theorem dX2_changeKeep_30 : decode cX2_changeKeep 30 = .ok (.astore_n 3, 1) := by decide +kernel
theorem dX2_changeKeep_31 : decode cX2_changeKeep 31 = .ok (.aload_n 3, 1) := by decide +kernel
theorem dX2_changeKeep_32 : decode cX2_changeKeep 32 = .ok (.getfield 46, 3) := by decide +kernel
theorem dX2_changeKeep_35 : decode cX2_changeKeep 35 = .ok (.istore 4, 2) := by decide +kernel
theorem dX2_changeKeep_37 : decode cX2_changeKeep 37 = .ok (.aload_n 3, 1) := by decide +kernel
theorem dX2_changeKeep_38 : decode cX2_changeKeep 38 = .ok (.iload_n 2, 1) := by decide +kernel
theorem dX2_changeKeep_39 : decode cX2_changeKeep 39 = .ok (.putfield 46, 3) := by decide +kernel
theorem dX2_changeKeep_42 : decode cX2_changeKeep 42 = .ok (.aload_n 3, 1) := by decide +kernel
theorem dX2_changeKeep_43 : decode cX2_changeKeep 43 = .ok (.iload_n 2, 1) := by decide +kernel
theorem dX2_changeKeep_44 : decode cX2_changeKeep 44 = .ok (.invokevirtual 49, 3) := by decide +kernel
theorem dX2_changeKeep_47 : decode cX2_changeKeep 47 = .ok (.iload 4, 2) := by decide +kernel
theorem dX2_changeKeep_49 : decode cX2_changeKeep 49 = .ok (.ireturn, 1) := by decide +kernel
theorem dX2_hasNewestOfJob_0 : decode cX2_hasNewestOfJob 0 = .ok (.aload_n 0, 1) := by decide +kernel
theorem dX2_hasNewestOfJob_1 : decode cX2_hasNewestOfJob 1 = .ok (.getfield 21, 3) := by decide +kernel
theorem dX2_hasNewestOfJob_4 : decode cX2_hasNewestOfJob 4 = .ok (.ifCond .eq 14, 3) := by decide +kernel
theorem dX2_hasNewestOfJob_7 : decode cX2_hasNewestOfJob 7 = .ok (.aload_n 1, 1) := by decide +kernel
theorem dX2_hasNewestOfJob_8 : decode cX2_hasNewestOfJob 8 = .ok (.getfield 53, 3) := by decide +kernel
theorem dX2_hasNewestOfJob_11 : decode cX2_hasNewestOfJob 11 = .ok (.ifCond .eq 7, 3) := by decide +kernel
theorem dX2_hasNewestOfJob_14 : decode cX2_hasNewestOfJob 14 = .ok (.iconst 1, 1) := by decide +kernel
theorem dX2_hasNewestOfJob_15 : decode cX2_hasNewestOfJob 15 = .ok (.goto 4, 3) := by decide +kernel
theorem dX2_hasNewestOfJob_18 : decode cX2_hasNewestOfJob 18 = .ok (.iconst 0, 1) := by decide +kernel
theorem dX2_hasNewestOfJob_19 : decode cX2_hasNewestOfJob 19 = .ok (.ireturn, 1) := by decide +kernel
set_option maxRecDepth 20000 in
theorem ggX2_writeByName_X2_isGroup : GoodIn wsX2_writeByName wsX2_isGroup := goodIn_r _ [9] (by decide +kernel) (by decide +kernel)
set_option maxRecDepth 20000 in
theorem gX2_writeByName_X2_isGroup : GoodIn wsX2_writeByName (wsV RX2 42 RX2 yX2_isGroup wsX2_isGroup) := goodIn_app (goodIn_of _ (by decide +kernel)) ggX2_writeByName_X2_isGroup
set_option maxRecDepth 20000 in
theorem ggX2_writeByName_X2_isName : GoodIn wsX2_writeByName wsX2_isName := goodIn_r _ [13] (by decide +kernel) (by decide +kernel)
set_option maxRecDepth 20000 in
theorem gX2_writeByName_X2_isName : GoodIn wsX2_writeByName (wsV RX2 56 RX2 yX2_isName wsX2_isName) := goodIn_app (goodIn_of _ (by decide +kernel)) ggX2_writeByName_X2_isName
set_option maxRecDepth 20000 in
theorem ggX2_writeByName_X2_hasNewestOfJob : GoodIn wsX2_writeByName wsX2_hasNewestOfJob := goodIn_r _ [17, 2, 18, 57, 58, 59, 60, 61, 62, 63, 64, 65, 66, 67, 68, 69, 70, 71, 72, 73] (by decide +kernel) (by decide +kernel)
set_option maxRecDepth 20000 in
theorem gX2_writeByName_X2_hasNewestOfJob : GoodIn wsX2_writeByName (wsV RX2 59 RX2 yX2_hasNewestOfJob wsX2_hasNewestOfJob) := goodIn_app (goodIn_of _ (by decide +kernel)) ggX2_writeByName_X2_hasNewestOfJob
set_option maxRecDepth 20000 in
theorem ggX2_writeByName_X0_make : GoodIn wsX2_writeByName wsX0_make := goodIn_r _ [23, 24, 25, 26, 27, 28, 29, 30, 31, 32, 33, 22, 34, 35, 36, 37, 38, 39, 40, 41, 42, 43, 64, 65, 66, 67, 68, 69, 70, 71, 72, 73] (by decide +kernel) (by decide +kernel)
set_option maxRecDepth 20000 in
theorem gX2_writeByName_X0_make : GoodIn wsX2_writeByName (wsV RX2 63 RX0 yX0_make wsX0_make) := goodIn_app (goodIn_of _ (by decide +kernel)) ggX2_writeByName_X0_make
set_option maxRecDepth 20000 in
theorem ggX2_writeByName_X0_numberOf : GoodIn wsX2_writeByName wsX0_numberOf := goodIn_r _ [47] (by decide +kernel) (by decide +kernel)
set_option maxRecDepth 20000 in
theorem gX2_writeByName_X0_numberOf : GoodIn wsX2_writeByName (wsV RX2 67 RX0 yX0_numberOf wsX0_numberOf) := goodIn_app (goodIn_of _ (by decide +kernel)) ggX2_writeByName_X0_numberOf
set_option maxRecDepth 20000 in
theorem ggX2_writeByName_X0_serialOf : GoodIn wsX2_writeByName wsX0_serialOf := goodIn_r _ [51, 30, 52, 25, 64, 65, 66, 67, 68, 69, 70, 71, 72, 73] (by decide +kernel) (by decide +kernel)
set_option maxRecDepth 20000 in
theorem gX2_writeByName_X0_serialOf : GoodIn wsX2_writeByName (wsV RX2 71 RX0 yX0_serialOf wsX0_serialOf) := goodIn_app (goodIn_of _ (by decide +kernel)) ggX2_writeByName_X0_serialOf
set_option maxRecDepth 20000 in
theorem ggX2_writeByName_X0_isThere : GoodIn wsX2_writeByName wsX0_isThere := goodIn_r _ [56, 25, 36, 37, 38, 22, 39, 26, 40, 41, 42, 43, 27, 64, 65, 66, 67, 68, 69, 70, 71, 72, 73] (by decide +kernel) (by decide +kernel)
set_option maxRecDepth 20000 in
theorem gX2_writeByName_X0_isThere : GoodIn wsX2_writeByName (wsV RX2 75 RX0 yX0_isThere wsX0_isThere) := goodIn_app (goodIn_of _ (by decide +kernel)) ggX2_writeByName_X0_isThere
theorem dX2_writeByName_0 : decode cX2_writeByName 0 = .ok (.aload_n 0, 1) := by decide +kernel
theorem dX2_writeByName_1 : decode cX2_writeByName 1 = .ok (.iload_n 1, 1) := by decide +kernel
theorem dX2_writeByName_2 : decode cX2_writeByName 2 = .ok (.invokevirtual 42, 3) := by decide +kernel
theorem dX2_writeByName_5 : decode cX2_writeByName 5 = .ok (.ifCond .ne 5, 3) := by decide +kernel
theorem dX2_writeByName_8 : decode cX2_writeByName 8 = .ok (.iconst (-1), 1) := by decide +kernel
theorem dX2_writeByName_9 : decode cX2_writeByName 9 = .ok (.ireturn, 1) := by decide +kernel
theorem dX2_writeByName_10 : decode cX2_writeByName 10 = .ok (.aload_n 0, 1) := by decide +kernel
theorem dX2_writeByName_11 : decode cX2_writeByName 11 = .ok (.iload_n 2, 1) := by decide +kernel
theorem dX2_writeByName_12 : decode cX2_writeByName 12 = .ok (.invokevirtual 56, 3) := by decide +kernel
theorem dX2_writeByName_15 : decode cX2_writeByName 15 = .ok (.ifCond .eq 14, 3) := by decide +kernel
theorem dX2_writeByName_18 : decode cX2_writeByName 18 = .ok (.iload_n 3, 1) := by decide +kernel
theorem dX2_writeByName_19 : decode cX2_writeByName 19 = .ok (.ifCond .lt 10, 3) := by decide +kernel
theorem dX2_writeByName_22 : decode cX2_writeByName 22 = .ok (.iload_n 3, 1) := by decide +kernel
theorem dX2_writeByName_23 : decode cX2_writeByName 23 = .ok (.sipush 9999, 3) := by decide +kernel
theorem dX2_writeByName_26 : decode cX2_writeByName 26 = .ok (.if_icmp .le 6, 3) := by decide +kernel
theorem dX2_writeByName_29 : decode cX2_writeByName 29 = .ok (.bipush (-2), 2) := by decide +kernel
theorem dX2_writeByName_31 : decode cX2_writeByName 31 = .ok (.ireturn, 1) := by decide +kernel
theorem dX2_writeByName_32 : decode cX2_writeByName 32 = .ok (.aload_n 0, 1) := by decide +kernel
theorem dX2_writeByName_33 : decode cX2_writeByName 33 = .ok (.getfield 11, 3) := by decide +kernel
theorem dX2_writeByName_36 : decode cX2_writeByName 36 = .ok (.iload_n 1, 1) := by decide +kernel
theorem dX2_writeByName_37 : decode cX2_writeByName 37 = .ok (.aaload, 1) := by decide +kernel
theorem dX2_writeByName_38 : decode cX2_writeByName 38 = .ok (.astore 4, 2) := by decide +kernel
theorem dX2_writeByName_40 : decode cX2_writeByName 40 = .ok (.iload_n 2, 1) := by decide +kernel
theorem dX2_writeByName_41 : decode cX2_writeByName 41 = .ok (.iconst 1, 1) := by decide +kernel
theorem dX2_writeByName_42 : decode cX2_writeByName 42 = .ok (.if_icmp .ne 39, 3) := by decide +kernel
theorem dX2_writeByName_45 : decode cX2_writeByName 45 = .ok (.aload_n 0, 1) := by decide +kernel
theorem dX2_writeByName_46 : decode cX2_writeByName 46 = .ok (.aload 4, 2) := by decide +kernel
theorem dX2_writeByName_48 : decode cX2_writeByName 48 = .ok (.invokevirtual 59, 3) := by decide +kernel
theorem dX2_writeByName_51 : decode cX2_writeByName 51 = .ok (.ifCond .ne 30, 3) := by decide +kernel
theorem dX2_writeByName_54 : decode cX2_writeByName 54 = .ok (.aload 4, 2) := by decide +kernel
theorem dX2_writeByName_56 : decode cX2_writeByName 56 = .ok (.aload 4, 2) := by decide +kernel
theorem dX2_writeByName_58 : decode cX2_writeByName 58 = .ok (.iload_n 3, 1) := by decide +kernel
theorem dX2_writeByName_59 : decode cX2_writeByName 59 = .ok (.aload_n 0, 1) := by decide +kernel
theorem dX2_writeByName_60 : decode cX2_writeByName 60 = .ok (.getfield 21, 3) := by decide +kernel
theorem dX2_writeByName_63 : decode cX2_writeByName 63 = .ok (.ifCond .eq 10, 3) := by decide +kernel
theorem dX2_writeByName_66 : decode cX2_writeByName 66 = .ok (.aload_n 0, 1) := by decide +kernel
theorem dX2_writeByName_67 : decode cX2_writeByName 67 = .ok (.getfield 17, 3) := by decide +kernel
theorem dX2_writeByName_70 : decode cX2_writeByName 70 = .ok (.goto 4, 3) := by decide +kernel
theorem dX2_writeByName_73 : decode cX2_writeByName 73 = .ok (.iconst 0, 1) := by decide +kernel
theorem dX2_writeByName_74 : decode cX2_writeByName 74 = .ok (.invokevirtual 63, 3) := by decide +kernel
theorem dX2_writeByName_77 : decode cX2_writeByName 77 = .ok (.invokevirtual 67, 3) := by decide +kernel
theorem dX2_writeByName_80 : decode cX2_writeByName 80 = .ok (.ireturn, 1) := by decide +kernel
theorem dX2_writeByName_81 : decode cX2_writeByName 81 = .ok (.aload 4, 2) := by decide +kernel
theorem dX2_writeByName_83 : decode cX2_writeByName 83 = .ok (.iload_n 2, 1) := by decide +kernel
theorem dX2_writeByName_84 : decode cX2_writeByName 84 = .ok (.aload_n 0, 1) := by decide +kernel
theorem dX2_writeByName_85 : decode cX2_writeByName 85 = .ok (.getfield 21, 3) := by decide +kernel
theorem dX2_writeByName_88 : decode cX2_writeByName 88 = .ok (.invokevirtual 71, 3) := by decide +kernel
theorem dX2_writeByName_91 : decode cX2_writeByName 91 = .ok (.istore 5, 2) := by decide +kernel
theorem dX2_writeByName_93 : decode cX2_writeByName 93 = .ok (.aload 4, 2) := by decide +kernel
theorem dX2_writeByName_95 : decode cX2_writeByName 95 = .ok (.iload 5, 2) := by decide +kernel
theorem dX2_writeByName_97 : decode cX2_writeByName 97 = .ok (.invokevirtual 75, 3) := by decide +kernel
theorem dX2_writeByName_100 : decode cX2_writeByName 100 = .ok (.ifCond .ne 6, 3) := by decide +kernel
theorem dX2_writeByName_103 : decode cX2_writeByName 103 = .ok (.bipush (-5), 2) := by decide +kernel
theorem dX2_writeByName_105 : decode cX2_writeByName 105 = .ok (.ireturn, 1) := by decide +kernel
theorem dX2_writeByName_106 : decode cX2_writeByName 106 = .ok (.aload 4, 2) := by decide +kernel
theorem dX2_writeByName_108 : decode cX2_writeByName 108 = .ok (.getfield 78, 3) := by decide +kernel
theorem dX2_writeByName_111 : decode cX2_writeByName 111 = .ok (.iload 5, 2) := by decide +kernel
theorem dX2_writeByName_113 : decode cX2_writeByName 113 = .ok (.bipush 7, 2) := by decide +kernel
theorem dX2_writeByName_115 : decode cX2_writeByName 115 = .ok (.iand, 1) := by decide +kernel
theorem dX2_writeByName_116 : decode cX2_writeByName 116 = .ok (.iload_n 3, 1) := by decide +kernel
theorem dX2_writeByName_117 : decode cX2_writeByName 117 = .ok (.iastore, 1) := by decide +kernel
theorem dX2_writeByName_118 : decode cX2_writeByName 118 = .ok (.aload 4, 2) := by decide +kernel
theorem dX2_writeByName_120 : decode cX2_writeByName 120 = .ok (.iload 5, 2) := by decide +kernel
theorem dX2_writeByName_122 : decode cX2_writeByName 122 = .ok (.invokevirtual 67, 3) := by decide +kernel
theorem dX2_writeByName_125 : decode cX2_writeByName 125 = .ok (.ireturn, 1) := by decide +kernel
set_option maxRecDepth 20000 in
theorem ggX2_readByName_X2_isGroup : GoodIn wsX2_readByName wsX2_isGroup := goodIn_r _ [11] (by decide +kernel) (by decide +kernel)
set_option maxRecDepth 20000 in
theorem gX2_readByName_X2_isGroup : GoodIn wsX2_readByName (wsV RX2 42 RX2 yX2_isGroup wsX2_isGroup) := goodIn_app (goodIn_of _ (by decide +kernel)) ggX2_readByName_X2_isGroup
set_option maxRecDepth 20000 in
theorem ggX2_readByName_X2_isName : GoodIn wsX2_readByName wsX2_isName := goodIn_r _ [15] (by decide +kernel) (by decide +kernel)
set_option maxRecDepth 20000 in
theorem gX2_readByName_X2_isName : GoodIn wsX2_readByName (wsV RX2 56 RX2 yX2_isName wsX2_isName) := goodIn_app (goodIn_of _ (by decide +kernel)) ggX2_readByName_X2_isName
set_option maxRecDepth 20000 in
theorem ggX2_readByName_X0_serialOf : GoodIn wsX2_readByName wsX0_serialOf := goodIn_r _ [20, 21, 22, 23, 45, 46, 47, 48, 49, 50, 51, 52, 53, 54] (by decide +kernel) (by decide +kernel)
set_option maxRecDepth 20000 in
theorem gX2_readByName_X0_serialOf : GoodIn wsX2_readByName (wsV RX2 71 RX0 yX0_serialOf wsX0_serialOf) := goodIn_app (goodIn_of _ (by decide +kernel)) ggX2_readByName_X0_serialOf
set_option maxRecDepth 20000 in
theorem ggX2_readByName_X0_isThere : GoodIn wsX2_readByName wsX0_isThere := goodIn_r _ [27, 23, 28, 29, 30, 19, 31, 32, 33, 34, 35, 36, 37, 45, 46, 47, 48, 49, 50, 51, 52, 53, 54] (by decide +kernel) (by decide +kernel)
set_option maxRecDepth 20000 in
theorem gX2_readByName_X0_isThere : GoodIn wsX2_readByName (wsV RX2 75 RX0 yX0_isThere wsX0_isThere) := goodIn_app (goodIn_of _ (by decide +kernel)) ggX2_readByName_X0_isThere
theorem dX2_readByName_0 : decode cX2_readByName 0 = .ok (.aload_n 0, 1) := by decide +kernel
theorem dX2_readByName_1 : decode cX2_readByName 1 = .ok (.iload_n 1, 1) := by decide +kernel
theorem dX2_readByName_2 : decode cX2_readByName 2 = .ok (.invokevirtual 42, 3) := by decide +kernel
theorem dX2_readByName_5 : decode cX2_readByName 5 = .ok (.ifCond .ne 5, 3) := by decide +kernel
theorem dX2_readByName_8 : decode cX2_readByName 8 = .ok (.iconst (-1), 1) := by decide +kernel
theorem dX2_readByName_9 : decode cX2_readByName 9 = .ok (.ireturn, 1) := by decide +kernel
theorem dX2_readByName_10 : decode cX2_readByName 10 = .ok (.aload_n 0, 1) := by decide +kernel
theorem dX2_readByName_11 : decode cX2_readByName 11 = .ok (.iload_n 2, 1) := by decide +kernel
theorem dX2_readByName_12 : decode cX2_readByName 12 = .ok (.invokevirtual 56, 3) := by decide +kernel
theorem dX2_readByName_15 : decode cX2_readByName 15 = .ok (.ifCond .ne 6, 3) := by decide +kernel
theorem dX2_readByName_18 : decode cX2_readByName 18 = .ok (.bipush (-2), 2) := by decide +kernel
theorem dX2_readByName_20 : decode cX2_readByName 20 = .ok (.ireturn, 1) := by decide +kernel
theorem dX2_readByName_21 : decode cX2_readByName 21 = .ok (.aload_n 0, 1) := by decide +kernel
theorem dX2_readByName_22 : decode cX2_readByName 22 = .ok (.getfield 11, 3) := by decide +kernel
theorem dX2_readByName_25 : decode cX2_readByName 25 = .ok (.iload_n 1, 1) := by decide +kernel
theorem dX2_readByName_26 : decode cX2_readByName 26 = .ok (.aaload, 1) := by decide +kernel
theorem dX2_readByName_27 : decode cX2_readByName 27 = .ok (.astore_n 3, 1) := by decide +kernel
theorem dX2_readByName_28 : decode cX2_readByName 28 = .ok (.aload_n 3, 1) := by decide +kernel
theorem dX2_readByName_29 : decode cX2_readByName 29 = .ok (.iload_n 2, 1) := by decide +kernel
theorem dX2_readByName_30 : decode cX2_readByName 30 = .ok (.aload_n 0, 1) := by decide +kernel
theorem dX2_readByName_31 : decode cX2_readByName 31 = .ok (.getfield 21, 3) := by decide +kernel
theorem dX2_readByName_34 : decode cX2_readByName 34 = .ok (.invokevirtual 71, 3) := by decide +kernel
theorem dX2_readByName_37 : decode cX2_readByName 37 = .ok (.istore 4, 2) := by decide +kernel
theorem dX2_readByName_39 : decode cX2_readByName 39 = .ok (.aload_n 0, 1) := by decide +kernel
theorem dX2_readByName_40 : decode cX2_readByName 40 = .ok (.dup, 1) := by decide +kernel
theorem dX2_readByName_41 : decode cX2_readByName 41 = .ok (.getfield 31, 3) := by decide +kernel
theorem dX2_readByName_44 : decode cX2_readByName 44 = .ok (.iconst 1, 1) := by decide +kernel
theorem dX2_readByName_45 : decode cX2_readByName 45 = .ok (.iadd, 1) := by decide +kernel
theorem dX2_readByName_46 : decode cX2_readByName 46 = .ok (.putfield 31, 3) := by decide +kernel
theorem dX2_readByName_49 : decode cX2_readByName 49 = .ok (.aload_n 3, 1) := by decide +kernel
theorem dX2_readByName_50 : decode cX2_readByName 50 = .ok (.iload 4, 2) := by decide +kernel
theorem dX2_readByName_52 : decode cX2_readByName 52 = .ok (.invokevirtual 75, 3) := by decide +kernel
theorem dX2_readByName_55 : decode cX2_readByName 55 = .ok (.ifCond .ne 16, 3) := by decide +kernel
theorem dX2_readByName_58 : decode cX2_readByName 58 = .ok (.aload_n 0, 1) := by decide +kernel
theorem dX2_readByName_59 : decode cX2_readByName 59 = .ok (.dup, 1) := by decide +kernel
theorem dX2_readByName_60 : decode cX2_readByName 60 = .ok (.getfield 34, 3) := by decide +kernel
theorem dX2_readByName_63 : decode cX2_readByName 63 = .ok (.iconst 1, 1) := by decide +kernel
theorem dX2_readByName_64 : decode cX2_readByName 64 = .ok (.iadd, 1) := by decide +kernel
theorem dX2_readByName_65 : decode cX2_readByName 65 = .ok (.putfield 34, 3) := by decide +kernel
theorem dX2_readByName_68 : decode cX2_readByName 68 = .ok (.bipush (-6), 2) := by decide +kernel
theorem dX2_readByName_70 : decode cX2_readByName 70 = .ok (.ireturn, 1) := by decide +kernel
theorem dX2_readByName_71 : decode cX2_readByName 71 = .ok (.iload 4, 2) := by decide +kernel
theorem dX2_readByName_73 : decode cX2_readByName 73 = .ok (.bipush 7, 2) := by decide +kernel
theorem dX2_readByName_75 : decode cX2_readByName 75 = .ok (.iand, 1) := by decide +kernel
theorem dX2_readByName_76 : decode cX2_readByName 76 = .ok (.istore 5, 2) := by decide +kernel
theorem dX2_readByName_78 : decode cX2_readByName 78 = .ok (.aload_n 3, 1) := by decide +kernel
theorem dX2_readByName_79 : decode cX2_readByName 79 = .ok (.getfield 82, 3) := by decide +kernel
theorem dX2_readByName_82 : decode cX2_readByName 82 = .ok (.iload 5, 2) := by decide +kernel
theorem dX2_readByName_84 : decode cX2_readByName 84 = .ok (.dup2, 1) := by decide +kernel
theorem dX2_readByName_85 : decode cX2_readByName 85 = .ok (.iaload, 1) := by decide +kernel
theorem dX2_readByName_86 : decode cX2_readByName 86 = .ok (.iconst 1, 1) := by decide +kernel
theorem dX2_readByName_87 : decode cX2_readByName 87 = .ok (.iadd, 1) := by decide +kernel
theorem dX2_readByName_88 : decode cX2_readByName 88 = .ok (.iastore, 1) := by decide +kernel
theorem dX2_readByName_89 : decode cX2_readByName 89 = .ok (.aload_n 3, 1) := by decide +kernel
theorem dX2_readByName_90 : decode cX2_readByName 90 = .ok (.getfield 78, 3) := by decide +kernel
theorem dX2_readByName_93 : decode cX2_readByName 93 = .ok (.iload 5, 2) := by decide +kernel
theorem dX2_readByName_95 : decode cX2_readByName 95 = .ok (.iaload, 1) := by decide +kernel
theorem dX2_readByName_96 : decode cX2_readByName 96 = .ok (.ireturn, 1) := by decide +kernel
set_option maxRecDepth 20000 in
theorem ggX2_deleteByName_X2_isGroup : GoodIn wsX2_deleteByName wsX2_isGroup := goodIn_r _ [7] (by decide +kernel) (by decide +kernel)
set_option maxRecDepth 20000 in
theorem gX2_deleteByName_X2_isGroup : GoodIn wsX2_deleteByName (wsV RX2 42 RX2 yX2_isGroup wsX2_isGroup) := goodIn_app (goodIn_of _ (by decide +kernel)) ggX2_deleteByName_X2_isGroup
set_option maxRecDepth 20000 in
theorem ggX2_deleteByName_X2_isName : GoodIn wsX2_deleteByName wsX2_isName := goodIn_r _ [11] (by decide +kernel) (by decide +kernel)
set_option maxRecDepth 20000 in
theorem gX2_deleteByName_X2_isName : GoodIn wsX2_deleteByName (wsV RX2 56 RX2 yX2_isName wsX2_isName) := goodIn_app (goodIn_of _ (by decide +kernel)) ggX2_deleteByName_X2_isName
set_option maxRecDepth 20000 in
theorem ggX2_deleteByName_X0_serialOf : GoodIn wsX2_deleteByName wsX0_serialOf := goodIn_r _ [16, 17, 18, 19, 56, 57, 58, 59, 60, 61, 62, 63, 64, 65] (by decide +kernel) (by decide +kernel)
set_option maxRecDepth 20000 in
theorem gX2_deleteByName_X0_serialOf : GoodIn wsX2_deleteByName (wsV RX2 71 RX0 yX0_serialOf wsX0_serialOf) := goodIn_app (goodIn_of _ (by decide +kernel)) ggX2_deleteByName_X0_serialOf
set_option maxRecDepth 20000 in
theorem ggX2_deleteByName_X0_isThere : GoodIn wsX2_deleteByName wsX0_isThere := goodIn_r _ [23, 19, 24, 25, 26, 15, 27, 28, 29, 30, 31, 32, 33, 56, 57, 58, 59, 60, 61, 62, 63, 64, 65] (by decide +kernel) (by decide +kernel)
set_option maxRecDepth 20000 in
theorem gX2_deleteByName_X0_isThere : GoodIn wsX2_deleteByName (wsV RX2 75 RX0 yX0_isThere wsX0_isThere) := goodIn_app (goodIn_of _ (by decide +kernel)) ggX2_deleteByName_X0_isThere
set_option maxRecDepth 20000 in
theorem ggX2_deleteByName_X0_makeHole : GoodIn wsX2_deleteByName wsX0_makeHole := goodIn_r _ [37, 33, 38, 39, 40, 41, 42, 15, 43, 28, 44, 24, 25, 26, 27, 19, 29, 30, 31, 32, 56, 57, 58, 59, 60, 61, 62, 63, 64, 65] (by decide +kernel) (by decide +kernel)
set_option maxRecDepth 20000 in
theorem gX2_deleteByName_X0_makeHole : GoodIn wsX2_deleteByName (wsV RX2 84 RX0 yX0_makeHole wsX0_makeHole) := goodIn_app (goodIn_of _ (by decide +kernel)) ggX2_deleteByName_X0_makeHole
set_option maxRecDepth 20000 in
theorem ggX2_deleteByName_X0_numberOf : GoodIn wsX2_deleteByName wsX0_numberOf := goodIn_r _ [48] (by decide +kernel) (by decide +kernel)
set_option maxRecDepth 20000 in
theorem gX2_deleteByName_X0_numberOf : GoodIn wsX2_deleteByName (wsV RX2 67 RX0 yX0_numberOf wsX0_numberOf) := goodIn_app (goodIn_of _ (by decide +kernel)) ggX2_deleteByName_X0_numberOf
theorem dX2_deleteByName_0 : decode cX2_deleteByName 0 = .ok (.aload_n 0, 1) := by decide +kernel
theorem dX2_deleteByName_1 : decode cX2_deleteByName 1 = .ok (.iload_n 1, 1) := by decide +kernel
theorem dX2_deleteByName_2 : decode cX2_deleteByName 2 = .ok (.invokevirtual 42, 3) := by decide +kernel
theorem dX2_deleteByName_5 : decode cX2_deleteByName 5 = .ok (.ifCond .ne 5, 3) := by decide +kernel
theorem dX2_deleteByName_8 : decode cX2_deleteByName 8 = .ok (.iconst (-1), 1) := by decide +kernel
theorem dX2_deleteByName_9 : decode cX2_deleteByName 9 = .ok (.ireturn, 1) := by decide +kernel
theorem dX2_deleteByName_10 : decode cX2_deleteByName 10 = .ok (.aload_n 0, 1) := by decide +kernel
theorem dX2_deleteByName_11 : decode cX2_deleteByName 11 = .ok (.iload_n 2, 1) := by decide +kernel
theorem dX2_deleteByName_12 : decode cX2_deleteByName 12 = .ok (.invokevirtual 56, 3) := by decide +kernel
theorem dX2_deleteByName_15 : decode cX2_deleteByName 15 = .ok (.ifCond .ne 6, 3) := by decide +kernel
theorem dX2_deleteByName_18 : decode cX2_deleteByName 18 = .ok (.bipush (-2), 2) := by decide +kernel
theorem dX2_deleteByName_20 : decode cX2_deleteByName 20 = .ok (.ireturn, 1) := by decide +kernel
theorem dX2_deleteByName_21 : decode cX2_deleteByName 21 = .ok (.aload_n 0, 1) := by decide +kernel
theorem dX2_deleteByName_22 : decode cX2_deleteByName 22 = .ok (.getfield 11, 3) := by decide +kernel
theorem dX2_deleteByName_25 : decode cX2_deleteByName 25 = .ok (.iload_n 1, 1) := by decide +kernel
theorem dX2_deleteByName_26 : decode cX2_deleteByName 26 = .ok (.aaload, 1) := by decide +kernel
theorem dX2_deleteByName_27 : decode cX2_deleteByName 27 = .ok (.astore_n 3, 1) := by decide +kernel
theorem dX2_deleteByName_28 : decode cX2_deleteByName 28 = .ok (.aload_n 3, 1) := by decide +kernel
theorem dX2_deleteByName_29 : decode cX2_deleteByName 29 = .ok (.iload_n 2, 1) := by decide +kernel
theorem dX2_deleteByName_30 : decode cX2_deleteByName 30 = .ok (.aload_n 0, 1) := by decide +kernel
theorem dX2_deleteByName_31 : decode cX2_deleteByName 31 = .ok (.getfield 21, 3) := by decide +kernel
theorem dX2_deleteByName_34 : decode cX2_deleteByName 34 = .ok (.invokevirtual 71, 3) := by decide +kernel
theorem dX2_deleteByName_37 : decode cX2_deleteByName 37 = .ok (.istore 4, 2) := by decide +kernel
theorem dX2_deleteByName_39 : decode cX2_deleteByName 39 = .ok (.aload_n 3, 1) := by decide +kernel
theorem dX2_deleteByName_40 : decode cX2_deleteByName 40 = .ok (.iload 4, 2) := by decide +kernel
theorem dX2_deleteByName_42 : decode cX2_deleteByName 42 = .ok (.invokevirtual 75, 3) := by decide +kernel
theorem dX2_deleteByName_45 : decode cX2_deleteByName 45 = .ok (.ifCond .ne 6, 3) := by decide +kernel
theorem dX2_deleteByName_48 : decode cX2_deleteByName 48 = .ok (.bipush (-5), 2) := by decide +kernel
theorem dX2_deleteByName_50 : decode cX2_deleteByName 50 = .ok (.ireturn, 1) := by decide +kernel
theorem dX2_deleteByName_51 : decode cX2_deleteByName 51 = .ok (.aload_n 3, 1) := by decide +kernel
theorem dX2_deleteByName_52 : decode cX2_deleteByName 52 = .ok (.iload 4, 2) := by decide +kernel
theorem dX2_deleteByName_54 : decode cX2_deleteByName 54 = .ok (.invokevirtual 84, 3) := by decide +kernel
theorem dX2_deleteByName_57 : decode cX2_deleteByName 57 = .ok (.aload_n 3, 1) := by decide +kernel
theorem dX2_deleteByName_58 : decode cX2_deleteByName 58 = .ok (.iload 4, 2) := by decide +kernel
theorem dX2_deleteByName_60 : decode cX2_deleteByName 60 = .ok (.invokevirtual 67, 3) := by decide +kernel
theorem dX2_deleteByName_63 : decode cX2_deleteByName 63 = .ok (.ireturn, 1) := by decide +kernel
set_option maxRecDepth 20000 in
theorem ggX2_beginJob_X2_startJob : GoodIn wsX2_beginJob wsX2_startJob := goodIn_r _ [9, 2, 10, 1, 11, 12, 13, 14, 15, 16, 17, 18, 19, 20, 21, 22, 23, 24, 25, 26, 27, 28] (by decide +kernel) (by decide +kernel)
set_option maxRecDepth 20000 in
theorem gX2_beginJob_X2_startJob : GoodIn wsX2_beginJob (wsV RX2 93 RX2 yX2_startJob wsX2_startJob) := goodIn_app (goodIn_of _ (by decide +kernel)) ggX2_beginJob_X2_startJob
theorem dX2_beginJob_0 : decode cX2_beginJob 0 = .ok (.aload_n 0, 1) := by decide +kernel
theorem dX2_beginJob_1 : decode cX2_beginJob 1 = .ok (.getfield 21, 3) := by decide +kernel
theorem dX2_beginJob_4 : decode cX2_beginJob 4 = .ok (.ifCond .eq 6, 3) := by decide +kernel
theorem dX2_beginJob_7 : decode cX2_beginJob 7 = .ok (.bipush (-5), 2) := by decide +kernel
theorem dX2_beginJob_9 : decode cX2_beginJob 9 = .ok (.ireturn, 1) := by decide +kernel
theorem dX2_beginJob_10 : decode cX2_beginJob 10 = .ok (.iconst 0, 1) := by decide +kernel
theorem dX2_beginJob_11 : decode cX2_beginJob 11 = .ok (.istore_n 1, 1) := by decide +kernel
theorem dX2_beginJob_12 : decode cX2_beginJob 12 = .ok (.iload_n 1, 1) := by decide +kernel
theorem dX2_beginJob_13 : decode cX2_beginJob 13 = .ok (.bipush 6, 2) := by decide +kernel
theorem dX2_beginJob_15 : decode cX2_beginJob 15 = .ok (.if_icmp .ge 27, 3) := by decide +kernel
theorem dX2_beginJob_18 : decode cX2_beginJob 18 = .ok (.aload_n 0, 1) := by decide +kernel
theorem dX2_beginJob_19 : decode cX2_beginJob 19 = .ok (.getfield 11, 3) := by decide +kernel
theorem dX2_beginJob_22 : decode cX2_beginJob 22 = .ok (.iload_n 1, 1) := by decide +kernel
theorem dX2_beginJob_23 : decode cX2_beginJob 23 = .ok (.aaload, 1) := by decide +kernel
theorem dX2_beginJob_24 : decode cX2_beginJob 24 = .ok (.aload_n 0, 1) := by decide +kernel
theorem dX2_beginJob_25 : decode cX2_beginJob 25 = .ok (.getfield 11, 3) := by decide +kernel
theorem dX2_beginJob_28 : decode cX2_beginJob 28 = .ok (.iload_n 1, 1) := by decide +kernel
theorem dX2_beginJob_29 : decode cX2_beginJob 29 = .ok (.aaload, 1) := by decide +kernel
theorem dX2_beginJob_30 : decode cX2_beginJob 30 = .ok (.getfield 87, 3) := by decide +kernel
theorem dX2_beginJob_33 : decode cX2_beginJob 33 = .ok (.putfield 90, 3) := by decide +kernel
theorem dX2_beginJob_36 : decode cX2_beginJob 36 = .ok (.iinc 1 1, 3) := by decide +kernel
theorem dX2_beginJob_39 : decode cX2_beginJob 39 = .ok (.goto (-27), 3) := by decide +kernel
theorem dX2_beginJob_42 : decode cX2_beginJob 42 = .ok (.aload_n 0, 1) := by decide +kernel
theorem dX2_beginJob_43 : decode cX2_beginJob 43 = .ok (.invokevirtual 93, 3) := by decide +kernel
theorem dX2_beginJob_46 : decode cX2_beginJob 46 = .ok (.ireturn, 1) := by decide +kernel
set_option maxRecDepth 20000 in
theorem ggX2_repeatJob_X2_startJob : GoodIn wsX2_repeatJob wsX2_startJob := goodIn_r _ [7, 8, 9, 1, 10, 11, 12, 13, 14, 15, 16, 17, 18, 19, 20, 21, 22, 23, 24, 25, 26, 27] (by decide +kernel) (by decide +kernel)
set_option maxRecDepth 20000 in
theorem gX2_repeatJob_X2_startJob : GoodIn wsX2_repeatJob (wsV RX2 93 RX2 yX2_startJob wsX2_startJob) := goodIn_app (goodIn_of _ (by decide +kernel)) ggX2_repeatJob_X2_startJob
theorem dX2_repeatJob_0 : decode cX2_repeatJob 0 = .ok (.aload_n 0, 1) := by decide +kernel
theorem dX2_repeatJob_1 : decode cX2_repeatJob 1 = .ok (.getfield 21, 3) := by decide +kernel
theorem dX2_repeatJob_4 : decode cX2_repeatJob 4 = .ok (.ifCond .ne 10, 3) := by decide +kernel
theorem dX2_repeatJob_7 : decode cX2_repeatJob 7 = .ok (.aload_n 0, 1) := by decide +kernel
theorem dX2_repeatJob_8 : decode cX2_repeatJob 8 = .ok (.getfield 25, 3) := by decide +kernel
theorem dX2_repeatJob_11 : decode cX2_repeatJob 11 = .ok (.ifCond .ne 6, 3) := by decide +kernel
theorem dX2_repeatJob_14 : decode cX2_repeatJob 14 = .ok (.bipush (-5), 2) := by decide +kernel
theorem dX2_repeatJob_16 : decode cX2_repeatJob 16 = .ok (.ireturn, 1) := by decide +kernel
theorem dX2_repeatJob_17 : decode cX2_repeatJob 17 = .ok (.aload_n 0, 1) := by decide +kernel
theorem dX2_repeatJob_18 : decode cX2_repeatJob 18 = .ok (.invokevirtual 93, 3) := by decide +kernel
theorem dX2_repeatJob_21 : decode cX2_repeatJob 21 = .ok (.ireturn, 1) := by decide +kernel
theorem dX2_startJob_0 : decode cX2_startJob 0 = .ok (.iconst 0, 1) := by decide +kernel
theorem dX2_startJob_1 : decode cX2_startJob 1 = .ok (.istore_n 1, 1) := by decide +kernel
theorem dX2_startJob_2 : decode cX2_startJob 2 = .ok (.iload_n 1, 1) := by decide +kernel
theorem dX2_startJob_3 : decode cX2_startJob 3 = .ok (.bipush 6, 2) := by decide +kernel
theorem dX2_startJob_5 : decode cX2_startJob 5 = .ok (.if_icmp .ge 19, 3) := by decide +kernel
theorem dX2_startJob_8 : decode cX2_startJob 8 = .ok (.aload_n 0, 1) := by decide +kernel
theorem dX2_startJob_9 : decode cX2_startJob 9 = .ok (.getfield 11, 3) := by decide +kernel
theorem dX2_startJob_12 : decode cX2_startJob 12 = .ok (.iload_n 1, 1) := by decide +kernel
theorem dX2_startJob_13 : decode cX2_startJob 13 = .ok (.aaload, 1) := by decide +kernel
theorem dX2_startJob_14 : decode cX2_startJob 14 = .ok (.iconst 0, 1) := by decide +kernel
theorem dX2_startJob_15 : decode cX2_startJob 15 = .ok (.putfield 53, 3) := by decide +kernel
theorem dX2_startJob_18 : decode cX2_startJob 18 = .ok (.iinc 1 1, 3) := by decide +kernel
theorem dX2_startJob_21 : decode cX2_startJob 21 = .ok (.goto (-19), 3) := by decide +kernel
theorem dX2_startJob_24 : decode cX2_startJob 24 = .ok (.aload_n 0, 1) := by decide +kernel
theorem dX2_startJob_25 : decode cX2_startJob 25 = .ok (.iconst 1, 1) := by decide +kernel
theorem dX2_startJob_26 : decode cX2_startJob 26 = .ok (.putfield 21, 3) := by decide +kernel
theorem dX2_startJob_29 : decode cX2_startJob 29 = .ok (.aload_n 0, 1) := by decide +kernel
theorem dX2_startJob_30 : decode cX2_startJob 30 = .ok (.dup, 1) := by decide +kernel
theorem dX2_startJob_31 : decode cX2_startJob 31 = .ok (.getfield 17, 3) := by decide +kernel
theorem dX2_startJob_34 : decode cX2_startJob 34 = .ok (.iconst 1, 1) := by decide +kernel
theorem dX2_startJob_35 : decode cX2_startJob 35 = .ok (.iadd, 1) := by decide +kernel
theorem dX2_startJob_36 : decode cX2_startJob 36 = .ok (.putfield 17, 3) := by decide +kernel
theorem dX2_startJob_39 : decode cX2_startJob 39 = .ok (.aload_n 0, 1) := by decide +kernel
theorem dX2_startJob_40 : decode cX2_startJob 40 = .ok (.getfield 17, 3) := by decide +kernel
theorem dX2_startJob_43 : decode cX2_startJob 43 = .ok (.ireturn, 1) := by decide +kernel
set_option maxRecDepth 20000 in
theorem ggX2_endJob_X0_isThere : GoodIn wsX2_endJob wsX0_isThere := goodIn_r _ [10, 11, 12, 13, 14, 9, 15, 16, 17, 18, 19, 20, 21, 45, 46, 47, 48, 49, 50, 51, 52, 53, 54] (by decide +kernel) (by decide +kernel)
set_option maxRecDepth 20000 in
theorem gX2_endJob_X0_isThere : GoodIn wsX2_endJob (wsV RX2 75 RX0 yX0_isThere wsX0_isThere) := goodIn_app (goodIn_of _ (by decide +kernel)) ggX2_endJob_X0_isThere
set_option maxRecDepth 20000 in
theorem ggX2_endJob_X0_makeHole : GoodIn wsX2_endJob wsX0_makeHole := goodIn_r _ [25, 21, 26, 27, 28, 29, 30, 9, 31, 16, 32, 12, 13, 14, 15, 11, 17, 18, 19, 20, 45, 46, 47, 48, 49, 50, 51, 52, 53, 54] (by decide +kernel) (by decide +kernel)
set_option maxRecDepth 20000 in
theorem gX2_endJob_X0_makeHole : GoodIn wsX2_endJob (wsV RX2 84 RX0 yX0_makeHole wsX0_makeHole) := goodIn_app (goodIn_of _ (by decide +kernel)) ggX2_endJob_X0_makeHole
set_option maxRecDepth 20000 in
theorem ggX2_endJob_X2_countMadeByJob : GoodIn wsX2_endJob wsX2_countMadeByJob := goodIn_r _ [37, 1, 4, 5, 6, 7, 8, 9, 10, 11, 12, 13, 14, 15, 16, 17, 18, 19, 20, 21, 38, 39, 40, 41, 42, 43, 44, 45, 46, 47, 48, 49, 50, 51, 52, 53, 54] (by decide +kernel) (by decide +kernel)
set_option maxRecDepth 20000 in
theorem gX2_endJob_X2_countMadeByJob : GoodIn wsX2_endJob (wsV RX2 97 RX2 yX2_countMadeByJob wsX2_countMadeByJob) := goodIn_app (goodIn_of _ (by decide +kernel)) ggX2_endJob_X2_countMadeByJob
theorem dX2_endJob_0 : decode cX2_endJob 0 = .ok (.iload_n 1, 1) := by decide +kernel
theorem dX2_endJob_1 : decode cX2_endJob 1 = .ok (.ifCond .eq 11, 3) := by decide +kernel
theorem dX2_endJob_4 : decode cX2_endJob 4 = .ok (.iload_n 1, 1) := by decide +kernel
theorem dX2_endJob_5 : decode cX2_endJob 5 = .ok (.iconst 1, 1) := by decide +kernel
theorem dX2_endJob_6 : decode cX2_endJob 6 = .ok (.if_icmp .eq 6, 3) := by decide +kernel
theorem dX2_endJob_9 : decode cX2_endJob 9 = .ok (.bipush (-2), 2) := by decide +kernel
theorem dX2_endJob_11 : decode cX2_endJob 11 = .ok (.ireturn, 1) := by decide +kernel
theorem dX2_endJob_12 : decode cX2_endJob 12 = .ok (.aload_n 0, 1) := by decide +kernel
theorem dX2_endJob_13 : decode cX2_endJob 13 = .ok (.getfield 21, 3) := by decide +kernel
theorem dX2_endJob_16 : decode cX2_endJob 16 = .ok (.ifCond .ne 6, 3) := by decide +kernel
theorem dX2_endJob_19 : decode cX2_endJob 19 = .ok (.bipush (-5), 2) := by decide +kernel
theorem dX2_endJob_21 : decode cX2_endJob 21 = .ok (.ireturn, 1) := by decide +kernel
theorem dX2_endJob_22 : decode cX2_endJob 22 = .ok (.aload_n 0, 1) := by decide +kernel
theorem dX2_endJob_23 : decode cX2_endJob 23 = .ok (.iload_n 1, 1) := by decide +kernel
theorem dX2_endJob_24 : decode cX2_endJob 24 = .ok (.ifCond .ne 7, 3) := by decide +kernel
theorem dX2_endJob_27 : decode cX2_endJob 27 = .ok (.iconst 1, 1) := by decide +kernel
theorem dX2_endJob_28 : decode cX2_endJob 28 = .ok (.goto 4, 3) := by decide +kernel
theorem dX2_endJob_31 : decode cX2_endJob 31 = .ok (.iconst 0, 1) := by decide +kernel
theorem dX2_endJob_32 : decode cX2_endJob 32 = .ok (.putfield 25, 3) := by decide +kernel
theorem dX2_endJob_35 : decode cX2_endJob 35 = .ok (.aload_n 0, 1) := by decide +kernel
theorem dX2_endJob_36 : decode cX2_endJob 36 = .ok (.getfield 25, 3) := by decide +kernel
theorem dX2_endJob_39 : decode cX2_endJob 39 = .ok (.ifCond .eq 13, 3) := by decide +kernel
theorem dX2_endJob_42 : decode cX2_endJob 42 = .ok (.aload_n 0, 1) := by decide +kernel
theorem dX2_endJob_43 : decode cX2_endJob 43 = .ok (.dup, 1) := by decide +kernel
theorem dX2_endJob_44 : decode cX2_endJob 44 = .ok (.getfield 28, 3) := by decide +kernel
theorem dX2_endJob_47 : decode cX2_endJob 47 = .ok (.iconst 1, 1) := by decide +kernel
theorem dX2_endJob_48 : decode cX2_endJob 48 = .ok (.iadd, 1) := by decide +kernel
theorem dX2_endJob_49 : decode cX2_endJob 49 = .ok (.putfield 28, 3) := by decide +kernel
theorem dX2_endJob_52 : decode cX2_endJob 52 = .ok (.iconst 0, 1) := by decide +kernel
theorem dX2_endJob_53 : decode cX2_endJob 53 = .ok (.istore_n 2, 1) := by decide +kernel
theorem dX2_endJob_54 : decode cX2_endJob 54 = .ok (.iload_n 2, 1) := by decide +kernel
theorem dX2_endJob_55 : decode cX2_endJob 55 = .ok (.bipush 6, 2) := by decide +kernel
theorem dX2_endJob_57 : decode cX2_endJob 57 = .ok (.if_icmp .ge 55, 3) := by decide +kernel
theorem dX2_endJob_60 : decode cX2_endJob 60 = .ok (.aload_n 0, 1) := by decide +kernel
theorem dX2_endJob_61 : decode cX2_endJob 61 = .ok (.getfield 25, 3) := by decide +kernel
theorem dX2_endJob_64 : decode cX2_endJob 64 = .ok (.ifCond .eq 42, 3) := by decide +kernel
theorem dX2_endJob_67 : decode cX2_endJob 67 = .ok (.aload_n 0, 1) := by decide +kernel
theorem dX2_endJob_68 : decode cX2_endJob 68 = .ok (.getfield 11, 3) := by decide +kernel
theorem dX2_endJob_71 : decode cX2_endJob 71 = .ok (.iload_n 2, 1) := by decide +kernel
theorem dX2_endJob_72 : decode cX2_endJob 72 = .ok (.aaload, 1) := by decide +kernel
theorem dX2_endJob_73 : decode cX2_endJob 73 = .ok (.aload_n 0, 1) := by decide +kernel
theorem dX2_endJob_74 : decode cX2_endJob 74 = .ok (.getfield 11, 3) := by decide +kernel
theorem dX2_endJob_77 : decode cX2_endJob 77 = .ok (.iload_n 2, 1) := by decide +kernel
theorem dX2_endJob_78 : decode cX2_endJob 78 = .ok (.aaload, 1) := by decide +kernel
theorem dX2_endJob_79 : decode cX2_endJob 79 = .ok (.getfield 53, 3) := by decide +kernel
theorem dX2_endJob_82 : decode cX2_endJob 82 = .ok (.invokevirtual 75, 3) := by decide +kernel
theorem dX2_endJob_85 : decode cX2_endJob 85 = .ok (.ifCond .eq 21, 3) := by decide +kernel
theorem dX2_endJob_88 : decode cX2_endJob 88 = .ok (.aload_n 0, 1) := by decide +kernel
theorem dX2_endJob_89 : decode cX2_endJob 89 = .ok (.getfield 11, 3) := by decide +kernel
theorem dX2_endJob_92 : decode cX2_endJob 92 = .ok (.iload_n 2, 1) := by decide +kernel
theorem dX2_endJob_93 : decode cX2_endJob 93 = .ok (.aaload, 1) := by decide +kernel
theorem dX2_endJob_94 : decode cX2_endJob 94 = .ok (.aload_n 0, 1) := by decide +kernel
theorem dX2_endJob_95 : decode cX2_endJob 95 = .ok (.getfield 11, 3) := by decide +kernel
theorem dX2_endJob_98 : decode cX2_endJob 98 = .ok (.iload_n 2, 1) := by decide +kernel
theorem dX2_endJob_99 : decode cX2_endJob 99 = .ok (.aaload, 1) := by decide +kernel
theorem dX2_endJob_100 : decode cX2_endJob 100 = .ok (.getfield 53, 3) := by decide +kernel
theorem dX2_endJob_103 : decode cX2_endJob 103 = .ok (.invokevirtual 84, 3) := by decide +kernel
theorem dX2_endJob_106 : decode cX2_endJob 106 = .ok (.iinc 2 1, 3) := by decide +kernel
theorem dX2_endJob_109 : decode cX2_endJob 109 = .ok (.goto (-55), 3) := by decide +kernel
theorem dX2_endJob_112 : decode cX2_endJob 112 = .ok (.aload_n 0, 1) := by decide +kernel
theorem dX2_endJob_113 : decode cX2_endJob 113 = .ok (.invokevirtual 97, 3) := by decide +kernel
theorem dX2_endJob_116 : decode cX2_endJob 116 = .ok (.istore_n 2, 1) := by decide +kernel
theorem dX2_endJob_117 : decode cX2_endJob 117 = .ok (.aload_n 0, 1) := by decide +kernel
theorem dX2_endJob_118 : decode cX2_endJob 118 = .ok (.iconst 0, 1) := by decide +kernel
theorem dX2_endJob_119 : decode cX2_endJob 119 = .ok (.putfield 21, 3) := by decide +kernel
theorem dX2_endJob_122 : decode cX2_endJob 122 = .ok (.iload_n 2, 1) := by decide +kernel
theorem dX2_endJob_123 : decode cX2_endJob 123 = .ok (.ireturn, 1) := by decide +kernel
set_option maxRecDepth 20000 in
theorem ggX2_countMadeByJob_X0_isThere : GoodIn wsX2_countMadeByJob wsX0_isThere := goodIn_r _ [8, 9, 10, 11, 12, 7, 13, 14, 15, 16, 17, 18, 19, 27, 28, 29, 30, 31, 32, 33, 34, 35, 36] (by decide +kernel) (by decide +kernel)
set_option maxRecDepth 20000 in
theorem gX2_countMadeByJob_X0_isThere : GoodIn wsX2_countMadeByJob (wsV RX2 75 RX0 yX0_isThere wsX0_isThere) := goodIn_app (goodIn_of _ (by decide +kernel)) ggX2_countMadeByJob_X0_isThere
theorem dX2_countMadeByJob_0 : decode cX2_countMadeByJob 0 = .ok (.iconst 0, 1) := by decide +kernel
theorem dX2_countMadeByJob_1 : decode cX2_countMadeByJob 1 = .ok (.istore_n 1, 1) := by decide +kernel
theorem dX2_countMadeByJob_2 : decode cX2_countMadeByJob 2 = .ok (.iconst 0, 1) := by decide +kernel
theorem dX2_countMadeByJob_3 : decode cX2_countMadeByJob 3 = .ok (.istore_n 2, 1) := by decide +kernel
theorem dX2_countMadeByJob_4 : decode cX2_countMadeByJob 4 = .ok (.iload_n 2, 1) := by decide +kernel
theorem dX2_countMadeByJob_5 : decode cX2_countMadeByJob 5 = .ok (.bipush 6, 2) := by decide +kernel
theorem dX2_countMadeByJob_7 : decode cX2_countMadeByJob 7 = .ok (.if_icmp .ge 40, 3) := by decide +kernel
theorem dX2_countMadeByJob_10 : decode cX2_countMadeByJob 10 = .ok (.aload_n 0, 1) := by decide +kernel
theorem dX2_countMadeByJob_11 : decode cX2_countMadeByJob 11 = .ok (.getfield 21, 3) := by decide +kernel
theorem dX2_countMadeByJob_14 : decode cX2_countMadeByJob 14 = .ok (.ifCond .eq 27, 3) := by decide +kernel
theorem dX2_countMadeByJob_17 : decode cX2_countMadeByJob 17 = .ok (.aload_n 0, 1) := by decide +kernel
theorem dX2_countMadeByJob_18 : decode cX2_countMadeByJob 18 = .ok (.getfield 11, 3) := by decide +kernel
theorem dX2_countMadeByJob_21 : decode cX2_countMadeByJob 21 = .ok (.iload_n 2, 1) := by decide +kernel
theorem dX2_countMadeByJob_22 : decode cX2_countMadeByJob 22 = .ok (.aaload, 1) := by decide +kernel
theorem dX2_countMadeByJob_23 : decode cX2_countMadeByJob 23 = .ok (.aload_n 0, 1) := by decide +kernel
theorem dX2_countMadeByJob_24 : decode cX2_countMadeByJob 24 = .ok (.getfield 11, 3) := by decide +kernel
theorem dX2_countMadeByJob_27 : decode cX2_countMadeByJob 27 = .ok (.iload_n 2, 1) := by decide +kernel
theorem dX2_countMadeByJob_28 : decode cX2_countMadeByJob 28 = .ok (.aaload, 1) := by decide +kernel
theorem dX2_countMadeByJob_29 : decode cX2_countMadeByJob 29 = .ok (.getfield 53, 3) := by decide +kernel
theorem dX2_countMadeByJob_32 : decode cX2_countMadeByJob 32 = .ok (.invokevirtual 75, 3) := by decide +kernel
theorem dX2_countMadeByJob_35 : decode cX2_countMadeByJob 35 = .ok (.ifCond .eq 6, 3) := by decide +kernel
theorem dX2_countMadeByJob_38 : decode cX2_countMadeByJob 38 = .ok (.iinc 1 1, 3) := by decide +kernel
theorem dX2_countMadeByJob_41 : decode cX2_countMadeByJob 41 = .ok (.iinc 2 1, 3) := by decide +kernel
theorem dX2_countMadeByJob_44 : decode cX2_countMadeByJob 44 = .ok (.goto (-40), 3) := by decide +kernel
theorem dX2_countMadeByJob_47 : decode cX2_countMadeByJob 47 = .ok (.iload_n 1, 1) := by decide +kernel
theorem dX2_countMadeByJob_48 : decode cX2_countMadeByJob 48 = .ok (.ireturn, 1) := by decide +kernel
set_option maxRecDepth 20000 in
theorem ggX2_aboutGroup_X2_isGroup : GoodIn wsX2_aboutGroup wsX2_isGroup := goodIn_r _ [11] (by decide +kernel) (by decide +kernel)
set_option maxRecDepth 20000 in
theorem gX2_aboutGroup_X2_isGroup : GoodIn wsX2_aboutGroup (wsV RX2 42 RX2 yX2_isGroup wsX2_isGroup) := goodIn_app (goodIn_of _ (by decide +kernel)) ggX2_aboutGroup_X2_isGroup
set_option maxRecDepth 20000 in
theorem ggX2_aboutGroup_X0_countHoles : GoodIn wsX2_aboutGroup wsX0_countHoles := goodIn_r _ [16, 17, 18, 19, 20, 21, 15, 22, 23, 39, 40, 41, 42, 43, 44, 45, 46, 47, 48] (by decide +kernel) (by decide +kernel)
set_option maxRecDepth 20000 in
theorem gX2_aboutGroup_X0_countHoles : GoodIn wsX2_aboutGroup (wsV RX2 103 RX0 yX0_countHoles wsX0_countHoles) := goodIn_app (goodIn_of _ (by decide +kernel)) ggX2_aboutGroup_X0_countHoles
set_option maxRecDepth 20000 in
theorem ggX2_aboutGroup_X0_numberOf : GoodIn wsX2_aboutGroup wsX0_numberOf := goodIn_r _ [27] (by decide +kernel) (by decide +kernel)
set_option maxRecDepth 20000 in
theorem gX2_aboutGroup_X0_numberOf : GoodIn wsX2_aboutGroup (wsV RX2 67 RX0 yX0_numberOf wsX0_numberOf) := goodIn_app (goodIn_of _ (by decide +kernel)) ggX2_aboutGroup_X0_numberOf
set_option maxRecDepth 20000 in
theorem ggX2_aboutGroup_X0_sumOfData : GoodIn wsX2_aboutGroup wsX0_sumOfData := goodIn_r _ [31, 17, 18, 23, 19, 20, 21, 15, 22, 39, 40, 41, 42, 43, 44, 45, 46, 47, 48] (by decide +kernel) (by decide +kernel)
set_option maxRecDepth 20000 in
theorem gX2_aboutGroup_X0_sumOfData : GoodIn wsX2_aboutGroup (wsV RX2 112 RX0 yX0_sumOfData wsX0_sumOfData) := goodIn_app (goodIn_of _ (by decide +kernel)) ggX2_aboutGroup_X0_sumOfData
theorem dX2_aboutGroup_0 : decode cX2_aboutGroup 0 = .ok (.aload_n 0, 1) := by decide +kernel
theorem dX2_aboutGroup_1 : decode cX2_aboutGroup 1 = .ok (.iload_n 1, 1) := by decide +kernel
theorem dX2_aboutGroup_2 : decode cX2_aboutGroup 2 = .ok (.invokevirtual 42, 3) := by decide +kernel
theorem dX2_aboutGroup_5 : decode cX2_aboutGroup 5 = .ok (.ifCond .ne 5, 3) := by decide +kernel
theorem dX2_aboutGroup_8 : decode cX2_aboutGroup 8 = .ok (.iconst (-1), 1) := by decide +kernel
theorem dX2_aboutGroup_9 : decode cX2_aboutGroup 9 = .ok (.ireturn, 1) := by decide +kernel
theorem dX2_aboutGroup_10 : decode cX2_aboutGroup 10 = .ok (.aload_n 0, 1) := by decide +kernel
theorem dX2_aboutGroup_11 : decode cX2_aboutGroup 11 = .ok (.getfield 11, 3) := by decide +kernel
theorem dX2_aboutGroup_14 : decode cX2_aboutGroup 14 = .ok (.iload_n 1, 1) := by decide +kernel
theorem dX2_aboutGroup_15 : decode cX2_aboutGroup 15 = .ok (.aaload, 1) := by decide +kernel
theorem dX2_aboutGroup_16 : decode cX2_aboutGroup 16 = .ok (.astore_n 3, 1) := by decide +kernel
theorem dX2_aboutGroup_17 : decode cX2_aboutGroup 17 = .ok (.iload_n 2, 1) := by decide +kernel
theorem dX2_aboutGroup_18 : decode cX2_aboutGroup 18 = .ok (.tableswitch 81 0 6 #[42, 47, 52, 57, 66, 71, 76], 42) := by decide +kernel
theorem dX2_aboutGroup_60 : decode cX2_aboutGroup 60 = .ok (.aload_n 3, 1) := by decide +kernel
theorem dX2_aboutGroup_61 : decode cX2_aboutGroup 61 = .ok (.getfield 46, 3) := by decide +kernel
theorem dX2_aboutGroup_64 : decode cX2_aboutGroup 64 = .ok (.ireturn, 1) := by decide +kernel
theorem dX2_aboutGroup_65 : decode cX2_aboutGroup 65 = .ok (.aload_n 3, 1) := by decide +kernel
theorem dX2_aboutGroup_66 : decode cX2_aboutGroup 66 = .ok (.getfield 100, 3) := by decide +kernel
theorem dX2_aboutGroup_69 : decode cX2_aboutGroup 69 = .ok (.ireturn, 1) := by decide +kernel
theorem dX2_aboutGroup_70 : decode cX2_aboutGroup 70 = .ok (.aload_n 3, 1) := by decide +kernel
theorem dX2_aboutGroup_71 : decode cX2_aboutGroup 71 = .ok (.invokevirtual 103, 3) := by decide +kernel
theorem dX2_aboutGroup_74 : decode cX2_aboutGroup 74 = .ok (.ireturn, 1) := by decide +kernel
theorem dX2_aboutGroup_75 : decode cX2_aboutGroup 75 = .ok (.aload_n 3, 1) := by decide +kernel
theorem dX2_aboutGroup_76 : decode cX2_aboutGroup 76 = .ok (.aload_n 3, 1) := by decide +kernel
theorem dX2_aboutGroup_77 : decode cX2_aboutGroup 77 = .ok (.getfield 87, 3) := by decide +kernel
theorem dX2_aboutGroup_80 : decode cX2_aboutGroup 80 = .ok (.invokevirtual 67, 3) := by decide +kernel
theorem dX2_aboutGroup_83 : decode cX2_aboutGroup 83 = .ok (.ireturn, 1) := by decide +kernel
theorem dX2_aboutGroup_84 : decode cX2_aboutGroup 84 = .ok (.aload_n 3, 1) := by decide +kernel
theorem dX2_aboutGroup_85 : decode cX2_aboutGroup 85 = .ok (.getfield 106, 3) := by decide +kernel
theorem dX2_aboutGroup_88 : decode cX2_aboutGroup 88 = .ok (.ireturn, 1) := by decide +kernel
theorem dX2_aboutGroup_89 : decode cX2_aboutGroup 89 = .ok (.aload_n 3, 1) := by decide +kernel
theorem dX2_aboutGroup_90 : decode cX2_aboutGroup 90 = .ok (.getfield 109, 3) := by decide +kernel
theorem dX2_aboutGroup_93 : decode cX2_aboutGroup 93 = .ok (.ireturn, 1) := by decide +kernel
theorem dX2_aboutGroup_94 : decode cX2_aboutGroup 94 = .ok (.aload_n 3, 1) := by decide +kernel
theorem dX2_aboutGroup_95 : decode cX2_aboutGroup 95 = .ok (.invokevirtual 112, 3) := by decide +kernel
theorem dX2_aboutGroup_98 : decode cX2_aboutGroup 98 = .ok (.ireturn, 1) := by decide +kernel
theorem dX2_aboutGroup_99 : decode cX2_aboutGroup 99 = .ok (.bipush (-2), 2) := by decide +kernel
theorem dX2_aboutGroup_101 : decode cX2_aboutGroup 101 = .ok (.ireturn, 1) := by decide +kernel
set_option maxRecDepth 20000 in
theorem ggX2_aboutGeneration_X2_isGroup : GoodIn wsX2_aboutGeneration wsX2_isGroup := goodIn_r _ [12] (by decide +kernel) (by decide +kernel)
set_option maxRecDepth 20000 in
theorem gX2_aboutGeneration_X2_isGroup : GoodIn wsX2_aboutGeneration (wsV RX2 42 RX2 yX2_isGroup wsX2_isGroup) := goodIn_app (goodIn_of _ (by decide +kernel)) ggX2_aboutGeneration_X2_isGroup
set_option maxRecDepth 20000 in
theorem ggX2_aboutGeneration_X0_numberOf : GoodIn wsX2_aboutGeneration wsX0_numberOf := goodIn_r _ [17] (by decide +kernel) (by decide +kernel)
set_option maxRecDepth 20000 in
theorem gX2_aboutGeneration_X0_numberOf : GoodIn wsX2_aboutGeneration (wsV RX2 67 RX0 yX0_numberOf wsX0_numberOf) := goodIn_app (goodIn_of _ (by decide +kernel)) ggX2_aboutGeneration_X0_numberOf
set_option maxRecDepth 20000 in
theorem ggX2_aboutGeneration_X0_isHole : GoodIn wsX2_aboutGeneration wsX0_isHole := goodIn_r _ [21, 22, 36, 37, 38, 39, 40, 41, 42, 43, 44, 45] (by decide +kernel) (by decide +kernel)
set_option maxRecDepth 20000 in
theorem gX2_aboutGeneration_X0_isHole : GoodIn wsX2_aboutGeneration (wsV RX2 115 RX0 yX0_isHole wsX0_isHole) := goodIn_app (goodIn_of _ (by decide +kernel)) ggX2_aboutGeneration_X0_isHole
set_option maxRecDepth 20000 in
theorem ggX2_aboutGeneration_X0_nameForJob : GoodIn wsX2_aboutGeneration wsX0_nameForJob := goodIn_r _ [26, 27, 28, 36, 37, 38, 39, 40, 41, 42, 43, 44, 45] (by decide +kernel) (by decide +kernel)
set_option maxRecDepth 20000 in
theorem gX2_aboutGeneration_X0_nameForJob : GoodIn wsX2_aboutGeneration (wsV RX2 121 RX0 yX0_nameForJob wsX0_nameForJob) := goodIn_app (goodIn_of _ (by decide +kernel)) ggX2_aboutGeneration_X0_nameForJob
theorem dX2_aboutGeneration_0 : decode cX2_aboutGeneration 0 = .ok (.aload_n 0, 1) := by decide +kernel
theorem dX2_aboutGeneration_1 : decode cX2_aboutGeneration 1 = .ok (.iload_n 1, 1) := by decide +kernel
theorem dX2_aboutGeneration_2 : decode cX2_aboutGeneration 2 = .ok (.invokevirtual 42, 3) := by decide +kernel
theorem dX2_aboutGeneration_5 : decode cX2_aboutGeneration 5 = .ok (.ifCond .eq 20, 3) := by decide +kernel
theorem dX2_aboutGeneration_8 : decode cX2_aboutGeneration 8 = .ok (.iload_n 2, 1) := by decide +kernel
theorem dX2_aboutGeneration_9 : decode cX2_aboutGeneration 9 = .ok (.ifCond .lt 16, 3) := by decide +kernel
theorem dX2_aboutGeneration_12 : decode cX2_aboutGeneration 12 = .ok (.iload_n 2, 1) := by decide +kernel
theorem dX2_aboutGeneration_13 : decode cX2_aboutGeneration 13 = .ok (.aload_n 0, 1) := by decide +kernel
theorem dX2_aboutGeneration_14 : decode cX2_aboutGeneration 14 = .ok (.getfield 11, 3) := by decide +kernel
theorem dX2_aboutGeneration_17 : decode cX2_aboutGeneration 17 = .ok (.iload_n 1, 1) := by decide +kernel
theorem dX2_aboutGeneration_18 : decode cX2_aboutGeneration 18 = .ok (.aaload, 1) := by decide +kernel
theorem dX2_aboutGeneration_19 : decode cX2_aboutGeneration 19 = .ok (.getfield 100, 3) := by decide +kernel
theorem dX2_aboutGeneration_22 : decode cX2_aboutGeneration 22 = .ok (.if_icmp .lt 5, 3) := by decide +kernel
theorem dX2_aboutGeneration_25 : decode cX2_aboutGeneration 25 = .ok (.iconst (-1), 1) := by decide +kernel
theorem dX2_aboutGeneration_26 : decode cX2_aboutGeneration 26 = .ok (.ireturn, 1) := by decide +kernel
theorem dX2_aboutGeneration_27 : decode cX2_aboutGeneration 27 = .ok (.aload_n 0, 1) := by decide +kernel
theorem dX2_aboutGeneration_28 : decode cX2_aboutGeneration 28 = .ok (.getfield 11, 3) := by decide +kernel
theorem dX2_aboutGeneration_31 : decode cX2_aboutGeneration 31 = .ok (.iload_n 1, 1) := by decide +kernel
theorem dX2_aboutGeneration_32 : decode cX2_aboutGeneration 32 = .ok (.aaload, 1) := by decide +kernel
theorem dX2_aboutGeneration_33 : decode cX2_aboutGeneration 33 = .ok (.astore 4, 2) := by decide +kernel
theorem dX2_aboutGeneration_35 : decode cX2_aboutGeneration 35 = .ok (.aload 4, 2) := by decide +kernel
theorem dX2_aboutGeneration_37 : decode cX2_aboutGeneration 37 = .ok (.getfield 87, 3) := by decide +kernel
theorem dX2_aboutGeneration_40 : decode cX2_aboutGeneration 40 = .ok (.iload_n 2, 1) := by decide +kernel
theorem dX2_aboutGeneration_41 : decode cX2_aboutGeneration 41 = .ok (.isub, 1) := by decide +kernel
theorem dX2_aboutGeneration_42 : decode cX2_aboutGeneration 42 = .ok (.istore 5, 2) := by decide +kernel
theorem dX2_aboutGeneration_44 : decode cX2_aboutGeneration 44 = .ok (.iload 5, 2) := by decide +kernel
theorem dX2_aboutGeneration_46 : decode cX2_aboutGeneration 46 = .ok (.bipush 7, 2) := by decide +kernel
theorem dX2_aboutGeneration_48 : decode cX2_aboutGeneration 48 = .ok (.iand, 1) := by decide +kernel
theorem dX2_aboutGeneration_49 : decode cX2_aboutGeneration 49 = .ok (.istore 6, 2) := by decide +kernel
theorem dX2_aboutGeneration_51 : decode cX2_aboutGeneration 51 = .ok (.iload_n 3, 1) := by decide +kernel
theorem dX2_aboutGeneration_52 : decode cX2_aboutGeneration 52 = .ok (.tableswitch 121 0 5 #[40, 48, 57, 73, 82, 91], 40) := by decide +kernel
theorem dX2_aboutGeneration_92 : decode cX2_aboutGeneration 92 = .ok (.aload 4, 2) := by decide +kernel
theorem dX2_aboutGeneration_94 : decode cX2_aboutGeneration 94 = .ok (.iload 5, 2) := by decide +kernel
theorem dX2_aboutGeneration_96 : decode cX2_aboutGeneration 96 = .ok (.invokevirtual 67, 3) := by decide +kernel
theorem dX2_aboutGeneration_99 : decode cX2_aboutGeneration 99 = .ok (.ireturn, 1) := by decide +kernel
theorem dX2_aboutGeneration_100 : decode cX2_aboutGeneration 100 = .ok (.aload 4, 2) := by decide +kernel
theorem dX2_aboutGeneration_102 : decode cX2_aboutGeneration 102 = .ok (.getfield 78, 3) := by decide +kernel
theorem dX2_aboutGeneration_105 : decode cX2_aboutGeneration 105 = .ok (.iload 6, 2) := by decide +kernel
theorem dX2_aboutGeneration_107 : decode cX2_aboutGeneration 107 = .ok (.iaload, 1) := by decide +kernel
theorem dX2_aboutGeneration_108 : decode cX2_aboutGeneration 108 = .ok (.ireturn, 1) := by decide +kernel
theorem dX2_aboutGeneration_109 : decode cX2_aboutGeneration 109 = .ok (.aload 4, 2) := by decide +kernel
theorem dX2_aboutGeneration_111 : decode cX2_aboutGeneration 111 = .ok (.iload 5, 2) := by decide +kernel
theorem dX2_aboutGeneration_113 : decode cX2_aboutGeneration 113 = .ok (.invokevirtual 115, 3) := by decide +kernel
theorem dX2_aboutGeneration_116 : decode cX2_aboutGeneration 116 = .ok (.ifCond .eq 7, 3) := by decide +kernel
theorem dX2_aboutGeneration_119 : decode cX2_aboutGeneration 119 = .ok (.iconst 1, 1) := by decide +kernel
theorem dX2_aboutGeneration_120 : decode cX2_aboutGeneration 120 = .ok (.goto 4, 3) := by decide +kernel
theorem dX2_aboutGeneration_123 : decode cX2_aboutGeneration 123 = .ok (.iconst 0, 1) := by decide +kernel
theorem dX2_aboutGeneration_124 : decode cX2_aboutGeneration 124 = .ok (.ireturn, 1) := by decide +kernel
theorem dX2_aboutGeneration_125 : decode cX2_aboutGeneration 125 = .ok (.aload 4, 2) := by decide +kernel
theorem dX2_aboutGeneration_127 : decode cX2_aboutGeneration 127 = .ok (.getfield 82, 3) := by decide +kernel
theorem dX2_aboutGeneration_130 : decode cX2_aboutGeneration 130 = .ok (.iload 6, 2) := by decide +kernel
theorem dX2_aboutGeneration_132 : decode cX2_aboutGeneration 132 = .ok (.iaload, 1) := by decide +kernel
theorem dX2_aboutGeneration_133 : decode cX2_aboutGeneration 133 = .ok (.ireturn, 1) := by decide +kernel
theorem dX2_aboutGeneration_134 : decode cX2_aboutGeneration 134 = .ok (.aload 4, 2) := by decide +kernel
theorem dX2_aboutGeneration_136 : decode cX2_aboutGeneration 136 = .ok (.getfield 118, 3) := by decide +kernel
theorem dX2_aboutGeneration_139 : decode cX2_aboutGeneration 139 = .ok (.iload 6, 2) := by decide +kernel
theorem dX2_aboutGeneration_141 : decode cX2_aboutGeneration 141 = .ok (.iaload, 1) := by decide +kernel
theorem dX2_aboutGeneration_142 : decode cX2_aboutGeneration 142 = .ok (.ireturn, 1) := by decide +kernel
theorem dX2_aboutGeneration_143 : decode cX2_aboutGeneration 143 = .ok (.aload_n 0, 1) := by decide +kernel
theorem dX2_aboutGeneration_144 : decode cX2_aboutGeneration 144 = .ok (.getfield 21, 3) := by decide +kernel
theorem dX2_aboutGeneration_147 : decode cX2_aboutGeneration 147 = .ok (.ifCond .eq 23, 3) := by decide +kernel
theorem dX2_aboutGeneration_150 : decode cX2_aboutGeneration 150 = .ok (.aload 4, 2) := by decide +kernel
theorem dX2_aboutGeneration_152 : decode cX2_aboutGeneration 152 = .ok (.iload 5, 2) := by decide +kernel
theorem dX2_aboutGeneration_154 : decode cX2_aboutGeneration 154 = .ok (.invokevirtual 115, 3) := by decide +kernel
theorem dX2_aboutGeneration_157 : decode cX2_aboutGeneration 157 = .ok (.ifCond .ne 13, 3) := by decide +kernel
theorem dX2_aboutGeneration_160 : decode cX2_aboutGeneration 160 = .ok (.aload 4, 2) := by decide +kernel
theorem dX2_aboutGeneration_162 : decode cX2_aboutGeneration 162 = .ok (.iload 5, 2) := by decide +kernel
theorem dX2_aboutGeneration_164 : decode cX2_aboutGeneration 164 = .ok (.invokevirtual 121, 3) := by decide +kernel
theorem dX2_aboutGeneration_167 : decode cX2_aboutGeneration 167 = .ok (.goto 5, 3) := by decide +kernel
theorem dX2_aboutGeneration_170 : decode cX2_aboutGeneration 170 = .ok (.bipush (-6), 2) := by decide +kernel
theorem dX2_aboutGeneration_172 : decode cX2_aboutGeneration 172 = .ok (.ireturn, 1) := by decide +kernel
theorem dX2_aboutGeneration_173 : decode cX2_aboutGeneration 173 = .ok (.bipush (-2), 2) := by decide +kernel
theorem dX2_aboutGeneration_175 : decode cX2_aboutGeneration 175 = .ok (.ireturn, 1) := by decide +kernel
set_option maxRecDepth 20000 in
theorem ggX2_numberByName_X2_isGroup : GoodIn wsX2_numberByName wsX2_isGroup := goodIn_r _ [7] (by decide +kernel) (by decide +kernel)
set_option maxRecDepth 20000 in
theorem gX2_numberByName_X2_isGroup : GoodIn wsX2_numberByName (wsV RX2 42 RX2 yX2_isGroup wsX2_isGroup) := goodIn_app (goodIn_of _ (by decide +kernel)) ggX2_numberByName_X2_isGroup
set_option maxRecDepth 20000 in
theorem ggX2_numberByName_X2_isName : GoodIn wsX2_numberByName wsX2_isName := goodIn_r _ [11] (by decide +kernel) (by decide +kernel)
set_option maxRecDepth 20000 in
theorem gX2_numberByName_X2_isName : GoodIn wsX2_numberByName (wsV RX2 56 RX2 yX2_isName wsX2_isName) := goodIn_app (goodIn_of _ (by decide +kernel)) ggX2_numberByName_X2_isName
set_option maxRecDepth 20000 in
theorem ggX2_numberByName_X0_serialOf : GoodIn wsX2_numberByName wsX0_serialOf := goodIn_r _ [16, 17, 18, 19, 49, 50, 51, 52, 53, 54, 55, 56, 57, 58] (by decide +kernel) (by decide +kernel)
set_option maxRecDepth 20000 in
theorem gX2_numberByName_X0_serialOf : GoodIn wsX2_numberByName (wsV RX2 71 RX0 yX0_serialOf wsX0_serialOf) := goodIn_app (goodIn_of _ (by decide +kernel)) ggX2_numberByName_X0_serialOf
set_option maxRecDepth 20000 in
theorem ggX2_numberByName_X0_numberIfThere : GoodIn wsX2_numberByName wsX0_numberIfThere := goodIn_r _ [23, 24, 25, 26, 15, 27, 19, 28, 29, 30, 31, 32, 33, 34, 35, 36, 37, 38, 39, 40, 41, 49, 50, 51, 52, 53, 54, 55, 56, 57, 58] (by decide +kernel) (by decide +kernel)
set_option maxRecDepth 20000 in
theorem gX2_numberByName_X0_numberIfThere : GoodIn wsX2_numberByName (wsV RX2 124 RX0 yX0_numberIfThere wsX0_numberIfThere) := goodIn_app (goodIn_of _ (by decide +kernel)) ggX2_numberByName_X0_numberIfThere
theorem dX2_numberByName_0 : decode cX2_numberByName 0 = .ok (.aload_n 0, 1) := by decide +kernel
theorem dX2_numberByName_1 : decode cX2_numberByName 1 = .ok (.iload_n 1, 1) := by decide +kernel
theorem dX2_numberByName_2 : decode cX2_numberByName 2 = .ok (.invokevirtual 42, 3) := by decide +kernel
theorem dX2_numberByName_5 : decode cX2_numberByName 5 = .ok (.ifCond .ne 5, 3) := by decide +kernel
theorem dX2_numberByName_8 : decode cX2_numberByName 8 = .ok (.iconst (-1), 1) := by decide +kernel
theorem dX2_numberByName_9 : decode cX2_numberByName 9 = .ok (.ireturn, 1) := by decide +kernel
theorem dX2_numberByName_10 : decode cX2_numberByName 10 = .ok (.aload_n 0, 1) := by decide +kernel
theorem dX2_numberByName_11 : decode cX2_numberByName 11 = .ok (.iload_n 2, 1) := by decide +kernel
theorem dX2_numberByName_12 : decode cX2_numberByName 12 = .ok (.invokevirtual 56, 3) := by decide +kernel
theorem dX2_numberByName_15 : decode cX2_numberByName 15 = .ok (.ifCond .ne 6, 3) := by decide +kernel
theorem dX2_numberByName_18 : decode cX2_numberByName 18 = .ok (.bipush (-2), 2) := by decide +kernel
theorem dX2_numberByName_20 : decode cX2_numberByName 20 = .ok (.ireturn, 1) := by decide +kernel
theorem dX2_numberByName_21 : decode cX2_numberByName 21 = .ok (.aload_n 0, 1) := by decide +kernel
theorem dX2_numberByName_22 : decode cX2_numberByName 22 = .ok (.getfield 11, 3) := by decide +kernel
theorem dX2_numberByName_25 : decode cX2_numberByName 25 = .ok (.iload_n 1, 1) := by decide +kernel
theorem dX2_numberByName_26 : decode cX2_numberByName 26 = .ok (.aaload, 1) := by decide +kernel
theorem dX2_numberByName_27 : decode cX2_numberByName 27 = .ok (.astore_n 3, 1) := by decide +kernel
theorem dX2_numberByName_28 : decode cX2_numberByName 28 = .ok (.aload_n 3, 1) := by decide +kernel
theorem dX2_numberByName_29 : decode cX2_numberByName 29 = .ok (.aload_n 3, 1) := by decide +kernel
theorem dX2_numberByName_30 : decode cX2_numberByName 30 = .ok (.iload_n 2, 1) := by decide +kernel
theorem dX2_numberByName_31 : decode cX2_numberByName 31 = .ok (.aload_n 0, 1) := by decide +kernel
theorem dX2_numberByName_32 : decode cX2_numberByName 32 = .ok (.getfield 21, 3) := by decide +kernel
theorem dX2_numberByName_35 : decode cX2_numberByName 35 = .ok (.invokevirtual 71, 3) := by decide +kernel
theorem dX2_numberByName_38 : decode cX2_numberByName 38 = .ok (.invokevirtual 124, 3) := by decide +kernel
theorem dX2_numberByName_41 : decode cX2_numberByName 41 = .ok (.ireturn, 1) := by decide +kernel
set_option maxRecDepth 20000 in
theorem ggX2_counted_X2_countThere : GoodIn wsX2_counted wsX2_countThere := goodIn_r _ [10, 11, 12, 13, 14, 15, 16, 17, 18, 19, 20, 21, 22, 23, 24, 42, 43, 44, 45, 46, 47, 48, 49, 50, 51, 52, 53, 54, 55, 56, 57, 58] (by decide +kernel) (by decide +kernel)
set_option maxRecDepth 20000 in
theorem gX2_counted_X2_countThere : GoodIn wsX2_counted (wsV RX2 127 RX2 yX2_countThere wsX2_countThere) := goodIn_app (goodIn_of _ (by decide +kernel)) ggX2_counted_X2_countThere
set_option maxRecDepth 20000 in
theorem ggX2_counted_X2_countHoles : GoodIn wsX2_counted wsX2_countHoles := goodIn_r _ [28, 11, 13, 14, 15, 16, 17, 18, 19, 20, 21, 22, 23, 24, 42, 43, 44, 45, 46, 47, 48, 49, 50, 51, 52, 53, 54, 55, 56, 57, 58] (by decide +kernel) (by decide +kernel)
set_option maxRecDepth 20000 in
theorem gX2_counted_X2_countHoles : GoodIn wsX2_counted (wsV RX2 130 RX2 yX2_countHoles wsX2_countHoles) := goodIn_app (goodIn_of _ (by decide +kernel)) ggX2_counted_X2_countHoles
set_option maxRecDepth 20000 in
theorem ggX2_counted_X2_countMadeByJob : GoodIn wsX2_counted wsX2_countMadeByJob := goodIn_r _ [32, 2, 11, 33, 34, 35, 36, 16, 37, 19, 38, 39, 40, 41, 18, 20, 21, 22, 23, 24, 42, 43, 44, 45, 46, 47, 48, 49, 50, 51, 52, 53, 54, 55, 56, 57, 58] (by decide +kernel) (by decide +kernel)
set_option maxRecDepth 20000 in
theorem gX2_counted_X2_countMadeByJob : GoodIn wsX2_counted (wsV RX2 97 RX2 yX2_countMadeByJob wsX2_countMadeByJob) := goodIn_app (goodIn_of _ (by decide +kernel)) ggX2_counted_X2_countMadeByJob
theorem dX2_counted_0 : decode cX2_counted 0 = .ok (.iload_n 1, 1) := by decide +kernel
theorem dX2_counted_1 : decode cX2_counted 1 = .ok (.tableswitch 95 0 7 #[47, 52, 65, 70, 75, 80, 85, 90], 47) := by decide +kernel
theorem dX2_counted_48 : decode cX2_counted 48 = .ok (.aload_n 0, 1) := by decide +kernel
theorem dX2_counted_49 : decode cX2_counted 49 = .ok (.getfield 17, 3) := by decide +kernel
theorem dX2_counted_52 : decode cX2_counted 52 = .ok (.ireturn, 1) := by decide +kernel
theorem dX2_counted_53 : decode cX2_counted 53 = .ok (.aload_n 0, 1) := by decide +kernel
theorem dX2_counted_54 : decode cX2_counted 54 = .ok (.getfield 21, 3) := by decide +kernel
theorem dX2_counted_57 : decode cX2_counted 57 = .ok (.ifCond .eq 7, 3) := by decide +kernel
theorem dX2_counted_60 : decode cX2_counted 60 = .ok (.iconst 1, 1) := by decide +kernel
theorem dX2_counted_61 : decode cX2_counted 61 = .ok (.goto 4, 3) := by decide +kernel
theorem dX2_counted_64 : decode cX2_counted 64 = .ok (.iconst 0, 1) := by decide +kernel
theorem dX2_counted_65 : decode cX2_counted 65 = .ok (.ireturn, 1) := by decide +kernel
theorem dX2_counted_66 : decode cX2_counted 66 = .ok (.aload_n 0, 1) := by decide +kernel
theorem dX2_counted_67 : decode cX2_counted 67 = .ok (.getfield 28, 3) := by decide +kernel
theorem dX2_counted_70 : decode cX2_counted 70 = .ok (.ireturn, 1) := by decide +kernel
theorem dX2_counted_71 : decode cX2_counted 71 = .ok (.aload_n 0, 1) := by decide +kernel
theorem dX2_counted_72 : decode cX2_counted 72 = .ok (.invokevirtual 127, 3) := by decide +kernel
theorem dX2_counted_75 : decode cX2_counted 75 = .ok (.ireturn, 1) := by decide +kernel
theorem dX2_counted_76 : decode cX2_counted 76 = .ok (.aload_n 0, 1) := by decide +kernel
theorem dX2_counted_77 : decode cX2_counted 77 = .ok (.invokevirtual 130, 3) := by decide +kernel
theorem dX2_counted_80 : decode cX2_counted 80 = .ok (.ireturn, 1) := by decide +kernel
theorem dX2_counted_81 : decode cX2_counted 81 = .ok (.aload_n 0, 1) := by decide +kernel
theorem dX2_counted_82 : decode cX2_counted 82 = .ok (.getfield 31, 3) := by decide +kernel
theorem dX2_counted_85 : decode cX2_counted 85 = .ok (.ireturn, 1) := by decide +kernel
theorem dX2_counted_86 : decode cX2_counted 86 = .ok (.aload_n 0, 1) := by decide +kernel
theorem dX2_counted_87 : decode cX2_counted 87 = .ok (.getfield 34, 3) := by decide +kernel
theorem dX2_counted_90 : decode cX2_counted 90 = .ok (.ireturn, 1) := by decide +kernel
theorem dX2_counted_91 : decode cX2_counted 91 = .ok (.aload_n 0, 1) := by decide +kernel
theorem dX2_counted_92 : decode cX2_counted 92 = .ok (.invokevirtual 97, 3) := by decide +kernel
theorem dX2_counted_95 : decode cX2_counted 95 = .ok (.ireturn, 1) := by decide +kernel
theorem dX2_counted_96 : decode cX2_counted 96 = .ok (.bipush (-2), 2) := by decide +kernel
theorem dX2_counted_98 : decode cX2_counted 98 = .ok (.ireturn, 1) := by decide +kernel
set_option maxRecDepth 20000 in
theorem ggX2_countHoles_X0_countHoles : GoodIn wsX2_countHoles wsX0_countHoles := goodIn_r _ [6, 7, 8, 9, 10, 11, 5, 12, 13, 21, 22, 23, 24, 25, 26, 27, 28, 29, 30] (by decide +kernel) (by decide +kernel)
set_option maxRecDepth 20000 in
theorem gX2_countHoles_X0_countHoles : GoodIn wsX2_countHoles (wsV RX2 103 RX0 yX0_countHoles wsX0_countHoles) := goodIn_app (goodIn_of _ (by decide +kernel)) ggX2_countHoles_X0_countHoles
theorem dX2_countHoles_0 : decode cX2_countHoles 0 = .ok (.iconst 0, 1) := by decide +kernel
theorem dX2_countHoles_1 : decode cX2_countHoles 1 = .ok (.istore_n 1, 1) := by decide +kernel
theorem dX2_countHoles_2 : decode cX2_countHoles 2 = .ok (.iconst 0, 1) := by decide +kernel
theorem dX2_countHoles_3 : decode cX2_countHoles 3 = .ok (.istore_n 2, 1) := by decide +kernel
theorem dX2_countHoles_4 : decode cX2_countHoles 4 = .ok (.iload_n 2, 1) := by decide +kernel
theorem dX2_countHoles_5 : decode cX2_countHoles 5 = .ok (.bipush 6, 2) := by decide +kernel
theorem dX2_countHoles_7 : decode cX2_countHoles 7 = .ok (.if_icmp .ge 21, 3) := by decide +kernel
theorem dX2_countHoles_10 : decode cX2_countHoles 10 = .ok (.iload_n 1, 1) := by decide +kernel
theorem dX2_countHoles_11 : decode cX2_countHoles 11 = .ok (.aload_n 0, 1) := by decide +kernel
theorem dX2_countHoles_12 : decode cX2_countHoles 12 = .ok (.getfield 11, 3) := by decide +kernel
theorem dX2_countHoles_15 : decode cX2_countHoles 15 = .ok (.iload_n 2, 1) := by decide +kernel
theorem dX2_countHoles_16 : decode cX2_countHoles 16 = .ok (.aaload, 1) := by decide +kernel
theorem dX2_countHoles_17 : decode cX2_countHoles 17 = .ok (.invokevirtual 103, 3) := by decide +kernel
theorem dX2_countHoles_20 : decode cX2_countHoles 20 = .ok (.iadd, 1) := by decide +kernel
theorem dX2_countHoles_21 : decode cX2_countHoles 21 = .ok (.istore_n 1, 1) := by decide +kernel
theorem dX2_countHoles_22 : decode cX2_countHoles 22 = .ok (.iinc 2 1, 3) := by decide +kernel
theorem dX2_countHoles_25 : decode cX2_countHoles 25 = .ok (.goto (-21), 3) := by decide +kernel
theorem dX2_countHoles_28 : decode cX2_countHoles 28 = .ok (.iload_n 1, 1) := by decide +kernel
theorem dX2_countHoles_29 : decode cX2_countHoles 29 = .ok (.ireturn, 1) := by decide +kernel
set_option maxRecDepth 20000 in
theorem ggX2_countThere_X0_countHoles : GoodIn wsX2_countThere wsX0_countHoles := goodIn_r _ [7, 8, 9, 10, 11, 12, 6, 13, 14, 22, 23, 24, 25, 26, 27, 28, 29, 30, 31] (by decide +kernel) (by decide +kernel)
set_option maxRecDepth 20000 in
theorem gX2_countThere_X0_countHoles : GoodIn wsX2_countThere (wsV RX2 103 RX0 yX0_countHoles wsX0_countHoles) := goodIn_app (goodIn_of _ (by decide +kernel)) ggX2_countThere_X0_countHoles
theorem dX2_countThere_0 : decode cX2_countThere 0 = .ok (.iconst 0, 1) := by decide +kernel
theorem dX2_countThere_1 : decode cX2_countThere 1 = .ok (.istore_n 1, 1) := by decide +kernel
theorem dX2_countThere_2 : decode cX2_countThere 2 = .ok (.iconst 0, 1) := by decide +kernel
theorem dX2_countThere_3 : decode cX2_countThere 3 = .ok (.istore_n 2, 1) := by decide +kernel
theorem dX2_countThere_4 : decode cX2_countThere 4 = .ok (.iload_n 2, 1) := by decide +kernel
theorem dX2_countThere_5 : decode cX2_countThere 5 = .ok (.bipush 6, 2) := by decide +kernel
theorem dX2_countThere_7 : decode cX2_countThere 7 = .ok (.if_icmp .ge 31, 3) := by decide +kernel
theorem dX2_countThere_10 : decode cX2_countThere 10 = .ok (.iload_n 1, 1) := by decide +kernel
theorem dX2_countThere_11 : decode cX2_countThere 11 = .ok (.aload_n 0, 1) := by decide +kernel
theorem dX2_countThere_12 : decode cX2_countThere 12 = .ok (.getfield 11, 3) := by decide +kernel
theorem dX2_countThere_15 : decode cX2_countThere 15 = .ok (.iload_n 2, 1) := by decide +kernel
theorem dX2_countThere_16 : decode cX2_countThere 16 = .ok (.aaload, 1) := by decide +kernel
theorem dX2_countThere_17 : decode cX2_countThere 17 = .ok (.getfield 100, 3) := by decide +kernel
theorem dX2_countThere_20 : decode cX2_countThere 20 = .ok (.aload_n 0, 1) := by decide +kernel
theorem dX2_countThere_21 : decode cX2_countThere 21 = .ok (.getfield 11, 3) := by decide +kernel
theorem dX2_countThere_24 : decode cX2_countThere 24 = .ok (.iload_n 2, 1) := by decide +kernel
theorem dX2_countThere_25 : decode cX2_countThere 25 = .ok (.aaload, 1) := by decide +kernel
theorem dX2_countThere_26 : decode cX2_countThere 26 = .ok (.invokevirtual 103, 3) := by decide +kernel
theorem dX2_countThere_29 : decode cX2_countThere 29 = .ok (.isub, 1) := by decide +kernel
theorem dX2_countThere_30 : decode cX2_countThere 30 = .ok (.iadd, 1) := by decide +kernel
theorem dX2_countThere_31 : decode cX2_countThere 31 = .ok (.istore_n 1, 1) := by decide +kernel
theorem dX2_countThere_32 : decode cX2_countThere 32 = .ok (.iinc 2 1, 3) := by decide +kernel
theorem dX2_countThere_35 : decode cX2_countThere 35 = .ok (.goto (-31), 3) := by decide +kernel
theorem dX2_countThere_38 : decode cX2_countThere 38 = .ok (.iload_n 1, 1) := by decide +kernel
theorem dX2_countThere_39 : decode cX2_countThere 39 = .ok (.ireturn, 1) := by decide +kernel
set_option maxRecDepth 20000 in
theorem ggX2_groupsThatAre_X2_isSo : GoodIn wsX2_groupsThatAre wsX2_isSo := goodIn_r _ [6, 7, 8, 9, 10, 11, 12, 13, 14, 15, 16, 17, 18, 19, 20, 21, 22, 23, 5, 24, 25, 26, 27, 28, 29, 30, 31, 32, 33, 34, 35, 36, 37, 38, 39, 47, 48, 49, 50, 51, 52, 53, 54, 55, 56, 40, 41, 42, 43, 44, 45, 46] (by decide +kernel) (by decide +kernel)
set_option maxRecDepth 20000 in
theorem gX2_groupsThatAre_X2_isSo : GoodIn wsX2_groupsThatAre (wsV RX2 131 RX2 yX2_isSo wsX2_isSo) := goodIn_app (goodIn_of _ (by decide +kernel)) ggX2_groupsThatAre_X2_isSo
theorem dX2_groupsThatAre_0 : decode cX2_groupsThatAre 0 = .ok (.iload_n 1, 1) := by decide +kernel
theorem dX2_groupsThatAre_1 : decode cX2_groupsThatAre 1 = .ok (.ifCond .lt 8, 3) := by decide +kernel
theorem dX2_groupsThatAre_4 : decode cX2_groupsThatAre 4 = .ok (.iload_n 1, 1) := by decide +kernel
theorem dX2_groupsThatAre_5 : decode cX2_groupsThatAre 5 = .ok (.iconst 2, 1) := by decide +kernel
theorem dX2_groupsThatAre_6 : decode cX2_groupsThatAre 6 = .ok (.if_icmp .le 6, 3) := by decide +kernel
theorem dX2_groupsThatAre_9 : decode cX2_groupsThatAre 9 = .ok (.bipush (-2), 2) := by decide +kernel
theorem dX2_groupsThatAre_11 : decode cX2_groupsThatAre 11 = .ok (.ireturn, 1) := by decide +kernel
theorem dX2_groupsThatAre_12 : decode cX2_groupsThatAre 12 = .ok (.iconst 0, 1) := by decide +kernel
theorem dX2_groupsThatAre_13 : decode cX2_groupsThatAre 13 = .ok (.istore_n 2, 1) := by decide +kernel
theorem dX2_groupsThatAre_14 : decode cX2_groupsThatAre 14 = .ok (.iconst 0, 1) := by decide +kernel
theorem dX2_groupsThatAre_15 : decode cX2_groupsThatAre 15 = .ok (.istore_n 3, 1) := by decide +kernel
theorem dX2_groupsThatAre_16 : decode cX2_groupsThatAre 16 = .ok (.iload_n 3, 1) := by decide +kernel
theorem dX2_groupsThatAre_17 : decode cX2_groupsThatAre 17 = .ok (.bipush 6, 2) := by decide +kernel
theorem dX2_groupsThatAre_19 : decode cX2_groupsThatAre 19 = .ok (.if_icmp .ge 29, 3) := by decide +kernel
theorem dX2_groupsThatAre_22 : decode cX2_groupsThatAre 22 = .ok (.aload_n 0, 1) := by decide +kernel
theorem dX2_groupsThatAre_23 : decode cX2_groupsThatAre 23 = .ok (.aload_n 0, 1) := by decide +kernel
theorem dX2_groupsThatAre_24 : decode cX2_groupsThatAre 24 = .ok (.getfield 11, 3) := by decide +kernel
theorem dX2_groupsThatAre_27 : decode cX2_groupsThatAre 27 = .ok (.iload_n 3, 1) := by decide +kernel
theorem dX2_groupsThatAre_28 : decode cX2_groupsThatAre 28 = .ok (.aaload, 1) := by decide +kernel
theorem dX2_groupsThatAre_29 : decode cX2_groupsThatAre 29 = .ok (.iload_n 1, 1) := by decide +kernel
theorem dX2_groupsThatAre_30 : decode cX2_groupsThatAre 30 = .ok (.invokevirtual 131, 3) := by decide +kernel
theorem dX2_groupsThatAre_33 : decode cX2_groupsThatAre 33 = .ok (.ifCond .eq 9, 3) := by decide +kernel
theorem dX2_groupsThatAre_36 : decode cX2_groupsThatAre 36 = .ok (.iload_n 2, 1) := by decide +kernel
theorem dX2_groupsThatAre_37 : decode cX2_groupsThatAre 37 = .ok (.iconst 1, 1) := by decide +kernel
theorem dX2_groupsThatAre_38 : decode cX2_groupsThatAre 38 = .ok (.iload_n 3, 1) := by decide +kernel
theorem dX2_groupsThatAre_39 : decode cX2_groupsThatAre 39 = .ok (.ishl, 1) := by decide +kernel
theorem dX2_groupsThatAre_40 : decode cX2_groupsThatAre 40 = .ok (.ior, 1) := by decide +kernel
theorem dX2_groupsThatAre_41 : decode cX2_groupsThatAre 41 = .ok (.istore_n 2, 1) := by decide +kernel
theorem dX2_groupsThatAre_42 : decode cX2_groupsThatAre 42 = .ok (.iinc 3 1, 3) := by decide +kernel
theorem dX2_groupsThatAre_45 : decode cX2_groupsThatAre 45 = .ok (.goto (-29), 3) := by decide +kernel
theorem dX2_groupsThatAre_48 : decode cX2_groupsThatAre 48 = .ok (.iload_n 2, 1) := by decide +kernel
theorem dX2_groupsThatAre_49 : decode cX2_groupsThatAre 49 = .ok (.ireturn, 1) := by decide +kernel
set_option maxRecDepth 20000 in
theorem ggX2_isSo_X0_countHoles : GoodIn wsX2_isSo wsX0_countHoles := goodIn_r _ [7, 8, 9, 10, 11, 12, 6, 13, 14, 35, 36, 37, 38, 39, 40, 41, 42, 43, 44] (by decide +kernel) (by decide +kernel)
set_option maxRecDepth 20000 in
theorem gX2_isSo_X0_countHoles : GoodIn wsX2_isSo (wsV RX2 103 RX0 yX0_countHoles wsX0_countHoles) := goodIn_app (goodIn_of _ (by decide +kernel)) ggX2_isSo_X0_countHoles
set_option maxRecDepth 20000 in
theorem ggX2_isSo_X2_hasNewestOfJob : GoodIn wsX2_isSo wsX2_hasNewestOfJob := goodIn_r _ [19, 2, 20, 45, 46, 47, 48, 49, 50, 51, 35, 36, 37, 38, 39, 40, 41, 42, 43, 44] (by decide +kernel) (by decide +kernel)
set_option maxRecDepth 20000 in
theorem gX2_isSo_X2_hasNewestOfJob : GoodIn wsX2_isSo (wsV RX2 59 RX2 yX2_hasNewestOfJob wsX2_hasNewestOfJob) := goodIn_app (goodIn_of _ (by decide +kernel)) ggX2_isSo_X2_hasNewestOfJob
set_option maxRecDepth 20000 in
theorem ggX2_isSo_X0_serialOf : GoodIn wsX2_isSo wsX0_serialOf := goodIn_r _ [24, 25, 26, 9, 35, 36, 37, 38, 39, 40, 41, 42, 43, 44] (by decide +kernel) (by decide +kernel)
set_option maxRecDepth 20000 in
theorem gX2_isSo_X0_serialOf : GoodIn wsX2_isSo (wsV RX2 71 RX0 yX0_serialOf wsX0_serialOf) := goodIn_app (goodIn_of _ (by decide +kernel)) ggX2_isSo_X0_serialOf
set_option maxRecDepth 20000 in
theorem ggX2_isSo_X0_isThere : GoodIn wsX2_isSo wsX0_isThere := goodIn_r _ [30, 9, 31, 32, 33, 6, 34, 8, 10, 11, 12, 13, 14, 35, 36, 37, 38, 39, 40, 41, 42, 43, 44] (by decide +kernel) (by decide +kernel)
set_option maxRecDepth 20000 in
theorem gX2_isSo_X0_isThere : GoodIn wsX2_isSo (wsV RX2 75 RX0 yX0_isThere wsX0_isThere) := goodIn_app (goodIn_of _ (by decide +kernel)) ggX2_isSo_X0_isThere
theorem dX2_isSo_0 : decode cX2_isSo 0 = .ok (.iload_n 2, 1) := by decide +kernel
theorem dX2_isSo_1 : decode cX2_isSo 1 = .ok (.lookupswitch 61 #[(0, 27), (1, 40)], 27) := by decide +kernel
theorem dX2_isSo_28 : decode cX2_isSo 28 = .ok (.aload_n 1, 1) := by decide +kernel
theorem dX2_isSo_29 : decode cX2_isSo 29 = .ok (.invokevirtual 103, 3) := by decide +kernel
theorem dX2_isSo_32 : decode cX2_isSo 32 = .ok (.ifCond .le 7, 3) := by decide +kernel
theorem dX2_isSo_35 : decode cX2_isSo 35 = .ok (.iconst 1, 1) := by decide +kernel
theorem dX2_isSo_36 : decode cX2_isSo 36 = .ok (.goto 4, 3) := by decide +kernel
theorem dX2_isSo_39 : decode cX2_isSo 39 = .ok (.iconst 0, 1) := by decide +kernel
theorem dX2_isSo_40 : decode cX2_isSo 40 = .ok (.ireturn, 1) := by decide +kernel
theorem dX2_isSo_41 : decode cX2_isSo 41 = .ok (.aload_n 0, 1) := by decide +kernel
theorem dX2_isSo_42 : decode cX2_isSo 42 = .ok (.aload_n 1, 1) := by decide +kernel
theorem dX2_isSo_43 : decode cX2_isSo 43 = .ok (.invokevirtual 59, 3) := by decide +kernel
theorem dX2_isSo_46 : decode cX2_isSo 46 = .ok (.ifCond .eq 14, 3) := by decide +kernel
theorem dX2_isSo_49 : decode cX2_isSo 49 = .ok (.aload_n 1, 1) := by decide +kernel
theorem dX2_isSo_50 : decode cX2_isSo 50 = .ok (.getfield 100, 3) := by decide +kernel
theorem dX2_isSo_53 : decode cX2_isSo 53 = .ok (.ifCond .le 7, 3) := by decide +kernel
theorem dX2_isSo_56 : decode cX2_isSo 56 = .ok (.iconst 1, 1) := by decide +kernel
theorem dX2_isSo_57 : decode cX2_isSo 57 = .ok (.goto 4, 3) := by decide +kernel
theorem dX2_isSo_60 : decode cX2_isSo 60 = .ok (.iconst 0, 1) := by decide +kernel
theorem dX2_isSo_61 : decode cX2_isSo 61 = .ok (.ireturn, 1) := by decide +kernel
theorem dX2_isSo_62 : decode cX2_isSo 62 = .ok (.aload_n 1, 1) := by decide +kernel
theorem dX2_isSo_63 : decode cX2_isSo 63 = .ok (.aload_n 1, 1) := by decide +kernel
theorem dX2_isSo_64 : decode cX2_isSo 64 = .ok (.iconst 0, 1) := by decide +kernel
theorem dX2_isSo_65 : decode cX2_isSo 65 = .ok (.aload_n 0, 1) := by decide +kernel
theorem dX2_isSo_66 : decode cX2_isSo 66 = .ok (.getfield 21, 3) := by decide +kernel
theorem dX2_isSo_69 : decode cX2_isSo 69 = .ok (.invokevirtual 71, 3) := by decide +kernel
theorem dX2_isSo_72 : decode cX2_isSo 72 = .ok (.invokevirtual 75, 3) := by decide +kernel
theorem dX2_isSo_75 : decode cX2_isSo 75 = .ok (.ifCond .ne 7, 3) := by decide +kernel
theorem dX2_isSo_78 : decode cX2_isSo 78 = .ok (.iconst 1, 1) := by decide +kernel
theorem dX2_isSo_79 : decode cX2_isSo 79 = .ok (.goto 4, 3) := by decide +kernel
theorem dX2_isSo_82 : decode cX2_isSo 82 = .ok (.iconst 0, 1) := by decide +kernel
theorem dX2_isSo_83 : decode cX2_isSo 83 = .ok (.ireturn, 1) := by decide +kernel
set_option maxRecDepth 20000 in
theorem ggX2_numberThatRolls_X2_isGroup : GoodIn wsX2_numberThatRolls wsX2_isGroup := goodIn_r _ [8] (by decide +kernel) (by decide +kernel)
set_option maxRecDepth 20000 in
theorem gX2_numberThatRolls_X2_isGroup : GoodIn wsX2_numberThatRolls (wsV RX2 42 RX2 yX2_isGroup wsX2_isGroup) := goodIn_app (goodIn_of _ (by decide +kernel)) ggX2_numberThatRolls_X2_isGroup
set_option maxRecDepth 20000 in
theorem ggX2_numberThatRolls_X0_oldest : GoodIn wsX2_numberThatRolls wsX0_oldest := goodIn_r _ [13, 14, 15, 41, 42, 43, 44, 45, 46, 47, 48, 49, 50] (by decide +kernel) (by decide +kernel)
set_option maxRecDepth 20000 in
theorem gX2_numberThatRolls_X0_oldest : GoodIn wsX2_numberThatRolls (wsV RX2 135 RX0 yX0_oldest wsX0_oldest) := goodIn_app (goodIn_of _ (by decide +kernel)) ggX2_numberThatRolls_X0_oldest
set_option maxRecDepth 20000 in
theorem ggX2_numberThatRolls_X0_numberIfThere : GoodIn wsX2_numberThatRolls wsX0_numberIfThere := goodIn_r _ [19, 20, 21, 22, 12, 23, 14, 24, 10, 11, 13, 15, 25, 26, 27, 28, 29, 30, 31, 32, 33, 41, 42, 43, 44, 45, 46, 47, 48, 49, 50] (by decide +kernel) (by decide +kernel)
set_option maxRecDepth 20000 in
theorem gX2_numberThatRolls_X0_numberIfThere : GoodIn wsX2_numberThatRolls (wsV RX2 124 RX0 yX0_numberIfThere wsX0_numberIfThere) := goodIn_app (goodIn_of _ (by decide +kernel)) ggX2_numberThatRolls_X0_numberIfThere
theorem dX2_numberThatRolls_0 : decode cX2_numberThatRolls 0 = .ok (.aload_n 0, 1) := by decide +kernel
theorem dX2_numberThatRolls_1 : decode cX2_numberThatRolls 1 = .ok (.iload_n 1, 1) := by decide +kernel
theorem dX2_numberThatRolls_2 : decode cX2_numberThatRolls 2 = .ok (.invokevirtual 42, 3) := by decide +kernel
theorem dX2_numberThatRolls_5 : decode cX2_numberThatRolls 5 = .ok (.ifCond .ne 5, 3) := by decide +kernel
theorem dX2_numberThatRolls_8 : decode cX2_numberThatRolls 8 = .ok (.iconst (-1), 1) := by decide +kernel
theorem dX2_numberThatRolls_9 : decode cX2_numberThatRolls 9 = .ok (.ireturn, 1) := by decide +kernel
theorem dX2_numberThatRolls_10 : decode cX2_numberThatRolls 10 = .ok (.aload_n 0, 1) := by decide +kernel
theorem dX2_numberThatRolls_11 : decode cX2_numberThatRolls 11 = .ok (.getfield 11, 3) := by decide +kernel
theorem dX2_numberThatRolls_14 : decode cX2_numberThatRolls 14 = .ok (.iload_n 1, 1) := by decide +kernel
theorem dX2_numberThatRolls_15 : decode cX2_numberThatRolls 15 = .ok (.aaload, 1) := by decide +kernel
theorem dX2_numberThatRolls_16 : decode cX2_numberThatRolls 16 = .ok (.astore_n 2, 1) := by decide +kernel
theorem dX2_numberThatRolls_17 : decode cX2_numberThatRolls 17 = .ok (.aload_n 2, 1) := by decide +kernel
theorem dX2_numberThatRolls_18 : decode cX2_numberThatRolls 18 = .ok (.getfield 100, 3) := by decide +kernel
theorem dX2_numberThatRolls_21 : decode cX2_numberThatRolls 21 = .ok (.aload_n 2, 1) := by decide +kernel
theorem dX2_numberThatRolls_22 : decode cX2_numberThatRolls 22 = .ok (.getfield 46, 3) := by decide +kernel
theorem dX2_numberThatRolls_25 : decode cX2_numberThatRolls 25 = .ok (.if_icmp .lt 14, 3) := by decide +kernel
theorem dX2_numberThatRolls_28 : decode cX2_numberThatRolls 28 = .ok (.aload_n 2, 1) := by decide +kernel
theorem dX2_numberThatRolls_29 : decode cX2_numberThatRolls 29 = .ok (.aload_n 2, 1) := by decide +kernel
theorem dX2_numberThatRolls_30 : decode cX2_numberThatRolls 30 = .ok (.invokevirtual 135, 3) := by decide +kernel
theorem dX2_numberThatRolls_33 : decode cX2_numberThatRolls 33 = .ok (.invokevirtual 124, 3) := by decide +kernel
theorem dX2_numberThatRolls_36 : decode cX2_numberThatRolls 36 = .ok (.goto 5, 3) := by decide +kernel
theorem dX2_numberThatRolls_39 : decode cX2_numberThatRolls 39 = .ok (.bipush (-6), 2) := by decide +kernel
theorem dX2_numberThatRolls_41 : decode cX2_numberThatRolls 41 = .ok (.ireturn, 1) := by decide +kernel
set_option maxRecDepth 20000 in
theorem ggX2_newestIfFailed_X2_isGroup : GoodIn wsX2_newestIfFailed wsX2_isGroup := goodIn_r _ [7] (by decide +kernel) (by decide +kernel)
set_option maxRecDepth 20000 in
theorem gX2_newestIfFailed_X2_isGroup : GoodIn wsX2_newestIfFailed (wsV RX2 42 RX2 yX2_isGroup wsX2_isGroup) := goodIn_app (goodIn_of _ (by decide +kernel)) ggX2_newestIfFailed_X2_isGroup
set_option maxRecDepth 20000 in
theorem ggX2_newestIfFailed_X2_hasNewestOfJob : GoodIn wsX2_newestIfFailed wsX2_hasNewestOfJob := goodIn_r _ [11, 12, 13, 38, 39, 40, 41, 42, 43, 44, 45, 46, 47, 48, 49, 50, 51, 52, 53, 54] (by decide +kernel) (by decide +kernel)
set_option maxRecDepth 20000 in
theorem gX2_newestIfFailed_X2_hasNewestOfJob : GoodIn wsX2_newestIfFailed (wsV RX2 59 RX2 yX2_hasNewestOfJob wsX2_hasNewestOfJob) := goodIn_app (goodIn_of _ (by decide +kernel)) ggX2_newestIfFailed_X2_hasNewestOfJob
set_option maxRecDepth 20000 in
theorem ggX2_newestIfFailed_X0_numberIfThere : GoodIn wsX2_newestIfFailed wsX0_numberIfThere := goodIn_r _ [18, 19, 20, 21, 17, 22, 23, 24, 25, 26, 27, 28, 29, 30, 31, 32, 33, 34, 35, 36, 37, 45, 46, 47, 48, 49, 50, 51, 52, 53, 54] (by decide +kernel) (by decide +kernel)
set_option maxRecDepth 20000 in
theorem gX2_newestIfFailed_X0_numberIfThere : GoodIn wsX2_newestIfFailed (wsV RX2 124 RX0 yX0_numberIfThere wsX0_numberIfThere) := goodIn_app (goodIn_of _ (by decide +kernel)) ggX2_newestIfFailed_X0_numberIfThere
theorem dX2_newestIfFailed_0 : decode cX2_newestIfFailed 0 = .ok (.aload_n 0, 1) := by decide +kernel
theorem dX2_newestIfFailed_1 : decode cX2_newestIfFailed 1 = .ok (.iload_n 1, 1) := by decide +kernel
theorem dX2_newestIfFailed_2 : decode cX2_newestIfFailed 2 = .ok (.invokevirtual 42, 3) := by decide +kernel
theorem dX2_newestIfFailed_5 : decode cX2_newestIfFailed 5 = .ok (.ifCond .ne 5, 3) := by decide +kernel
theorem dX2_newestIfFailed_8 : decode cX2_newestIfFailed 8 = .ok (.iconst (-1), 1) := by decide +kernel
theorem dX2_newestIfFailed_9 : decode cX2_newestIfFailed 9 = .ok (.ireturn, 1) := by decide +kernel
theorem dX2_newestIfFailed_10 : decode cX2_newestIfFailed 10 = .ok (.aload_n 0, 1) := by decide +kernel
theorem dX2_newestIfFailed_11 : decode cX2_newestIfFailed 11 = .ok (.getfield 11, 3) := by decide +kernel
theorem dX2_newestIfFailed_14 : decode cX2_newestIfFailed 14 = .ok (.iload_n 1, 1) := by decide +kernel
theorem dX2_newestIfFailed_15 : decode cX2_newestIfFailed 15 = .ok (.aaload, 1) := by decide +kernel
theorem dX2_newestIfFailed_16 : decode cX2_newestIfFailed 16 = .ok (.astore_n 2, 1) := by decide +kernel
theorem dX2_newestIfFailed_17 : decode cX2_newestIfFailed 17 = .ok (.aload_n 0, 1) := by decide +kernel
theorem dX2_newestIfFailed_18 : decode cX2_newestIfFailed 18 = .ok (.aload_n 2, 1) := by decide +kernel
theorem dX2_newestIfFailed_19 : decode cX2_newestIfFailed 19 = .ok (.invokevirtual 59, 3) := by decide +kernel
theorem dX2_newestIfFailed_22 : decode cX2_newestIfFailed 22 = .ok (.ifCond .eq 8, 3) := by decide +kernel
theorem dX2_newestIfFailed_25 : decode cX2_newestIfFailed 25 = .ok (.bipush (-6), 2) := by decide +kernel
theorem dX2_newestIfFailed_27 : decode cX2_newestIfFailed 27 = .ok (.goto 11, 3) := by decide +kernel
theorem dX2_newestIfFailed_30 : decode cX2_newestIfFailed 30 = .ok (.aload_n 2, 1) := by decide +kernel
theorem dX2_newestIfFailed_31 : decode cX2_newestIfFailed 31 = .ok (.aload_n 2, 1) := by decide +kernel
theorem dX2_newestIfFailed_32 : decode cX2_newestIfFailed 32 = .ok (.getfield 87, 3) := by decide +kernel
theorem dX2_newestIfFailed_35 : decode cX2_newestIfFailed 35 = .ok (.invokevirtual 124, 3) := by decide +kernel
theorem dX2_newestIfFailed_38 : decode cX2_newestIfFailed 38 = .ok (.ireturn, 1) := by decide +kernel
set_option maxRecDepth 20000 in
theorem ggX2_leastKeepOf_X2_isGroup : GoodIn wsX2_leastKeepOf wsX2_isGroup := goodIn_r _ [11] (by decide +kernel) (by decide +kernel)
set_option maxRecDepth 20000 in
theorem gX2_leastKeepOf_X2_isGroup : GoodIn wsX2_leastKeepOf (wsV RX2 42 RX2 yX2_isGroup wsX2_isGroup) := goodIn_app (goodIn_of _ (by decide +kernel)) ggX2_leastKeepOf_X2_isGroup
theorem dX2_leastKeepOf_0 : decode cX2_leastKeepOf 0 = .ok (.aload_n 0, 1) := by decide +kernel
theorem dX2_leastKeepOf_1 : decode cX2_leastKeepOf 1 = .ok (.iload_n 1, 1) := by decide +kernel
theorem dX2_leastKeepOf_2 : decode cX2_leastKeepOf 2 = .ok (.invokevirtual 42, 3) := by decide +kernel
theorem dX2_leastKeepOf_5 : decode cX2_leastKeepOf 5 = .ok (.ifCond .ne 5, 3) := by decide +kernel
theorem dX2_leastKeepOf_8 : decode cX2_leastKeepOf 8 = .ok (.iconst (-1), 1) := by decide +kernel
theorem dX2_leastKeepOf_9 : decode cX2_leastKeepOf 9 = .ok (.ireturn, 1) := by decide +kernel
theorem dX2_leastKeepOf_10 : decode cX2_leastKeepOf 10 = .ok (.iconst 1, 1) := by decide +kernel
theorem dX2_leastKeepOf_11 : decode cX2_leastKeepOf 11 = .ok (.aload_n 0, 1) := by decide +kernel
theorem dX2_leastKeepOf_12 : decode cX2_leastKeepOf 12 = .ok (.getfield 11, 3) := by decide +kernel
theorem dX2_leastKeepOf_15 : decode cX2_leastKeepOf 15 = .ok (.iload_n 1, 1) := by decide +kernel
theorem dX2_leastKeepOf_16 : decode cX2_leastKeepOf 16 = .ok (.aaload, 1) := by decide +kernel
theorem dX2_leastKeepOf_17 : decode cX2_leastKeepOf 17 = .ok (.getfield 100, 3) := by decide +kernel
theorem dX2_leastKeepOf_20 : decode cX2_leastKeepOf 20 = .ok (.invokestatic 138, 3) := by decide +kernel
theorem dX2_leastKeepOf_23 : decode cX2_leastKeepOf 23 = .ok (.ireturn, 1) := by decide +kernel
theorem dJ9_max_7cf53_0 : decode cJ9_max_7cf53 0 = .ok (.iload_n 0, 1) := by decide +kernel
theorem dJ9_max_7cf53_1 : decode cJ9_max_7cf53 1 = .ok (.iload_n 1, 1) := by decide +kernel
theorem dJ9_max_7cf53_2 : decode cJ9_max_7cf53 2 = .ok (.if_icmp .lt 7, 3) := by decide +kernel
theorem dJ9_max_7cf53_5 : decode cJ9_max_7cf53 5 = .ok (.iload_n 0, 1) := by decide +kernel
theorem dJ9_max_7cf53_6 : decode cJ9_max_7cf53 6 = .ok (.goto 4, 3) := by decide +kernel
theorem dJ9_max_7cf53_9 : decode cJ9_max_7cf53 9 = .ok (.iload_n 1, 1) := by decide +kernel
theorem dJ9_max_7cf53_10 : decode cJ9_max_7cf53 10 = .ok (.ireturn, 1) := by decide +kernel
