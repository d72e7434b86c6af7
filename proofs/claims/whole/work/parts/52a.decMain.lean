set_option maxRecDepth 20000 in
theorem ggX3_init_X2_init : GoodIn wsX3_init wsX2_init := goodIn_r _ [19, 20, 2, 3, 21, 22, 23, 24, 25, 26, 27, 28, 29, 30, 31, 32, 33, 34, 35, 36, 37, 38, 39, 40, 41, 42, 43, 44, 51, 52, 53, 54, 55, 56, 57, 66, 67, 68, 69, 70, 71, 72, 73, 74, 75] (by decide +kernel) (by decide +kernel)
set_option maxRecDepth 20000 in
theorem gX3_init_X2_init : GoodIn wsX3_init (wsX2_init) := ggX3_init_X2_init
set_option maxRecDepth 20000 in
theorem ggX3_init_X1_init : GoodIn wsX3_init wsX1_init := goodIn_r _ [46, 47, 2, 3, 48, 49, 50, 64, 65] (by decide +kernel) (by decide +kernel)
set_option maxRecDepth 20000 in
theorem gX3_init_X1_init_n33 : GoodIn wsX3_init (wsX1_init) := ggX3_init_X1_init
theorem dX3_init_0 : decode cX3_init 0 = .ok (.aload_n 0, 1) := by decide +kernel
theorem dX3_init_1 : decode cX3_init 1 = .ok (.invokespecial 3, 3) := by decide +kernel
theorem dX3_init_4 : decode cX3_init 4 = .ok (.aload_n 0, 1) := by decide +kernel
theorem dX3_init_5 : decode cX3_init 5 = .ok (.new 9, 3) := by decide +kernel
theorem dX3_init_8 : decode cX3_init 8 = .ok (.dup, 1) := by decide +kernel
theorem dX3_init_9 : decode cX3_init 9 = .ok (.invokespecial 11, 3) := by decide +kernel
theorem dX3_init_12 : decode cX3_init 12 = .ok (.putfield 12, 3) := by decide +kernel
theorem dX3_init_15 : decode cX3_init 15 = .ok (.aload_n 0, 1) := by decide +kernel
theorem dX3_init_16 : decode cX3_init 16 = .ok (.bipush 7, 2) := by decide +kernel
theorem dX3_init_18 : decode cX3_init 18 = .ok (.anewarray 9, 3) := by decide +kernel
theorem dX3_init_21 : decode cX3_init 21 = .ok (.putfield 16, 3) := by decide +kernel
theorem dX3_init_24 : decode cX3_init 24 = .ok (.aload_n 0, 1) := by decide +kernel
theorem dX3_init_25 : decode cX3_init 25 = .ok (.iconst 0, 1) := by decide +kernel
theorem dX3_init_26 : decode cX3_init 26 = .ok (.putfield 20, 3) := by decide +kernel
theorem dX3_init_29 : decode cX3_init 29 = .ok (.aload_n 0, 1) := by decide +kernel
theorem dX3_init_30 : decode cX3_init 30 = .ok (.iconst 2, 1) := by decide +kernel
theorem dX3_init_31 : decode cX3_init 31 = .ok (.anewarray 9, 3) := by decide +kernel
theorem dX3_init_34 : decode cX3_init 34 = .ok (.putfield 24, 3) := by decide +kernel
theorem dX3_init_37 : decode cX3_init 37 = .ok (.aload_n 0, 1) := by decide +kernel
theorem dX3_init_38 : decode cX3_init 38 = .ok (.iconst 2, 1) := by decide +kernel
theorem dX3_init_39 : decode cX3_init 39 = .ok (.newarray .boolean, 2) := by decide +kernel
theorem dX3_init_41 : decode cX3_init 41 = .ok (.putfield 27, 3) := by decide +kernel
theorem dX3_init_44 : decode cX3_init 44 = .ok (.aload_n 0, 1) := by decide +kernel
theorem dX3_init_45 : decode cX3_init 45 = .ok (.new 31, 3) := by decide +kernel
theorem dX3_init_48 : decode cX3_init 48 = .ok (.dup, 1) := by decide +kernel
theorem dX3_init_49 : decode cX3_init 49 = .ok (.invokespecial 33, 3) := by decide +kernel
theorem dX3_init_52 : decode cX3_init 52 = .ok (.putfield 34, 3) := by decide +kernel
theorem dX3_init_55 : decode cX3_init 55 = .ok (.iconst 0, 1) := by decide +kernel
theorem dX3_init_56 : decode cX3_init 56 = .ok (.istore_n 1, 1) := by decide +kernel
theorem dX3_init_57 : decode cX3_init 57 = .ok (.iload_n 1, 1) := by decide +kernel
theorem dX3_init_58 : decode cX3_init 58 = .ok (.aload_n 0, 1) := by decide +kernel
theorem dX3_init_59 : decode cX3_init 59 = .ok (.getfield 16, 3) := by decide +kernel
theorem dX3_init_62 : decode cX3_init 62 = .ok (.arraylength, 1) := by decide +kernel
theorem dX3_init_63 : decode cX3_init 63 = .ok (.if_icmp .ge 22, 3) := by decide +kernel
theorem dX3_init_66 : decode cX3_init 66 = .ok (.aload_n 0, 1) := by decide +kernel
theorem dX3_init_67 : decode cX3_init 67 = .ok (.getfield 16, 3) := by decide +kernel
theorem dX3_init_70 : decode cX3_init 70 = .ok (.iload_n 1, 1) := by decide +kernel
theorem dX3_init_71 : decode cX3_init 71 = .ok (.new 9, 3) := by decide +kernel
theorem dX3_init_74 : decode cX3_init 74 = .ok (.dup, 1) := by decide +kernel
theorem dX3_init_75 : decode cX3_init 75 = .ok (.invokespecial 11, 3) := by decide +kernel
theorem dX3_init_78 : decode cX3_init 78 = .ok (.aastore, 1) := by decide +kernel
theorem dX3_init_79 : decode cX3_init 79 = .ok (.iinc 1 1, 3) := by decide +kernel
theorem dX3_init_82 : decode cX3_init 82 = .ok (.goto (-25), 3) := by decide +kernel
theorem dX3_init_85 : decode cX3_init 85 = .ok (.iconst 0, 1) := by decide +kernel
theorem dX3_init_86 : decode cX3_init 86 = .ok (.istore_n 1, 1) := by decide +kernel
theorem dX3_init_87 : decode cX3_init 87 = .ok (.iload_n 1, 1) := by decide +kernel
theorem dX3_init_88 : decode cX3_init 88 = .ok (.aload_n 0, 1) := by decide +kernel
theorem dX3_init_89 : decode cX3_init 89 = .ok (.getfield 24, 3) := by decide +kernel
theorem dX3_init_92 : decode cX3_init 92 = .ok (.arraylength, 1) := by decide +kernel
theorem dX3_init_93 : decode cX3_init 93 = .ok (.if_icmp .ge 22, 3) := by decide +kernel
theorem dX3_init_96 : decode cX3_init 96 = .ok (.aload_n 0, 1) := by decide +kernel
theorem dX3_init_97 : decode cX3_init 97 = .ok (.getfield 24, 3) := by decide +kernel
theorem dX3_init_100 : decode cX3_init 100 = .ok (.iload_n 1, 1) := by decide +kernel
theorem dX3_init_101 : decode cX3_init 101 = .ok (.new 9, 3) := by decide +kernel
theorem dX3_init_104 : decode cX3_init 104 = .ok (.dup, 1) := by decide +kernel
theorem dX3_init_105 : decode cX3_init 105 = .ok (.invokespecial 11, 3) := by decide +kernel
theorem dX3_init_108 : decode cX3_init 108 = .ok (.aastore, 1) := by decide +kernel
theorem dX3_init_109 : decode cX3_init 109 = .ok (.iinc 1 1, 3) := by decide +kernel
theorem dX3_init_112 : decode cX3_init 112 = .ok (.goto (-25), 3) := by decide +kernel
theorem dX3_init_115 : decode cX3_init 115 = .ok (.return_, 1) := by decide +kernel
set_option maxRecDepth 20000 in
theorem ggX3_keep_X3_noteStateBefore : GoodIn wsX3_keep wsX3_noteStateBefore := goodIn_r _ [6, 7, 8, 1, 9, 10, 11, 12, 13, 14, 15, 16, 17, 18, 19, 20, 21, 22, 23, 24, 25, 26, 27, 28, 29, 30, 31, 32, 33, 34, 35, 36, 37, 38, 39, 72, 73, 74, 75, 76, 77, 78, 79, 80, 81, 82, 83, 84, 85, 86, 87, 88, 89, 90, 91, 92, 93, 94] (by decide +kernel) (by decide +kernel)
set_option maxRecDepth 20000 in
theorem gX3_keep_X3_noteStateBefore : GoodIn wsX3_keep (wsV RX3 38 RX3 yX3_noteStateBefore wsX3_noteStateBefore) := goodIn_app (goodIn_of _ (by decide +kernel)) ggX3_keep_X3_noteStateBefore
set_option maxRecDepth 20000 in
theorem ggX3_keep_X2_changeKeep : GoodIn wsX3_keep wsX2_changeKeep := goodIn_r _ [43, 14, 44, 45, 46, 47, 12, 48, 49, 50, 51, 24, 52, 28, 29, 53, 54, 55, 56, 27, 57, 58, 59, 60, 33, 78, 79, 80, 81, 82, 83, 84, 85, 86, 87, 88, 89, 90, 91, 92, 93, 94] (by decide +kernel) (by decide +kernel)
set_option maxRecDepth 20000 in
theorem gX3_keep_X2_changeKeep : GoodIn wsX3_keep (wsV RX3 41 RX2 yX2_changeKeep wsX2_changeKeep) := goodIn_app (goodIn_of _ (by decide +kernel)) ggX3_keep_X2_changeKeep
set_option maxRecDepth 20000 in
theorem ggX3_keep_X3_recorded : GoodIn wsX3_keep wsX3_recorded := goodIn_r _ [64, 8, 65, 66, 5, 67, 68, 69, 70, 71, 7, 72, 73, 74, 75, 76, 77] (by decide +kernel) (by decide +kernel)
set_option maxRecDepth 20000 in
theorem gX3_keep_X3_recorded : GoodIn wsX3_keep (wsV RX3 45 RX3 yX3_recorded wsX3_recorded) := goodIn_app (goodIn_of _ (by decide +kernel)) ggX3_keep_X3_recorded
theorem dX3_keep_0 : decode cX3_keep 0 = .ok (.aload_n 0, 1) := by decide +kernel
theorem dX3_keep_1 : decode cX3_keep 1 = .ok (.invokevirtual 38, 3) := by decide +kernel
theorem dX3_keep_4 : decode cX3_keep 4 = .ok (.aload_n 0, 1) := by decide +kernel
theorem dX3_keep_5 : decode cX3_keep 5 = .ok (.aload_n 0, 1) := by decide +kernel
theorem dX3_keep_6 : decode cX3_keep 6 = .ok (.getfield 12, 3) := by decide +kernel
theorem dX3_keep_9 : decode cX3_keep 9 = .ok (.iload_n 1, 1) := by decide +kernel
theorem dX3_keep_10 : decode cX3_keep 10 = .ok (.iload_n 2, 1) := by decide +kernel
theorem dX3_keep_11 : decode cX3_keep 11 = .ok (.invokevirtual 41, 3) := by decide +kernel
theorem dX3_keep_14 : decode cX3_keep 14 = .ok (.invokevirtual 45, 3) := by decide +kernel
theorem dX3_keep_17 : decode cX3_keep 17 = .ok (.ireturn, 1) := by decide +kernel
set_option maxRecDepth 20000 in
theorem ggX3_write_X3_noteStateBefore : GoodIn wsX3_write wsX3_noteStateBefore := goodIn_r _ [6, 7, 8, 1, 9, 10, 11, 12, 13, 14, 15, 16, 17, 18, 19, 20, 21, 22, 23, 24, 25, 26, 27, 28, 29, 30, 31, 32, 33, 34, 35, 36, 37, 38, 39, 97, 98, 99, 100, 101, 102, 103, 104, 105, 106, 107, 108, 109, 110, 111, 112, 113, 114, 115, 116, 117, 118, 119] (by decide +kernel) (by decide +kernel)
set_option maxRecDepth 20000 in
theorem gX3_write_X3_noteStateBefore : GoodIn wsX3_write (wsV RX3 38 RX3 yX3_noteStateBefore wsX3_noteStateBefore) := goodIn_app (goodIn_of _ (by decide +kernel)) ggX3_write_X3_noteStateBefore
set_option maxRecDepth 20000 in
theorem ggX3_write_X2_writeByName : GoodIn wsX3_write wsX2_writeByName := goodIn_r _ [43, 14, 16, 15, 44, 45, 46, 47, 12, 48, 49, 50, 51, 52, 53, 54, 55, 56, 57, 58, 59, 60, 24, 61, 26, 27, 28, 33, 38, 39, 32, 62, 63, 64, 65, 29, 66, 67, 68, 69, 70, 71, 72, 73, 74, 75, 76, 77, 78, 79, 80, 81, 31, 82, 83, 84, 85, 103, 104, 105, 106, 107, 108, 109, 110, 111, 112, 113, 114, 115, 116, 117, 118, 119] (by decide +kernel) (by decide +kernel)
set_option maxRecDepth 20000 in
theorem gX3_write_X2_writeByName : GoodIn wsX3_write (wsV RX3 49 RX2 yX2_writeByName wsX2_writeByName) := goodIn_app (goodIn_of _ (by decide +kernel)) ggX3_write_X2_writeByName
set_option maxRecDepth 20000 in
theorem ggX3_write_X3_recorded : GoodIn wsX3_write wsX3_recorded := goodIn_r _ [89, 8, 90, 91, 5, 92, 93, 94, 95, 96, 7, 97, 98, 99, 100, 101, 102] (by decide +kernel) (by decide +kernel)
set_option maxRecDepth 20000 in
theorem gX3_write_X3_recorded : GoodIn wsX3_write (wsV RX3 45 RX3 yX3_recorded wsX3_recorded) := goodIn_app (goodIn_of _ (by decide +kernel)) ggX3_write_X3_recorded
theorem dX3_write_0 : decode cX3_write 0 = .ok (.aload_n 0, 1) := by decide +kernel
theorem dX3_write_1 : decode cX3_write 1 = .ok (.invokevirtual 38, 3) := by decide +kernel
theorem dX3_write_4 : decode cX3_write 4 = .ok (.aload_n 0, 1) := by decide +kernel
theorem dX3_write_5 : decode cX3_write 5 = .ok (.aload_n 0, 1) := by decide +kernel
theorem dX3_write_6 : decode cX3_write 6 = .ok (.getfield 12, 3) := by decide +kernel
theorem dX3_write_9 : decode cX3_write 9 = .ok (.iload_n 1, 1) := by decide +kernel
theorem dX3_write_10 : decode cX3_write 10 = .ok (.iload_n 2, 1) := by decide +kernel
theorem dX3_write_11 : decode cX3_write 11 = .ok (.iload_n 3, 1) := by decide +kernel
theorem dX3_write_12 : decode cX3_write 12 = .ok (.invokevirtual 49, 3) := by decide +kernel
theorem dX3_write_15 : decode cX3_write 15 = .ok (.invokevirtual 45, 3) := by decide +kernel
theorem dX3_write_18 : decode cX3_write 18 = .ok (.ireturn, 1) := by decide +kernel
set_option maxRecDepth 20000 in
theorem ggX3_read_X3_noteStateBefore : GoodIn wsX3_read wsX3_noteStateBefore := goodIn_r _ [6, 7, 8, 1, 9, 10, 11, 12, 13, 14, 15, 16, 17, 18, 19, 20, 21, 22, 23, 24, 25, 26, 27, 28, 29, 30, 31, 32, 33, 34, 35, 36, 37, 38, 39, 81, 82, 83, 84, 85, 86, 87, 88, 89, 90, 91, 92, 93, 94, 95, 96, 97, 98, 99, 100, 101, 102, 103] (by decide +kernel) (by decide +kernel)
set_option maxRecDepth 20000 in
theorem gX3_read_X3_noteStateBefore : GoodIn wsX3_read (wsV RX3 38 RX3 yX3_noteStateBefore wsX3_noteStateBefore) := goodIn_app (goodIn_of _ (by decide +kernel)) ggX3_read_X3_noteStateBefore
set_option maxRecDepth 20000 in
theorem ggX3_read_X2_readByName : GoodIn wsX3_read wsX2_readByName := goodIn_r _ [43, 14, 16, 19, 20, 44, 45, 46, 47, 48, 12, 49, 50, 51, 52, 53, 54, 55, 56, 24, 57, 32, 31, 27, 58, 59, 60, 61, 62, 63, 64, 65, 28, 66, 67, 68, 69, 33, 87, 88, 89, 90, 91, 92, 93, 94, 95, 96, 97, 98, 99, 100, 101, 102, 103] (by decide +kernel) (by decide +kernel)
set_option maxRecDepth 20000 in
theorem gX3_read_X2_readByName : GoodIn wsX3_read (wsV RX3 53 RX2 yX2_readByName wsX2_readByName) := goodIn_app (goodIn_of _ (by decide +kernel)) ggX3_read_X2_readByName
set_option maxRecDepth 20000 in
theorem ggX3_read_X3_recorded : GoodIn wsX3_read wsX3_recorded := goodIn_r _ [73, 8, 74, 75, 5, 76, 77, 78, 79, 80, 7, 81, 82, 83, 84, 85, 86] (by decide +kernel) (by decide +kernel)
set_option maxRecDepth 20000 in
theorem gX3_read_X3_recorded : GoodIn wsX3_read (wsV RX3 45 RX3 yX3_recorded wsX3_recorded) := goodIn_app (goodIn_of _ (by decide +kernel)) ggX3_read_X3_recorded
theorem dX3_read_0 : decode cX3_read 0 = .ok (.aload_n 0, 1) := by decide +kernel
theorem dX3_read_1 : decode cX3_read 1 = .ok (.invokevirtual 38, 3) := by decide +kernel
theorem dX3_read_4 : decode cX3_read 4 = .ok (.aload_n 0, 1) := by decide +kernel
theorem dX3_read_5 : decode cX3_read 5 = .ok (.aload_n 0, 1) := by decide +kernel
theorem dX3_read_6 : decode cX3_read 6 = .ok (.getfield 12, 3) := by decide +kernel
theorem dX3_read_9 : decode cX3_read 9 = .ok (.iload_n 1, 1) := by decide +kernel
theorem dX3_read_10 : decode cX3_read 10 = .ok (.iload_n 2, 1) := by decide +kernel
theorem dX3_read_11 : decode cX3_read 11 = .ok (.invokevirtual 53, 3) := by decide +kernel
theorem dX3_read_14 : decode cX3_read 14 = .ok (.invokevirtual 45, 3) := by decide +kernel
theorem dX3_read_17 : decode cX3_read 17 = .ok (.ireturn, 1) := by decide +kernel
set_option maxRecDepth 20000 in
theorem ggX3_delete_X3_noteStateBefore : GoodIn wsX3_delete wsX3_noteStateBefore := goodIn_r _ [6, 7, 8, 1, 9, 10, 11, 12, 13, 14, 15, 16, 17, 18, 19, 20, 21, 22, 23, 24, 25, 26, 27, 28, 29, 30, 31, 32, 33, 34, 35, 36, 37, 38, 39, 91, 92, 93, 94, 95, 96, 97, 98, 99, 100, 101, 102, 103, 104, 105, 106, 107, 108, 109, 110, 111, 112, 113] (by decide +kernel) (by decide +kernel)
set_option maxRecDepth 20000 in
theorem gX3_delete_X3_noteStateBefore : GoodIn wsX3_delete (wsV RX3 38 RX3 yX3_noteStateBefore wsX3_noteStateBefore) := goodIn_app (goodIn_of _ (by decide +kernel)) ggX3_delete_X3_noteStateBefore
set_option maxRecDepth 20000 in
theorem ggX3_delete_X2_deleteByName : GoodIn wsX3_delete wsX2_deleteByName := goodIn_r _ [43, 14, 16, 44, 45, 46, 12, 47, 48, 49, 50, 51, 52, 53, 54, 24, 55, 32, 31, 27, 56, 57, 58, 59, 60, 61, 62, 63, 28, 64, 65, 66, 67, 33, 68, 69, 70, 71, 30, 26, 72, 73, 74, 75, 29, 76, 77, 78, 79, 97, 98, 99, 100, 101, 102, 103, 104, 105, 106, 107, 108, 109, 110, 111, 112, 113] (by decide +kernel) (by decide +kernel)
set_option maxRecDepth 20000 in
theorem gX3_delete_X2_deleteByName : GoodIn wsX3_delete (wsV RX3 56 RX2 yX2_deleteByName wsX2_deleteByName) := goodIn_app (goodIn_of _ (by decide +kernel)) ggX3_delete_X2_deleteByName
set_option maxRecDepth 20000 in
theorem ggX3_delete_X3_recorded : GoodIn wsX3_delete wsX3_recorded := goodIn_r _ [83, 8, 84, 85, 5, 86, 87, 88, 89, 90, 7, 91, 92, 93, 94, 95, 96] (by decide +kernel) (by decide +kernel)
set_option maxRecDepth 20000 in
theorem gX3_delete_X3_recorded : GoodIn wsX3_delete (wsV RX3 45 RX3 yX3_recorded wsX3_recorded) := goodIn_app (goodIn_of _ (by decide +kernel)) ggX3_delete_X3_recorded
theorem dX3_delete_0 : decode cX3_delete 0 = .ok (.aload_n 0, 1) := by decide +kernel
theorem dX3_delete_1 : decode cX3_delete 1 = .ok (.invokevirtual 38, 3) := by decide +kernel
theorem dX3_delete_4 : decode cX3_delete 4 = .ok (.aload_n 0, 1) := by decide +kernel
theorem dX3_delete_5 : decode cX3_delete 5 = .ok (.aload_n 0, 1) := by decide +kernel
theorem dX3_delete_6 : decode cX3_delete 6 = .ok (.getfield 12, 3) := by decide +kernel
theorem dX3_delete_9 : decode cX3_delete 9 = .ok (.iload_n 1, 1) := by decide +kernel
theorem dX3_delete_10 : decode cX3_delete 10 = .ok (.iload_n 2, 1) := by decide +kernel
theorem dX3_delete_11 : decode cX3_delete 11 = .ok (.invokevirtual 56, 3) := by decide +kernel
theorem dX3_delete_14 : decode cX3_delete 14 = .ok (.invokevirtual 45, 3) := by decide +kernel
theorem dX3_delete_17 : decode cX3_delete 17 = .ok (.ireturn, 1) := by decide +kernel
set_option maxRecDepth 20000 in
theorem ggX3_begin_X3_noteStateBefore : GoodIn wsX3_begin wsX3_noteStateBefore := goodIn_r _ [6, 7, 8, 1, 9, 10, 11, 12, 13, 14, 15, 16, 17, 18, 19, 20, 21, 22, 23, 24, 25, 26, 27, 28, 29, 30, 31, 32, 33, 34, 35, 36, 37, 38, 39, 62, 63, 64, 65, 66, 67, 68, 69, 70, 71, 72, 73, 74, 75, 76, 77, 78, 79, 80, 81, 82, 83, 84] (by decide +kernel) (by decide +kernel)
set_option maxRecDepth 20000 in
theorem gX3_begin_X3_noteStateBefore : GoodIn wsX3_begin (wsV RX3 38 RX3 yX3_noteStateBefore wsX3_noteStateBefore) := goodIn_app (goodIn_of _ (by decide +kernel)) ggX3_begin_X3_noteStateBefore
set_option maxRecDepth 20000 in
theorem ggX3_begin_X2_beginJob : GoodIn wsX3_begin wsX2_beginJob := goodIn_r _ [43, 16, 14, 44, 45, 46, 47, 48, 12, 49, 50, 15, 68, 69, 70, 71, 72, 73, 74, 75, 76, 77, 78, 79, 80, 81, 82, 83, 84] (by decide +kernel) (by decide +kernel)
set_option maxRecDepth 20000 in
theorem gX3_begin_X2_beginJob : GoodIn wsX3_begin (wsV RX3 59 RX2 yX2_beginJob wsX2_beginJob) := goodIn_app (goodIn_of _ (by decide +kernel)) ggX3_begin_X2_beginJob
set_option maxRecDepth 20000 in
theorem ggX3_begin_X3_recorded : GoodIn wsX3_begin wsX3_recorded := goodIn_r _ [54, 8, 55, 56, 5, 57, 58, 59, 60, 61, 7, 62, 63, 64, 65, 66, 67] (by decide +kernel) (by decide +kernel)
set_option maxRecDepth 20000 in
theorem gX3_begin_X3_recorded : GoodIn wsX3_begin (wsV RX3 45 RX3 yX3_recorded wsX3_recorded) := goodIn_app (goodIn_of _ (by decide +kernel)) ggX3_begin_X3_recorded
theorem dX3_begin_0 : decode cX3_begin 0 = .ok (.aload_n 0, 1) := by decide +kernel
theorem dX3_begin_1 : decode cX3_begin 1 = .ok (.invokevirtual 38, 3) := by decide +kernel
theorem dX3_begin_4 : decode cX3_begin 4 = .ok (.aload_n 0, 1) := by decide +kernel
theorem dX3_begin_5 : decode cX3_begin 5 = .ok (.aload_n 0, 1) := by decide +kernel
theorem dX3_begin_6 : decode cX3_begin 6 = .ok (.getfield 12, 3) := by decide +kernel
theorem dX3_begin_9 : decode cX3_begin 9 = .ok (.invokevirtual 59, 3) := by decide +kernel
theorem dX3_begin_12 : decode cX3_begin 12 = .ok (.invokevirtual 45, 3) := by decide +kernel
theorem dX3_begin_15 : decode cX3_begin 15 = .ok (.ireturn, 1) := by decide +kernel
set_option maxRecDepth 20000 in
theorem ggX3_end_X3_noteStateBefore : GoodIn wsX3_end wsX3_noteStateBefore := goodIn_r _ [6, 7, 8, 1, 9, 10, 11, 12, 13, 14, 15, 16, 17, 18, 19, 20, 21, 22, 23, 24, 25, 26, 27, 28, 29, 30, 31, 32, 33, 34, 35, 36, 37, 38, 39, 80, 81, 82, 83, 84, 85, 86, 87, 88, 89, 90, 91, 92, 93, 94, 95, 96, 97, 98, 99, 100, 101, 102] (by decide +kernel) (by decide +kernel)
set_option maxRecDepth 20000 in
theorem gX3_end_X3_noteStateBefore : GoodIn wsX3_end (wsV RX3 38 RX3 yX3_noteStateBefore wsX3_noteStateBefore) := goodIn_app (goodIn_of _ (by decide +kernel)) ggX3_end_X3_noteStateBefore
set_option maxRecDepth 20000 in
theorem ggX3_end_X2_endJob : GoodIn wsX3_end wsX2_endJob := goodIn_r _ [43, 16, 17, 18, 14, 44, 45, 46, 47, 24, 48, 27, 49, 50, 51, 52, 28, 53, 54, 55, 56, 33, 57, 58, 59, 60, 30, 26, 61, 62, 63, 64, 29, 65, 66, 67, 12, 68, 86, 87, 88, 89, 90, 91, 92, 93, 94, 95, 96, 97, 98, 99, 100, 101, 102] (by decide +kernel) (by decide +kernel)
set_option maxRecDepth 20000 in
theorem gX3_end_X2_endJob : GoodIn wsX3_end (wsV RX3 63 RX2 yX2_endJob wsX2_endJob) := goodIn_app (goodIn_of _ (by decide +kernel)) ggX3_end_X2_endJob
set_option maxRecDepth 20000 in
theorem ggX3_end_X3_recorded : GoodIn wsX3_end wsX3_recorded := goodIn_r _ [72, 8, 73, 74, 5, 75, 76, 77, 78, 79, 7, 80, 81, 82, 83, 84, 85] (by decide +kernel) (by decide +kernel)
set_option maxRecDepth 20000 in
theorem gX3_end_X3_recorded : GoodIn wsX3_end (wsV RX3 45 RX3 yX3_recorded wsX3_recorded) := goodIn_app (goodIn_of _ (by decide +kernel)) ggX3_end_X3_recorded
theorem dX3_end_0 : decode cX3_end 0 = .ok (.aload_n 0, 1) := by decide +kernel
theorem dX3_end_1 : decode cX3_end 1 = .ok (.invokevirtual 38, 3) := by decide +kernel
theorem dX3_end_4 : decode cX3_end 4 = .ok (.aload_n 0, 1) := by decide +kernel
theorem dX3_end_5 : decode cX3_end 5 = .ok (.aload_n 0, 1) := by decide +kernel
theorem dX3_end_6 : decode cX3_end 6 = .ok (.getfield 12, 3) := by decide +kernel
theorem dX3_end_9 : decode cX3_end 9 = .ok (.iload_n 1, 1) := by decide +kernel
theorem dX3_end_10 : decode cX3_end 10 = .ok (.invokevirtual 63, 3) := by decide +kernel
theorem dX3_end_13 : decode cX3_end 13 = .ok (.invokevirtual 45, 3) := by decide +kernel
theorem dX3_end_16 : decode cX3_end 16 = .ok (.ireturn, 1) := by decide +kernel
set_option maxRecDepth 20000 in
theorem ggX3_again_X3_noteStateBefore : GoodIn wsX3_again wsX3_noteStateBefore := goodIn_r _ [6, 7, 8, 1, 9, 10, 11, 12, 13, 14, 15, 16, 17, 18, 19, 20, 21, 22, 23, 24, 25, 26, 27, 28, 29, 30, 31, 32, 33, 34, 35, 36, 37, 38, 39, 60, 61, 62, 63, 64, 65, 66, 67, 68, 69, 70, 71, 72, 73, 74, 75, 76, 77, 78, 79, 80, 81, 82] (by decide +kernel) (by decide +kernel)
set_option maxRecDepth 20000 in
theorem gX3_again_X3_noteStateBefore : GoodIn wsX3_again (wsV RX3 38 RX3 yX3_noteStateBefore wsX3_noteStateBefore) := goodIn_app (goodIn_of _ (by decide +kernel)) ggX3_again_X3_noteStateBefore
set_option maxRecDepth 20000 in
theorem ggX3_again_X2_repeatJob : GoodIn wsX3_again wsX2_repeatJob := goodIn_r _ [43, 16, 17, 44, 45, 46, 12, 47, 14, 48, 15, 66, 67, 68, 69, 70, 71, 72, 73, 74, 75, 76, 77, 78, 79, 80, 81, 82] (by decide +kernel) (by decide +kernel)
set_option maxRecDepth 20000 in
theorem gX3_again_X2_repeatJob : GoodIn wsX3_again (wsV RX3 66 RX2 yX2_repeatJob wsX2_repeatJob) := goodIn_app (goodIn_of _ (by decide +kernel)) ggX3_again_X2_repeatJob
set_option maxRecDepth 20000 in
theorem ggX3_again_X3_recorded : GoodIn wsX3_again wsX3_recorded := goodIn_r _ [52, 8, 53, 54, 5, 55, 56, 57, 58, 59, 7, 60, 61, 62, 63, 64, 65] (by decide +kernel) (by decide +kernel)
set_option maxRecDepth 20000 in
theorem gX3_again_X3_recorded : GoodIn wsX3_again (wsV RX3 45 RX3 yX3_recorded wsX3_recorded) := goodIn_app (goodIn_of _ (by decide +kernel)) ggX3_again_X3_recorded
theorem dX3_again_0 : decode cX3_again 0 = .ok (.aload_n 0, 1) := by decide +kernel
theorem dX3_again_1 : decode cX3_again 1 = .ok (.invokevirtual 38, 3) := by decide +kernel
theorem dX3_again_4 : decode cX3_again 4 = .ok (.aload_n 0, 1) := by decide +kernel
theorem dX3_again_5 : decode cX3_again 5 = .ok (.aload_n 0, 1) := by decide +kernel
theorem dX3_again_6 : decode cX3_again 6 = .ok (.getfield 12, 3) := by decide +kernel
theorem dX3_again_9 : decode cX3_again 9 = .ok (.invokevirtual 66, 3) := by decide +kernel
theorem dX3_again_12 : decode cX3_again 12 = .ok (.invokevirtual 45, 3) := by decide +kernel
theorem dX3_again_15 : decode cX3_again 15 = .ok (.ireturn, 1) := by decide +kernel
set_option maxRecDepth 20000 in
theorem ggX3_ofGroup_X2_aboutGroup : GoodIn wsX3_ofGroup wsX2_aboutGroup := goodIn_r _ [6, 7, 8, 9, 10, 11, 12, 13, 14, 15, 5, 16, 17, 18, 19, 20, 21, 22, 23, 24, 25, 26, 27, 28, 29, 30, 31, 32, 33, 34, 35, 36, 43, 44, 45, 46, 47, 48, 49, 50, 51, 52, 53, 54, 55, 56, 57, 58, 59] (by decide +kernel) (by decide +kernel)
set_option maxRecDepth 20000 in
theorem gX3_ofGroup_X2_aboutGroup : GoodIn wsX3_ofGroup (wsV RX3 69 RX2 yX2_aboutGroup wsX2_aboutGroup) := goodIn_app (goodIn_of _ (by decide +kernel)) ggX3_ofGroup_X2_aboutGroup
theorem dX3_ofGroup_0 : decode cX3_ofGroup 0 = .ok (.aload_n 0, 1) := by decide +kernel
theorem dX3_ofGroup_1 : decode cX3_ofGroup 1 = .ok (.getfield 12, 3) := by decide +kernel
theorem dX3_ofGroup_4 : decode cX3_ofGroup 4 = .ok (.iload_n 1, 1) := by decide +kernel
theorem dX3_ofGroup_5 : decode cX3_ofGroup 5 = .ok (.iload_n 2, 1) := by decide +kernel
theorem dX3_ofGroup_6 : decode cX3_ofGroup 6 = .ok (.invokevirtual 69, 3) := by decide +kernel
theorem dX3_ofGroup_9 : decode cX3_ofGroup 9 = .ok (.ireturn, 1) := by decide +kernel
set_option maxRecDepth 20000 in
theorem ggX3_generation_X2_aboutGeneration : GoodIn wsX3_generation wsX2_aboutGeneration := goodIn_r _ [6, 7, 8, 9, 10, 11, 12, 13, 14, 15, 16, 5, 17, 18, 19, 20, 21, 22, 23, 24, 25, 26, 27, 28, 29, 30, 31, 32, 33, 40, 41, 42, 43, 44, 45, 46, 47, 48, 49, 50, 51, 52, 53, 54, 55, 56] (by decide +kernel) (by decide +kernel)
set_option maxRecDepth 20000 in
theorem gX3_generation_X2_aboutGeneration : GoodIn wsX3_generation (wsV RX3 72 RX2 yX2_aboutGeneration wsX2_aboutGeneration) := goodIn_app (goodIn_of _ (by decide +kernel)) ggX3_generation_X2_aboutGeneration
theorem dX3_generation_0 : decode cX3_generation 0 = .ok (.aload_n 0, 1) := by decide +kernel
theorem dX3_generation_1 : decode cX3_generation 1 = .ok (.getfield 12, 3) := by decide +kernel
theorem dX3_generation_4 : decode cX3_generation 4 = .ok (.iload_n 1, 1) := by decide +kernel
theorem dX3_generation_5 : decode cX3_generation 5 = .ok (.iload_n 2, 1) := by decide +kernel
theorem dX3_generation_6 : decode cX3_generation 6 = .ok (.iload_n 3, 1) := by decide +kernel
theorem dX3_generation_7 : decode cX3_generation 7 = .ok (.invokevirtual 72, 3) := by decide +kernel
theorem dX3_generation_10 : decode cX3_generation 10 = .ok (.ireturn, 1) := by decide +kernel
set_option maxRecDepth 20000 in
theorem ggX3_named_X2_numberByName : GoodIn wsX3_named wsX2_numberByName := goodIn_r _ [6, 7, 8, 9, 10, 11, 5, 12, 13, 14, 15, 16, 17, 18, 19, 20, 21, 22, 23, 24, 25, 26, 27, 28, 29, 30, 31, 32, 33, 34, 35, 36, 37, 38, 39, 40, 41, 42, 43, 44, 45, 46, 53, 54, 55, 56, 57, 58, 59, 60, 61, 62, 63, 64, 65, 66, 67, 68, 69] (by decide +kernel) (by decide +kernel)
set_option maxRecDepth 20000 in
theorem gX3_named_X2_numberByName : GoodIn wsX3_named (wsV RX3 75 RX2 yX2_numberByName wsX2_numberByName) := goodIn_app (goodIn_of _ (by decide +kernel)) ggX3_named_X2_numberByName
theorem dX3_named_0 : decode cX3_named 0 = .ok (.aload_n 0, 1) := by decide +kernel
theorem dX3_named_1 : decode cX3_named 1 = .ok (.getfield 12, 3) := by decide +kernel
theorem dX3_named_4 : decode cX3_named 4 = .ok (.iload_n 1, 1) := by decide +kernel
theorem dX3_named_5 : decode cX3_named 5 = .ok (.iload_n 2, 1) := by decide +kernel
theorem dX3_named_6 : decode cX3_named 6 = .ok (.invokevirtual 75, 3) := by decide +kernel
theorem dX3_named_9 : decode cX3_named 9 = .ok (.ireturn, 1) := by decide +kernel
set_option maxRecDepth 20000 in
theorem ggX3_count_X1_size : GoodIn wsX3_count wsX1_size := goodIn_r _ [8, 9, 61, 62] (by decide +kernel) (by decide +kernel)
set_option maxRecDepth 20000 in
theorem gX3_count_X1_size : GoodIn wsX3_count (wsV RX3 78 RX1 yX1_size wsX1_size) := goodIn_app (goodIn_of _ (by decide +kernel)) ggX3_count_X1_size
set_option maxRecDepth 20000 in
theorem ggX3_count_X2_counted : GoodIn wsX3_count wsX2_counted := goodIn_r _ [14, 15, 16, 17, 18, 19, 20, 21, 22, 13, 23, 24, 25, 26, 27, 28, 29, 30, 31, 32, 33, 34, 35, 36, 37, 38, 39, 40, 41, 42, 43, 44, 45, 46, 47, 48, 49, 50, 51, 52, 53, 54, 63, 64, 65, 66, 67, 68, 69, 70, 71, 72, 73, 74, 75, 76, 77, 78, 79] (by decide +kernel) (by decide +kernel)
set_option maxRecDepth 20000 in
theorem gX3_count_X2_counted : GoodIn wsX3_count (wsV RX3 81 RX2 yX2_counted wsX2_counted) := goodIn_app (goodIn_of _ (by decide +kernel)) ggX3_count_X2_counted
theorem dX3_count_0 : decode cX3_count 0 = .ok (.iload_n 1, 1) := by decide +kernel
theorem dX3_count_1 : decode cX3_count 1 = .ok (.bipush 8, 2) := by decide +kernel
theorem dX3_count_3 : decode cX3_count 3 = .ok (.if_icmp .ne 11, 3) := by decide +kernel
theorem dX3_count_6 : decode cX3_count 6 = .ok (.aload_n 0, 1) := by decide +kernel
theorem dX3_count_7 : decode cX3_count 7 = .ok (.getfield 34, 3) := by decide +kernel
theorem dX3_count_10 : decode cX3_count 10 = .ok (.invokevirtual 78, 3) := by decide +kernel
theorem dX3_count_13 : decode cX3_count 13 = .ok (.ireturn, 1) := by decide +kernel
theorem dX3_count_14 : decode cX3_count 14 = .ok (.iload_n 1, 1) := by decide +kernel
theorem dX3_count_15 : decode cX3_count 15 = .ok (.bipush 9, 2) := by decide +kernel
theorem dX3_count_17 : decode cX3_count 17 = .ok (.if_icmp .ne 8, 3) := by decide +kernel
theorem dX3_count_20 : decode cX3_count 20 = .ok (.aload_n 0, 1) := by decide +kernel
theorem dX3_count_21 : decode cX3_count 21 = .ok (.getfield 20, 3) := by decide +kernel
theorem dX3_count_24 : decode cX3_count 24 = .ok (.ireturn, 1) := by decide +kernel
theorem dX3_count_25 : decode cX3_count 25 = .ok (.aload_n 0, 1) := by decide +kernel
theorem dX3_count_26 : decode cX3_count 26 = .ok (.getfield 12, 3) := by decide +kernel
theorem dX3_count_29 : decode cX3_count 29 = .ok (.iload_n 1, 1) := by decide +kernel
theorem dX3_count_30 : decode cX3_count 30 = .ok (.invokevirtual 81, 3) := by decide +kernel
theorem dX3_count_33 : decode cX3_count 33 = .ok (.ireturn, 1) := by decide +kernel
set_option maxRecDepth 20000 in
theorem ggX3_groups_X2_groupsThatAre : GoodIn wsX3_groups wsX2_groupsThatAre := goodIn_r _ [6, 7, 8, 9, 10, 5, 11, 12, 13, 14, 15, 16, 17, 18, 19, 20, 21, 22, 23, 24, 25, 26, 27, 28, 29, 30, 31, 32, 33, 34, 35, 36, 37, 38, 39, 40, 41, 42, 43, 44, 51, 52, 53, 54, 55, 56, 57, 58, 59, 60, 61, 62, 63, 64, 65, 66, 67] (by decide +kernel) (by decide +kernel)
set_option maxRecDepth 20000 in
theorem gX3_groups_X2_groupsThatAre : GoodIn wsX3_groups (wsV RX3 84 RX2 yX2_groupsThatAre wsX2_groupsThatAre) := goodIn_app (goodIn_of _ (by decide +kernel)) ggX3_groups_X2_groupsThatAre
theorem dX3_groups_0 : decode cX3_groups 0 = .ok (.aload_n 0, 1) := by decide +kernel
theorem dX3_groups_1 : decode cX3_groups 1 = .ok (.getfield 12, 3) := by decide +kernel
theorem dX3_groups_4 : decode cX3_groups 4 = .ok (.iload_n 1, 1) := by decide +kernel
theorem dX3_groups_5 : decode cX3_groups 5 = .ok (.invokevirtual 84, 3) := by decide +kernel
theorem dX3_groups_8 : decode cX3_groups 8 = .ok (.ireturn, 1) := by decide +kernel
set_option maxRecDepth 20000 in
theorem ggX3_rolls_X2_numberThatRolls : GoodIn wsX3_rolls wsX2_numberThatRolls := goodIn_r _ [6, 7, 8, 9, 10, 11, 12, 5, 13, 14, 15, 16, 17, 18, 19, 20, 21, 22, 23, 24, 25, 26, 27, 28, 29, 30, 31, 32, 33, 34, 35, 36, 37, 38, 45, 46, 47, 48, 49, 50, 51, 52, 53, 54, 55, 56, 57, 58, 59, 60, 61] (by decide +kernel) (by decide +kernel)
set_option maxRecDepth 20000 in
theorem gX3_rolls_X2_numberThatRolls : GoodIn wsX3_rolls (wsV RX3 87 RX2 yX2_numberThatRolls wsX2_numberThatRolls) := goodIn_app (goodIn_of _ (by decide +kernel)) ggX3_rolls_X2_numberThatRolls
theorem dX3_rolls_0 : decode cX3_rolls 0 = .ok (.aload_n 0, 1) := by decide +kernel
theorem dX3_rolls_1 : decode cX3_rolls 1 = .ok (.getfield 12, 3) := by decide +kernel
theorem dX3_rolls_4 : decode cX3_rolls 4 = .ok (.iload_n 1, 1) := by decide +kernel
theorem dX3_rolls_5 : decode cX3_rolls 5 = .ok (.invokevirtual 87, 3) := by decide +kernel
theorem dX3_rolls_8 : decode cX3_rolls 8 = .ok (.ireturn, 1) := by decide +kernel
set_option maxRecDepth 20000 in
theorem ggX3_ifFailed_X2_newestIfFailed : GoodIn wsX3_ifFailed wsX2_newestIfFailed := goodIn_r _ [6, 7, 8, 9, 10, 11, 5, 12, 13, 14, 15, 16, 17, 18, 19, 20, 21, 22, 23, 24, 25, 26, 27, 28, 29, 30, 31, 32, 33, 34, 35, 36, 37, 38, 39, 40, 41, 42, 49, 50, 51, 52, 53, 54, 55, 56, 57, 58, 59, 60, 61, 62, 63, 64, 65] (by decide +kernel) (by decide +kernel)
set_option maxRecDepth 20000 in
theorem gX3_ifFailed_X2_newestIfFailed : GoodIn wsX3_ifFailed (wsV RX3 90 RX2 yX2_newestIfFailed wsX2_newestIfFailed) := goodIn_app (goodIn_of _ (by decide +kernel)) ggX3_ifFailed_X2_newestIfFailed
theorem dX3_ifFailed_0 : decode cX3_ifFailed 0 = .ok (.aload_n 0, 1) := by decide +kernel
theorem dX3_ifFailed_1 : decode cX3_ifFailed 1 = .ok (.getfield 12, 3) := by decide +kernel
theorem dX3_ifFailed_4 : decode cX3_ifFailed 4 = .ok (.iload_n 1, 1) := by decide +kernel
theorem dX3_ifFailed_5 : decode cX3_ifFailed 5 = .ok (.invokevirtual 90, 3) := by decide +kernel
theorem dX3_ifFailed_8 : decode cX3_ifFailed 8 = .ok (.ireturn, 1) := by decide +kernel
set_option maxRecDepth 20000 in
theorem ggX3_leastKeep_X2_leastKeepOf : GoodIn wsX3_leastKeep wsX2_leastKeepOf := goodIn_r _ [6, 7, 8, 9, 10, 11, 12, 13, 14, 15, 5, 16, 23, 24, 25, 26, 27, 28, 29, 30, 31, 32, 33, 34, 35, 36, 37, 38, 39] (by decide +kernel) (by decide +kernel)
set_option maxRecDepth 20000 in
theorem gX3_leastKeep_X2_leastKeepOf : GoodIn wsX3_leastKeep (wsV RX3 93 RX2 yX2_leastKeepOf wsX2_leastKeepOf) := goodIn_app (goodIn_of _ (by decide +kernel)) ggX3_leastKeep_X2_leastKeepOf
theorem dX3_leastKeep_0 : decode cX3_leastKeep 0 = .ok (.aload_n 0, 1) := by decide +kernel
theorem dX3_leastKeep_1 : decode cX3_leastKeep 1 = .ok (.getfield 12, 3) := by decide +kernel
theorem dX3_leastKeep_4 : decode cX3_leastKeep 4 = .ok (.iload_n 1, 1) := by decide +kernel
theorem dX3_leastKeep_5 : decode cX3_leastKeep 5 = .ok (.invokevirtual 93, 3) := by decide +kernel
theorem dX3_leastKeep_8 : decode cX3_leastKeep 8 = .ok (.ireturn, 1) := by decide +kernel
set_option maxRecDepth 20000 in
theorem ggX3_put_X1_append : GoodIn wsX3_put wsX1_append := goodIn_r _ [6, 7, 8, 9, 10, 11, 12, 5, 13, 14, 15, 22, 23] (by decide +kernel) (by decide +kernel)
set_option maxRecDepth 20000 in
theorem gX3_put_X1_append : GoodIn wsX3_put (wsV RX3 96 RX1 yX1_append wsX1_append) := goodIn_app (goodIn_of _ (by decide +kernel)) ggX3_put_X1_append
theorem dX3_put_0 : decode cX3_put 0 = .ok (.aload_n 0, 1) := by decide +kernel
theorem dX3_put_1 : decode cX3_put 1 = .ok (.getfield 34, 3) := by decide +kernel
theorem dX3_put_4 : decode cX3_put 4 = .ok (.lload_n 1, 1) := by decide +kernel
theorem dX3_put_5 : decode cX3_put 5 = .ok (.invokevirtual 96, 3) := by decide +kernel
theorem dX3_put_8 : decode cX3_put 8 = .ok (.ireturn, 1) := by decide +kernel
set_option maxRecDepth 20000 in
theorem ggX3_wipe_X1_empty : GoodIn wsX3_wipe wsX1_empty := goodIn_r _ [6, 7, 14, 15] (by decide +kernel) (by decide +kernel)
set_option maxRecDepth 20000 in
theorem gX3_wipe_X1_empty : GoodIn wsX3_wipe (wsV RX3 100 RX1 yX1_empty wsX1_empty) := goodIn_app (goodIn_of _ (by decide +kernel)) ggX3_wipe_X1_empty
theorem dX3_wipe_0 : decode cX3_wipe 0 = .ok (.aload_n 0, 1) := by decide +kernel
theorem dX3_wipe_1 : decode cX3_wipe 1 = .ok (.getfield 34, 3) := by decide +kernel
theorem dX3_wipe_4 : decode cX3_wipe 4 = .ok (.invokevirtual 100, 3) := by decide +kernel
theorem dX3_wipe_7 : decode cX3_wipe 7 = .ok (.ireturn, 1) := by decide +kernel
set_option maxRecDepth 20000 in
theorem ggX3_fault_X1_findFault : GoodIn wsX3_fault wsX1_findFault := goodIn_r _ [6, 7, 8, 9, 10, 11, 5, 12, 13, 14, 15, 16, 17, 18, 19, 20, 21, 22, 23, 24, 25, 26, 27, 28, 35, 36] (by decide +kernel) (by decide +kernel)
set_option maxRecDepth 20000 in
theorem gX3_fault_X1_findFault : GoodIn wsX3_fault (wsV RX3 103 RX1 yX1_findFault wsX1_findFault) := goodIn_app (goodIn_of _ (by decide +kernel)) ggX3_fault_X1_findFault
theorem dX3_fault_0 : decode cX3_fault 0 = .ok (.aload_n 0, 1) := by decide +kernel
theorem dX3_fault_1 : decode cX3_fault 1 = .ok (.getfield 34, 3) := by decide +kernel
theorem dX3_fault_4 : decode cX3_fault 4 = .ok (.invokevirtual 103, 3) := by decide +kernel
theorem dX3_fault_7 : decode cX3_fault 7 = .ok (.ireturn, 1) := by decide +kernel
set_option maxRecDepth 20000 in
theorem ggX3_carryOut_X1_findFault : GoodIn wsX3_carryOut wsX1_findFault := goodIn_r _ [6, 7, 8, 9, 10, 11, 5, 12, 13, 14, 15, 16, 17, 18, 19, 20, 21, 22, 23, 24, 25, 26, 27, 28, 203, 204] (by decide +kernel) (by decide +kernel)
set_option maxRecDepth 20000 in
theorem gX3_carryOut_X1_findFault : GoodIn wsX3_carryOut (wsV RX3 103 RX1 yX1_findFault wsX1_findFault) := goodIn_app (goodIn_of _ (by decide +kernel)) ggX3_carryOut_X1_findFault
set_option maxRecDepth 20000 in
theorem ggX3_carryOut_X3_noteStateBefore : GoodIn wsX3_carryOut wsX3_noteStateBefore := goodIn_r _ [33, 34, 35, 36, 37, 38, 39, 40, 41, 42, 43, 44, 45, 46, 47, 48, 49, 50, 51, 52, 53, 54, 55, 56, 57, 58, 59, 60, 61, 62, 63, 64, 65, 66, 67, 197, 198, 199, 200, 201, 202, 205, 206, 207, 208, 209, 210, 211, 212, 213, 214, 215, 216, 217, 218, 219, 220, 221] (by decide +kernel) (by decide +kernel)
set_option maxRecDepth 20000 in
theorem gX3_carryOut_X3_noteStateBefore : GoodIn wsX3_carryOut (wsV RX3 38 RX3 yX3_noteStateBefore wsX3_noteStateBefore) := goodIn_app (goodIn_of _ (by decide +kernel)) ggX3_carryOut_X3_noteStateBefore
set_option maxRecDepth 20000 in
theorem ggX3_carryOut_X3_carryOutOrders : GoodIn wsX3_carryOut wsX3_carryOutOrders := goodIn_r _ [71, 1, 72, 73, 74, 5, 75, 7, 76, 77, 78, 79, 80, 81, 82, 83, 8, 84, 85, 86, 32, 87, 36, 88, 89, 90, 91, 40, 92, 44, 42, 93, 94, 95, 96, 97, 98, 99, 43, 100, 101, 102, 103, 45, 46, 104, 105, 106, 52, 107, 55, 108, 109, 110, 111, 56, 112, 113, 114, 115, 61, 116, 117, 118, 119, 58, 54, 120, 121, 122, 123, 57, 124, 125, 126, 127, 128, 129, 130, 131, 132, 133, 134, 135, 136, 137, 138, 139, 140, 141, 142, 143, 21, 22, 23, 24, 144, 145, 146, 147, 148, 149, 150, 151, 152, 153, 154, 155, 156, 157, 158, 159, 160, 161, 162, 163, 164, 66, 67, 60, 165, 166, 167, 168, 169, 170, 171, 172, 59, 173, 174, 175, 176, 47, 48, 177, 178, 179, 180, 181, 182, 183, 184, 197, 198, 199, 200, 201, 202, 203, 204, 205, 206, 207, 208, 209, 210, 211, 212, 213, 214, 215, 216, 217, 218, 219, 220, 221] (by decide +kernel) (by decide +kernel)
set_option maxRecDepth 20000 in
theorem gX3_carryOut_X3_carryOutOrders : GoodIn wsX3_carryOut (wsV RX3 106 RX3 yX3_carryOutOrders wsX3_carryOutOrders) := goodIn_app (goodIn_of _ (by decide +kernel)) ggX3_carryOut_X3_carryOutOrders
set_option maxRecDepth 20000 in
theorem ggX3_carryOut_X1_empty : GoodIn wsX3_carryOut wsX1_empty := goodIn_r _ [188, 7, 203, 204] (by decide +kernel) (by decide +kernel)
set_option maxRecDepth 20000 in
theorem gX3_carryOut_X1_empty : GoodIn wsX3_carryOut (wsV RX3 100 RX1 yX1_empty wsX1_empty) := goodIn_app (goodIn_of _ (by decide +kernel)) ggX3_carryOut_X1_empty
set_option maxRecDepth 20000 in
theorem ggX3_carryOut_X3_recorded : GoodIn wsX3_carryOut wsX3_recorded := goodIn_r _ [192, 35, 182, 183, 32, 184, 193, 194, 195, 196, 34, 197, 198, 199, 200, 201, 202] (by decide +kernel) (by decide +kernel)
set_option maxRecDepth 20000 in
theorem gX3_carryOut_X3_recorded : GoodIn wsX3_carryOut (wsV RX3 45 RX3 yX3_recorded wsX3_recorded) := goodIn_app (goodIn_of _ (by decide +kernel)) ggX3_carryOut_X3_recorded
theorem dX3_carryOut_0 : decode cX3_carryOut 0 = .ok (.aload_n 0, 1) := by decide +kernel
theorem dX3_carryOut_1 : decode cX3_carryOut 1 = .ok (.getfield 34, 3) := by decide +kernel
theorem dX3_carryOut_4 : decode cX3_carryOut 4 = .ok (.invokevirtual 103, 3) := by decide +kernel
theorem dX3_carryOut_7 : decode cX3_carryOut 7 = .ok (.bipush (-6), 2) := by decide +kernel
theorem dX3_carryOut_9 : decode cX3_carryOut 9 = .ok (.if_icmp .eq 6, 3) := by decide +kernel
theorem dX3_carryOut_12 : decode cX3_carryOut 12 = .ok (.bipush (-3), 2) := by decide +kernel
theorem dX3_carryOut_14 : decode cX3_carryOut 14 = .ok (.ireturn, 1) := by decide +kernel
theorem dX3_carryOut_15 : decode cX3_carryOut 15 = .ok (.aload_n 0, 1) := by decide +kernel
theorem dX3_carryOut_16 : decode cX3_carryOut 16 = .ok (.invokevirtual 38, 3) := by decide +kernel
theorem dX3_carryOut_19 : decode cX3_carryOut 19 = .ok (.aload_n 0, 1) := by decide +kernel
theorem dX3_carryOut_20 : decode cX3_carryOut 20 = .ok (.invokevirtual 106, 3) := by decide +kernel
theorem dX3_carryOut_23 : decode cX3_carryOut 23 = .ok (.istore_n 1, 1) := by decide +kernel
theorem dX3_carryOut_24 : decode cX3_carryOut 24 = .ok (.aload_n 0, 1) := by decide +kernel
theorem dX3_carryOut_25 : decode cX3_carryOut 25 = .ok (.getfield 34, 3) := by decide +kernel
theorem dX3_carryOut_28 : decode cX3_carryOut 28 = .ok (.invokevirtual 100, 3) := by decide +kernel
theorem dX3_carryOut_31 : decode cX3_carryOut 31 = .ok (.pop, 1) := by decide +kernel
theorem dX3_carryOut_32 : decode cX3_carryOut 32 = .ok (.aload_n 0, 1) := by decide +kernel
theorem dX3_carryOut_33 : decode cX3_carryOut 33 = .ok (.iload_n 1, 1) := by decide +kernel
theorem dX3_carryOut_34 : decode cX3_carryOut 34 = .ok (.invokevirtual 45, 3) := by decide +kernel
theorem dX3_carryOut_37 : decode cX3_carryOut 37 = .ok (.ireturn, 1) := by decide +kernel
set_option maxRecDepth 20000 in
theorem ggX3_undo_X2_copyFrom : GoodIn wsX3_undo wsX2_copyFrom := goodIn_r _ [8, 9, 10, 11, 12, 13, 14, 15, 16, 17, 18, 19, 20, 21, 22, 23, 24, 25, 26, 27, 28, 29, 30, 31, 32, 33, 34, 41, 42, 43, 44, 45, 46, 47, 48, 49, 50, 51, 52, 53, 54, 55, 56, 57] (by decide +kernel) (by decide +kernel)
set_option maxRecDepth 20000 in
theorem gX3_undo_X2_copyFrom : GoodIn wsX3_undo (wsV RX3 109 RX2 yX2_copyFrom wsX2_copyFrom) := goodIn_app (goodIn_of _ (by decide +kernel)) ggX3_undo_X2_copyFrom
theorem dX3_undo_0 : decode cX3_undo 0 = .ok (.aload_n 0, 1) := by decide +kernel
theorem dX3_undo_1 : decode cX3_undo 1 = .ok (.getfield 20, 3) := by decide +kernel
theorem dX3_undo_4 : decode cX3_undo 4 = .ok (.iconst 1, 1) := by decide +kernel
theorem dX3_undo_5 : decode cX3_undo 5 = .ok (.if_icmp .ge 6, 3) := by decide +kernel
theorem dX3_undo_8 : decode cX3_undo 8 = .ok (.bipush (-5), 2) := by decide +kernel
theorem dX3_undo_10 : decode cX3_undo 10 = .ok (.ireturn, 1) := by decide +kernel
theorem dX3_undo_11 : decode cX3_undo 11 = .ok (.aload_n 0, 1) := by decide +kernel
theorem dX3_undo_12 : decode cX3_undo 12 = .ok (.dup, 1) := by decide +kernel
theorem dX3_undo_13 : decode cX3_undo 13 = .ok (.getfield 20, 3) := by decide +kernel
theorem dX3_undo_16 : decode cX3_undo 16 = .ok (.iconst 1, 1) := by decide +kernel
theorem dX3_undo_17 : decode cX3_undo 17 = .ok (.isub, 1) := by decide +kernel
theorem dX3_undo_18 : decode cX3_undo 18 = .ok (.putfield 20, 3) := by decide +kernel
theorem dX3_undo_21 : decode cX3_undo 21 = .ok (.aload_n 0, 1) := by decide +kernel
theorem dX3_undo_22 : decode cX3_undo 22 = .ok (.getfield 12, 3) := by decide +kernel
theorem dX3_undo_25 : decode cX3_undo 25 = .ok (.aload_n 0, 1) := by decide +kernel
theorem dX3_undo_26 : decode cX3_undo 26 = .ok (.getfield 16, 3) := by decide +kernel
theorem dX3_undo_29 : decode cX3_undo 29 = .ok (.aload_n 0, 1) := by decide +kernel
theorem dX3_undo_30 : decode cX3_undo 30 = .ok (.getfield 20, 3) := by decide +kernel
theorem dX3_undo_33 : decode cX3_undo 33 = .ok (.aaload, 1) := by decide +kernel
theorem dX3_undo_34 : decode cX3_undo 34 = .ok (.invokevirtual 109, 3) := by decide +kernel
theorem dX3_undo_37 : decode cX3_undo 37 = .ok (.aload_n 0, 1) := by decide +kernel
theorem dX3_undo_38 : decode cX3_undo 38 = .ok (.getfield 20, 3) := by decide +kernel
theorem dX3_undo_41 : decode cX3_undo 41 = .ok (.ireturn, 1) := by decide +kernel
set_option maxRecDepth 20000 in
theorem ggX3_save_X3_isSlot : GoodIn wsX3_save wsX3_isSlot := goodIn_r _ [7] (by decide +kernel) (by decide +kernel)
set_option maxRecDepth 20000 in
theorem gX3_save_X3_isSlot : GoodIn wsX3_save (va_wsS RX3 113 yX3_isSlot wsX3_isSlot) := goodIn_app (goodIn_of _ (by decide +kernel)) ggX3_save_X3_isSlot
set_option maxRecDepth 20000 in
theorem ggX3_save_X2_copyFrom : GoodIn wsX3_save wsX2_copyFrom := goodIn_r _ [12, 13, 14, 15, 16, 17, 18, 19, 20, 21, 22, 23, 24, 25, 26, 27, 28, 29, 30, 31, 32, 33, 34, 35, 36, 37, 38, 58, 59, 60, 61, 62, 63, 64, 65, 66, 67, 68, 69, 70, 71, 72, 73, 74] (by decide +kernel) (by decide +kernel)
set_option maxRecDepth 20000 in
theorem gX3_save_X2_copyFrom : GoodIn wsX3_save (wsV RX3 109 RX2 yX2_copyFrom wsX2_copyFrom) := goodIn_app (goodIn_of _ (by decide +kernel)) ggX3_save_X2_copyFrom
set_option maxRecDepth 20000 in
theorem ggX3_save_X2_countThere : GoodIn wsX3_save wsX2_countThere := goodIn_r _ [42, 13, 43, 44, 45, 46, 23, 47, 27, 26, 48, 49, 50, 51, 32, 58, 59, 60, 61, 62, 63, 64, 65, 66, 67, 68, 69, 70, 71, 72, 73, 74] (by decide +kernel) (by decide +kernel)
set_option maxRecDepth 20000 in
theorem gX3_save_X2_countThere : GoodIn wsX3_save (wsV RX3 117 RX2 yX2_countThere wsX2_countThere) := goodIn_app (goodIn_of _ (by decide +kernel)) ggX3_save_X2_countThere
theorem dX3_save_0 : decode cX3_save 0 = .ok (.iload_n 1, 1) := by decide +kernel
theorem dX3_save_1 : decode cX3_save 1 = .ok (.invokestatic 113, 3) := by decide +kernel
theorem dX3_save_4 : decode cX3_save 4 = .ok (.ifCond .ne 6, 3) := by decide +kernel
theorem dX3_save_7 : decode cX3_save 7 = .ok (.bipush (-2), 2) := by decide +kernel
theorem dX3_save_9 : decode cX3_save 9 = .ok (.ireturn, 1) := by decide +kernel
theorem dX3_save_10 : decode cX3_save 10 = .ok (.aload_n 0, 1) := by decide +kernel
theorem dX3_save_11 : decode cX3_save 11 = .ok (.getfield 24, 3) := by decide +kernel
theorem dX3_save_14 : decode cX3_save 14 = .ok (.iload_n 1, 1) := by decide +kernel
theorem dX3_save_15 : decode cX3_save 15 = .ok (.aaload, 1) := by decide +kernel
theorem dX3_save_16 : decode cX3_save 16 = .ok (.aload_n 0, 1) := by decide +kernel
theorem dX3_save_17 : decode cX3_save 17 = .ok (.getfield 12, 3) := by decide +kernel
theorem dX3_save_20 : decode cX3_save 20 = .ok (.invokevirtual 109, 3) := by decide +kernel
theorem dX3_save_23 : decode cX3_save 23 = .ok (.aload_n 0, 1) := by decide +kernel
theorem dX3_save_24 : decode cX3_save 24 = .ok (.getfield 27, 3) := by decide +kernel
theorem dX3_save_27 : decode cX3_save 27 = .ok (.iload_n 1, 1) := by decide +kernel
theorem dX3_save_28 : decode cX3_save 28 = .ok (.iconst 1, 1) := by decide +kernel
theorem dX3_save_29 : decode cX3_save 29 = .ok (.bastore, 1) := by decide +kernel
theorem dX3_save_30 : decode cX3_save 30 = .ok (.aload_n 0, 1) := by decide +kernel
theorem dX3_save_31 : decode cX3_save 31 = .ok (.getfield 12, 3) := by decide +kernel
theorem dX3_save_34 : decode cX3_save 34 = .ok (.invokevirtual 117, 3) := by decide +kernel
theorem dX3_save_37 : decode cX3_save 37 = .ok (.ireturn, 1) := by decide +kernel
set_option maxRecDepth 20000 in
theorem ggX3_restore_X3_isSlot : GoodIn wsX3_restore wsX3_isSlot := goodIn_r _ [7] (by decide +kernel) (by decide +kernel)
set_option maxRecDepth 20000 in
theorem gX3_restore_X3_isSlot : GoodIn wsX3_restore (va_wsS RX3 113 yX3_isSlot wsX3_isSlot) := goodIn_app (goodIn_of _ (by decide +kernel)) ggX3_restore_X3_isSlot
set_option maxRecDepth 20000 in
theorem ggX3_restore_X3_noteStateBefore : GoodIn wsX3_restore wsX3_noteStateBefore := goodIn_r _ [11, 12, 13, 2, 14, 15, 16, 17, 18, 19, 20, 21, 22, 23, 24, 25, 26, 27, 28, 29, 30, 31, 32, 33, 34, 35, 36, 37, 38, 39, 40, 41, 42, 43, 44, 69, 70, 71, 72, 73, 74, 75, 76, 77, 78, 79, 80, 81, 82, 83, 84, 85, 86, 87, 88, 89, 90, 91] (by decide +kernel) (by decide +kernel)
set_option maxRecDepth 20000 in
theorem gX3_restore_X3_noteStateBefore : GoodIn wsX3_restore (wsV RX3 38 RX3 yX3_noteStateBefore wsX3_noteStateBefore) := goodIn_app (goodIn_of _ (by decide +kernel)) ggX3_restore_X3_noteStateBefore
set_option maxRecDepth 20000 in
theorem ggX3_restore_X2_copyFrom : GoodIn wsX3_restore wsX2_copyFrom := goodIn_r _ [18, 19, 20, 21, 22, 23, 24, 25, 26, 27, 28, 29, 30, 31, 32, 33, 34, 35, 36, 37, 38, 39, 40, 41, 42, 43, 44, 75, 76, 77, 78, 79, 80, 81, 82, 83, 84, 85, 86, 87, 88, 89, 90, 91] (by decide +kernel) (by decide +kernel)
set_option maxRecDepth 20000 in
theorem gX3_restore_X2_copyFrom : GoodIn wsX3_restore (wsV RX3 109 RX2 yX2_copyFrom wsX2_copyFrom) := goodIn_app (goodIn_of _ (by decide +kernel)) ggX3_restore_X2_copyFrom
set_option maxRecDepth 20000 in
theorem ggX3_restore_X2_countThere : GoodIn wsX3_restore wsX2_countThere := goodIn_r _ [48, 19, 49, 50, 51, 52, 29, 53, 33, 32, 54, 55, 56, 57, 38, 75, 76, 77, 78, 79, 80, 81, 82, 83, 84, 85, 86, 87, 88, 89, 90, 91] (by decide +kernel) (by decide +kernel)
set_option maxRecDepth 20000 in
theorem gX3_restore_X2_countThere : GoodIn wsX3_restore (wsV RX3 117 RX2 yX2_countThere wsX2_countThere) := goodIn_app (goodIn_of _ (by decide +kernel)) ggX3_restore_X2_countThere
set_option maxRecDepth 20000 in
theorem ggX3_restore_X3_recorded : GoodIn wsX3_restore wsX3_recorded := goodIn_r _ [61, 13, 62, 63, 6, 64, 65, 66, 67, 68, 12, 69, 70, 71, 72, 73, 74] (by decide +kernel) (by decide +kernel)
set_option maxRecDepth 20000 in
theorem gX3_restore_X3_recorded : GoodIn wsX3_restore (wsV RX3 45 RX3 yX3_recorded wsX3_recorded) := goodIn_app (goodIn_of _ (by decide +kernel)) ggX3_restore_X3_recorded
theorem dX3_restore_0 : decode cX3_restore 0 = .ok (.iload_n 1, 1) := by decide +kernel
theorem dX3_restore_1 : decode cX3_restore 1 = .ok (.invokestatic 113, 3) := by decide +kernel
theorem dX3_restore_4 : decode cX3_restore 4 = .ok (.ifCond .ne 6, 3) := by decide +kernel
theorem dX3_restore_7 : decode cX3_restore 7 = .ok (.bipush (-2), 2) := by decide +kernel
theorem dX3_restore_9 : decode cX3_restore 9 = .ok (.ireturn, 1) := by decide +kernel
theorem dX3_restore_10 : decode cX3_restore 10 = .ok (.aload_n 0, 1) := by decide +kernel
theorem dX3_restore_11 : decode cX3_restore 11 = .ok (.getfield 27, 3) := by decide +kernel
theorem dX3_restore_14 : decode cX3_restore 14 = .ok (.iload_n 1, 1) := by decide +kernel
theorem dX3_restore_15 : decode cX3_restore 15 = .ok (.baload, 1) := by decide +kernel
theorem dX3_restore_16 : decode cX3_restore 16 = .ok (.ifCond .ne 6, 3) := by decide +kernel
theorem dX3_restore_19 : decode cX3_restore 19 = .ok (.bipush (-5), 2) := by decide +kernel
theorem dX3_restore_21 : decode cX3_restore 21 = .ok (.ireturn, 1) := by decide +kernel
theorem dX3_restore_22 : decode cX3_restore 22 = .ok (.aload_n 0, 1) := by decide +kernel
theorem dX3_restore_23 : decode cX3_restore 23 = .ok (.invokevirtual 38, 3) := by decide +kernel
theorem dX3_restore_26 : decode cX3_restore 26 = .ok (.aload_n 0, 1) := by decide +kernel
theorem dX3_restore_27 : decode cX3_restore 27 = .ok (.getfield 12, 3) := by decide +kernel
theorem dX3_restore_30 : decode cX3_restore 30 = .ok (.aload_n 0, 1) := by decide +kernel
theorem dX3_restore_31 : decode cX3_restore 31 = .ok (.getfield 24, 3) := by decide +kernel
theorem dX3_restore_34 : decode cX3_restore 34 = .ok (.iload_n 1, 1) := by decide +kernel
theorem dX3_restore_35 : decode cX3_restore 35 = .ok (.aaload, 1) := by decide +kernel
theorem dX3_restore_36 : decode cX3_restore 36 = .ok (.invokevirtual 109, 3) := by decide +kernel
theorem dX3_restore_39 : decode cX3_restore 39 = .ok (.aload_n 0, 1) := by decide +kernel
theorem dX3_restore_40 : decode cX3_restore 40 = .ok (.aload_n 0, 1) := by decide +kernel
theorem dX3_restore_41 : decode cX3_restore 41 = .ok (.getfield 12, 3) := by decide +kernel
theorem dX3_restore_44 : decode cX3_restore 44 = .ok (.invokevirtual 117, 3) := by decide +kernel
theorem dX3_restore_47 : decode cX3_restore 47 = .ok (.invokevirtual 45, 3) := by decide +kernel
theorem dX3_restore_50 : decode cX3_restore 50 = .ok (.ireturn, 1) := by decide +kernel
theorem dX3_isSlot_0 : decode cX3_isSlot 0 = .ok (.iload_n 0, 1) := by decide +kernel
theorem dX3_isSlot_1 : decode cX3_isSlot 1 = .ok (.ifCond .lt 12, 3) := by decide +kernel
theorem dX3_isSlot_4 : decode cX3_isSlot 4 = .ok (.iload_n 0, 1) := by decide +kernel
theorem dX3_isSlot_5 : decode cX3_isSlot 5 = .ok (.iconst 2, 1) := by decide +kernel
theorem dX3_isSlot_6 : decode cX3_isSlot 6 = .ok (.if_icmp .ge 7, 3) := by decide +kernel
theorem dX3_isSlot_9 : decode cX3_isSlot 9 = .ok (.iconst 1, 1) := by decide +kernel
theorem dX3_isSlot_10 : decode cX3_isSlot 10 = .ok (.goto 4, 3) := by decide +kernel
theorem dX3_isSlot_13 : decode cX3_isSlot 13 = .ok (.iconst 0, 1) := by decide +kernel
theorem dX3_isSlot_14 : decode cX3_isSlot 14 = .ok (.ireturn, 1) := by decide +kernel
theorem dX3_isError_0 : decode cX3_isError 0 = .ok (.iload_n 0, 1) := by decide +kernel
theorem dX3_isError_1 : decode cX3_isError 1 = .ok (.ifCond .ge 13, 3) := by decide +kernel
theorem dX3_isError_4 : decode cX3_isError 4 = .ok (.iload_n 0, 1) := by decide +kernel
theorem dX3_isError_5 : decode cX3_isError 5 = .ok (.bipush (-6), 2) := by decide +kernel
theorem dX3_isError_7 : decode cX3_isError 7 = .ok (.if_icmp .eq 7, 3) := by decide +kernel
theorem dX3_isError_10 : decode cX3_isError 10 = .ok (.iconst 1, 1) := by decide +kernel
theorem dX3_isError_11 : decode cX3_isError 11 = .ok (.goto 4, 3) := by decide +kernel
theorem dX3_isError_14 : decode cX3_isError 14 = .ok (.iconst 0, 1) := by decide +kernel
theorem dX3_isError_15 : decode cX3_isError 15 = .ok (.ireturn, 1) := by decide +kernel
set_option maxRecDepth 20000 in
theorem ggX3_noteStateBefore_X2_copyFrom : GoodIn wsX3_noteStateBefore wsX2_copyFrom := goodIn_r _ [8, 9, 10, 11, 12, 13, 14, 15, 16, 17, 18, 19, 20, 21, 22, 23, 24, 25, 26, 27, 28, 29, 30, 31, 32, 33, 34, 41, 42, 43, 44, 45, 46, 47, 48, 49, 50, 51, 52, 53, 54, 55, 56, 57] (by decide +kernel) (by decide +kernel)
set_option maxRecDepth 20000 in
theorem gX3_noteStateBefore_X2_copyFrom : GoodIn wsX3_noteStateBefore (wsV RX3 109 RX2 yX2_copyFrom wsX2_copyFrom) := goodIn_app (goodIn_of _ (by decide +kernel)) ggX3_noteStateBefore_X2_copyFrom
theorem dX3_noteStateBefore_0 : decode cX3_noteStateBefore 0 = .ok (.aload_n 0, 1) := by decide +kernel
theorem dX3_noteStateBefore_1 : decode cX3_noteStateBefore 1 = .ok (.getfield 16, 3) := by decide +kernel
theorem dX3_noteStateBefore_4 : decode cX3_noteStateBefore 4 = .ok (.aload_n 0, 1) := by decide +kernel
theorem dX3_noteStateBefore_5 : decode cX3_noteStateBefore 5 = .ok (.getfield 20, 3) := by decide +kernel
theorem dX3_noteStateBefore_8 : decode cX3_noteStateBefore 8 = .ok (.aaload, 1) := by decide +kernel
theorem dX3_noteStateBefore_9 : decode cX3_noteStateBefore 9 = .ok (.aload_n 0, 1) := by decide +kernel
theorem dX3_noteStateBefore_10 : decode cX3_noteStateBefore 10 = .ok (.getfield 12, 3) := by decide +kernel
theorem dX3_noteStateBefore_13 : decode cX3_noteStateBefore 13 = .ok (.invokevirtual 109, 3) := by decide +kernel
theorem dX3_noteStateBefore_16 : decode cX3_noteStateBefore 16 = .ok (.return_, 1) := by decide +kernel
set_option maxRecDepth 20000 in
theorem ggX3_recorded_X3_isError : GoodIn wsX3_recorded wsX3_isError := goodIn_r _ [5] (by decide +kernel) (by decide +kernel)
set_option maxRecDepth 20000 in
theorem gX3_recorded_X3_isError : GoodIn wsX3_recorded (va_wsS RX3 120 yX3_isError wsX3_isError) := goodIn_app (goodIn_of _ (by decide +kernel)) ggX3_recorded_X3_isError
set_option maxRecDepth 20000 in
theorem ggX3_recorded_X3_dropOldestState : GoodIn wsX3_recorded wsX3_dropOldestState := goodIn_r _ [9, 10, 11, 12, 13, 14, 15, 16] (by decide +kernel) (by decide +kernel)
set_option maxRecDepth 20000 in
theorem gX3_recorded_X3_dropOldestState : GoodIn wsX3_recorded (wsV RX3 123 RX3 yX3_dropOldestState wsX3_dropOldestState) := goodIn_app (goodIn_of _ (by decide +kernel)) ggX3_recorded_X3_dropOldestState
theorem dX3_recorded_0 : decode cX3_recorded 0 = .ok (.iload_n 1, 1) := by decide +kernel
theorem dX3_recorded_1 : decode cX3_recorded 1 = .ok (.invokestatic 120, 3) := by decide +kernel
theorem dX3_recorded_4 : decode cX3_recorded 4 = .ok (.ifCond .eq 5, 3) := by decide +kernel
theorem dX3_recorded_7 : decode cX3_recorded 7 = .ok (.iload_n 1, 1) := by decide +kernel
theorem dX3_recorded_8 : decode cX3_recorded 8 = .ok (.ireturn, 1) := by decide +kernel
theorem dX3_recorded_9 : decode cX3_recorded 9 = .ok (.aload_n 0, 1) := by decide +kernel
theorem dX3_recorded_10 : decode cX3_recorded 10 = .ok (.getfield 20, 3) := by decide +kernel
theorem dX3_recorded_13 : decode cX3_recorded 13 = .ok (.bipush 6, 2) := by decide +kernel
theorem dX3_recorded_15 : decode cX3_recorded 15 = .ok (.if_icmp .ge 16, 3) := by decide +kernel
theorem dX3_recorded_18 : decode cX3_recorded 18 = .ok (.aload_n 0, 1) := by decide +kernel
theorem dX3_recorded_19 : decode cX3_recorded 19 = .ok (.dup, 1) := by decide +kernel
theorem dX3_recorded_20 : decode cX3_recorded 20 = .ok (.getfield 20, 3) := by decide +kernel
theorem dX3_recorded_23 : decode cX3_recorded 23 = .ok (.iconst 1, 1) := by decide +kernel
theorem dX3_recorded_24 : decode cX3_recorded 24 = .ok (.iadd, 1) := by decide +kernel
theorem dX3_recorded_25 : decode cX3_recorded 25 = .ok (.putfield 20, 3) := by decide +kernel
theorem dX3_recorded_28 : decode cX3_recorded 28 = .ok (.goto 7, 3) := by decide +kernel
theorem dX3_recorded_31 : decode cX3_recorded 31 = .ok (.aload_n 0, 1) := by decide +kernel
theorem dX3_recorded_32 : decode cX3_recorded 32 = .ok (.invokevirtual 123, 3) := by decide +kernel
theorem dX3_recorded_35 : decode cX3_recorded 35 = .ok (.iload_n 1, 1) := by decide +kernel
theorem dX3_recorded_36 : decode cX3_recorded 36 = .ok (.ireturn, 1) := by decide +kernel
theorem dX3_dropOldestState_0 : decode cX3_dropOldestState 0 = .ok (.aload_n 0, 1) := by decide +kernel
theorem dX3_dropOldestState_1 : decode cX3_dropOldestState 1 = .ok (.getfield 16, 3) := by decide +kernel
theorem dX3_dropOldestState_4 : decode cX3_dropOldestState 4 = .ok (.iconst 0, 1) := by decide +kernel
theorem dX3_dropOldestState_5 : decode cX3_dropOldestState 5 = .ok (.aaload, 1) := by decide +kernel
theorem dX3_dropOldestState_6 : decode cX3_dropOldestState 6 = .ok (.astore_n 1, 1) := by decide +kernel
theorem dX3_dropOldestState_7 : decode cX3_dropOldestState 7 = .ok (.iconst 0, 1) := by decide +kernel
theorem dX3_dropOldestState_8 : decode cX3_dropOldestState 8 = .ok (.istore_n 2, 1) := by decide +kernel
theorem dX3_dropOldestState_9 : decode cX3_dropOldestState 9 = .ok (.iload_n 2, 1) := by decide +kernel
theorem dX3_dropOldestState_10 : decode cX3_dropOldestState 10 = .ok (.bipush 6, 2) := by decide +kernel
theorem dX3_dropOldestState_12 : decode cX3_dropOldestState 12 = .ok (.if_icmp .ge 23, 3) := by decide +kernel
theorem dX3_dropOldestState_15 : decode cX3_dropOldestState 15 = .ok (.aload_n 0, 1) := by decide +kernel
theorem dX3_dropOldestState_16 : decode cX3_dropOldestState 16 = .ok (.getfield 16, 3) := by decide +kernel
theorem dX3_dropOldestState_19 : decode cX3_dropOldestState 19 = .ok (.iload_n 2, 1) := by decide +kernel
theorem dX3_dropOldestState_20 : decode cX3_dropOldestState 20 = .ok (.aload_n 0, 1) := by decide +kernel
theorem dX3_dropOldestState_21 : decode cX3_dropOldestState 21 = .ok (.getfield 16, 3) := by decide +kernel
theorem dX3_dropOldestState_24 : decode cX3_dropOldestState 24 = .ok (.iload_n 2, 1) := by decide +kernel
theorem dX3_dropOldestState_25 : decode cX3_dropOldestState 25 = .ok (.iconst 1, 1) := by decide +kernel
theorem dX3_dropOldestState_26 : decode cX3_dropOldestState 26 = .ok (.iadd, 1) := by decide +kernel
theorem dX3_dropOldestState_27 : decode cX3_dropOldestState 27 = .ok (.aaload, 1) := by decide +kernel
theorem dX3_dropOldestState_28 : decode cX3_dropOldestState 28 = .ok (.aastore, 1) := by decide +kernel
theorem dX3_dropOldestState_29 : decode cX3_dropOldestState 29 = .ok (.iinc 2 1, 3) := by decide +kernel
theorem dX3_dropOldestState_32 : decode cX3_dropOldestState 32 = .ok (.goto (-23), 3) := by decide +kernel
theorem dX3_dropOldestState_35 : decode cX3_dropOldestState 35 = .ok (.aload_n 0, 1) := by decide +kernel
theorem dX3_dropOldestState_36 : decode cX3_dropOldestState 36 = .ok (.getfield 16, 3) := by decide +kernel
theorem dX3_dropOldestState_39 : decode cX3_dropOldestState 39 = .ok (.bipush 6, 2) := by decide +kernel
theorem dX3_dropOldestState_41 : decode cX3_dropOldestState 41 = .ok (.aload_n 1, 1) := by decide +kernel
theorem dX3_dropOldestState_42 : decode cX3_dropOldestState 42 = .ok (.aastore, 1) := by decide +kernel
theorem dX3_dropOldestState_43 : decode cX3_dropOldestState 43 = .ok (.return_, 1) := by decide +kernel
set_option maxRecDepth 20000 in
theorem ggX3_carryOutOrders_X1_size : GoodIn wsX3_carryOutOrders wsX1_size := goodIn_r _ [6, 7, 149, 150] (by decide +kernel) (by decide +kernel)
set_option maxRecDepth 20000 in
theorem gX3_carryOutOrders_X1_size : GoodIn wsX3_carryOutOrders (wsV RX3 78 RX1 yX1_size wsX1_size) := goodIn_app (goodIn_of _ (by decide +kernel)) ggX3_carryOutOrders_X1_size
set_option maxRecDepth 20000 in
theorem ggX3_carryOutOrders_X1_startsOrder : GoodIn wsX3_carryOutOrders wsX1_startsOrder := goodIn_r _ [11, 12, 13, 14, 5, 15, 7, 16, 149, 150] (by decide +kernel) (by decide +kernel)
set_option maxRecDepth 20000 in
theorem gX3_carryOutOrders_X1_startsOrder : GoodIn wsX3_carryOutOrders (wsV RX3 126 RX1 yX1_startsOrder wsX1_startsOrder) := goodIn_app (goodIn_of _ (by decide +kernel)) ggX3_carryOutOrders_X1_startsOrder
set_option maxRecDepth 20000 in
theorem ggX3_carryOutOrders_X3_carryOutOrder : GoodIn wsX3_carryOutOrders wsX3_carryOutOrder := goodIn_r _ [21, 1, 22, 23, 13, 14, 5, 15, 7, 16, 24, 25, 26, 27, 28, 29, 30, 31, 32, 33, 34, 35, 36, 37, 38, 39, 40, 41, 42, 43, 44, 45, 46, 47, 48, 49, 50, 51, 52, 53, 54, 55, 56, 57, 58, 59, 60, 61, 62, 63, 64, 65, 66, 67, 68, 69, 70, 71, 72, 73, 74, 75, 76, 77, 78, 79, 80, 81, 82, 83, 12, 84, 85, 86, 87, 88, 89, 90, 91, 92, 93, 94, 95, 96, 97, 98, 99, 100, 101, 102, 103, 104, 105, 106, 107, 108, 109, 110, 111, 112, 113, 114, 115, 116, 117, 118, 119, 120, 121, 122, 123, 124, 125, 126, 127, 128, 129, 130, 131, 132, 133, 134, 135, 136, 137, 138, 139, 143, 144, 145, 146, 147, 148, 149, 150, 151, 152, 153, 154, 155, 156, 157, 158, 159, 160, 161, 162, 163, 164, 165, 166, 167] (by decide +kernel) (by decide +kernel)
set_option maxRecDepth 20000 in
theorem gX3_carryOutOrders_X3_carryOutOrder : GoodIn wsX3_carryOutOrders (wsV RX3 129 RX3 yX3_carryOutOrder wsX3_carryOutOrder) := goodIn_app (goodIn_of _ (by decide +kernel)) ggX3_carryOutOrders_X3_carryOutOrder
set_option maxRecDepth 20000 in
theorem ggX3_carryOutOrders_X3_isError : GoodIn wsX3_carryOutOrders wsX3_isError := goodIn_r _ [142] (by decide +kernel) (by decide +kernel)
set_option maxRecDepth 20000 in
theorem gX3_carryOutOrders_X3_isError : GoodIn wsX3_carryOutOrders (va_wsS RX3 120 yX3_isError wsX3_isError) := goodIn_app (goodIn_of _ (by decide +kernel)) ggX3_carryOutOrders_X3_isError
theorem dX3_carryOutOrders_0 : decode cX3_carryOutOrders 0 = .ok (.iconst 0, 1) := by decide +kernel
theorem dX3_carryOutOrders_1 : decode cX3_carryOutOrders 1 = .ok (.istore_n 1, 1) := by decide +kernel
theorem dX3_carryOutOrders_2 : decode cX3_carryOutOrders 2 = .ok (.iconst 0, 1) := by decide +kernel
theorem dX3_carryOutOrders_3 : decode cX3_carryOutOrders 3 = .ok (.istore_n 2, 1) := by decide +kernel
theorem dX3_carryOutOrders_4 : decode cX3_carryOutOrders 4 = .ok (.iload_n 2, 1) := by decide +kernel
theorem dX3_carryOutOrders_5 : decode cX3_carryOutOrders 5 = .ok (.aload_n 0, 1) := by decide +kernel
theorem dX3_carryOutOrders_6 : decode cX3_carryOutOrders 6 = .ok (.getfield 34, 3) := by decide +kernel
theorem dX3_carryOutOrders_9 : decode cX3_carryOutOrders 9 = .ok (.invokevirtual 78, 3) := by decide +kernel
theorem dX3_carryOutOrders_12 : decode cX3_carryOutOrders 12 = .ok (.if_icmp .ge 36, 3) := by decide +kernel
theorem dX3_carryOutOrders_15 : decode cX3_carryOutOrders 15 = .ok (.aload_n 0, 1) := by decide +kernel
theorem dX3_carryOutOrders_16 : decode cX3_carryOutOrders 16 = .ok (.getfield 34, 3) := by decide +kernel
theorem dX3_carryOutOrders_19 : decode cX3_carryOutOrders 19 = .ok (.iload_n 2, 1) := by decide +kernel
theorem dX3_carryOutOrders_20 : decode cX3_carryOutOrders 20 = .ok (.invokevirtual 126, 3) := by decide +kernel
theorem dX3_carryOutOrders_23 : decode cX3_carryOutOrders 23 = .ok (.ifCond .eq 19, 3) := by decide +kernel
theorem dX3_carryOutOrders_26 : decode cX3_carryOutOrders 26 = .ok (.aload_n 0, 1) := by decide +kernel
theorem dX3_carryOutOrders_27 : decode cX3_carryOutOrders 27 = .ok (.iload_n 2, 1) := by decide +kernel
theorem dX3_carryOutOrders_28 : decode cX3_carryOutOrders 28 = .ok (.invokevirtual 129, 3) := by decide +kernel
theorem dX3_carryOutOrders_31 : decode cX3_carryOutOrders 31 = .ok (.invokestatic 120, 3) := by decide +kernel
theorem dX3_carryOutOrders_34 : decode cX3_carryOutOrders 34 = .ok (.ifCond .eq 5, 3) := by decide +kernel
theorem dX3_carryOutOrders_37 : decode cX3_carryOutOrders 37 = .ok (.iload_n 1, 1) := by decide +kernel
theorem dX3_carryOutOrders_38 : decode cX3_carryOutOrders 38 = .ok (.ireturn, 1) := by decide +kernel
theorem dX3_carryOutOrders_39 : decode cX3_carryOutOrders 39 = .ok (.iinc 1 1, 3) := by decide +kernel
theorem dX3_carryOutOrders_42 : decode cX3_carryOutOrders 42 = .ok (.iinc 2 1, 3) := by decide +kernel
theorem dX3_carryOutOrders_45 : decode cX3_carryOutOrders 45 = .ok (.goto (-41), 3) := by decide +kernel
theorem dX3_carryOutOrders_48 : decode cX3_carryOutOrders 48 = .ok (.iload_n 1, 1) := by decide +kernel
theorem dX3_carryOutOrders_49 : decode cX3_carryOutOrders 49 = .ok (.ireturn, 1) := by decide +kernel
set_option maxRecDepth 20000 in
theorem ggX3_carryOutOrder_X1_sign : GoodIn wsX3_carryOutOrder wsX1_sign := goodIn_r _ [7, 8, 9, 133, 134] (by decide +kernel) (by decide +kernel)
set_option maxRecDepth 20000 in
theorem gX3_carryOutOrder_X1_sign : GoodIn wsX3_carryOutOrder (wsV RX3 132 RX1 yX1_sign wsX1_sign) := goodIn_app (goodIn_of _ (by decide +kernel)) ggX3_carryOutOrder_X1_sign
set_option maxRecDepth 20000 in
theorem ggX3_carryOutOrder_X2_beginJob : GoodIn wsX3_carryOutOrder wsX2_beginJob := goodIn_r _ [14, 15, 16, 17, 18, 19, 20, 21, 13, 22, 23, 24, 135, 136, 137, 138, 139, 140, 141, 142, 143, 144, 145, 146, 147, 148, 149, 150, 151] (by decide +kernel) (by decide +kernel)
set_option maxRecDepth 20000 in
theorem gX3_carryOutOrder_X2_beginJob : GoodIn wsX3_carryOutOrder (wsV RX3 59 RX2 yX2_beginJob wsX2_beginJob) := goodIn_app (goodIn_of _ (by decide +kernel)) ggX3_carryOutOrder_X2_beginJob
set_option maxRecDepth 20000 in
theorem ggX3_carryOutOrder_X2_endJob : GoodIn wsX3_carryOutOrder wsX2_endJob := goodIn_r _ [28, 15, 29, 30, 16, 23, 31, 32, 33, 34, 35, 36, 37, 38, 39, 40, 41, 42, 43, 44, 45, 46, 47, 48, 49, 50, 51, 52, 53, 54, 55, 56, 57, 58, 59, 60, 13, 61, 135, 136, 137, 138, 139, 140, 141, 142, 143, 144, 145, 146, 147, 148, 149, 150, 151] (by decide +kernel) (by decide +kernel)
set_option maxRecDepth 20000 in
theorem gX3_carryOutOrder_X2_endJob : GoodIn wsX3_carryOutOrder (wsV RX3 63 RX2 yX2_endJob wsX2_endJob) := goodIn_app (goodIn_of _ (by decide +kernel)) ggX3_carryOutOrder_X2_endJob
set_option maxRecDepth 20000 in
theorem ggX3_carryOutOrder_X2_repeatJob : GoodIn wsX3_carryOutOrder wsX2_repeatJob := goodIn_r _ [65, 15, 29, 19, 20, 21, 13, 22, 16, 23, 24, 135, 136, 137, 138, 139, 140, 141, 142, 143, 144, 145, 146, 147, 148, 149, 150, 151] (by decide +kernel) (by decide +kernel)
set_option maxRecDepth 20000 in
theorem gX3_carryOutOrder_X2_repeatJob : GoodIn wsX3_carryOutOrder (wsV RX3 66 RX2 yX2_repeatJob wsX2_repeatJob) := goodIn_app (goodIn_of _ (by decide +kernel)) ggX3_carryOutOrder_X2_repeatJob
set_option maxRecDepth 20000 in
theorem ggX3_carryOutOrder_X1_groupOfOrder : GoodIn wsX3_carryOutOrder wsX1_groupOfOrder := goodIn_r _ [69, 70, 4, 5, 6, 7, 8, 9, 133, 134] (by decide +kernel) (by decide +kernel)
set_option maxRecDepth 20000 in
theorem gX3_carryOutOrder_X1_groupOfOrder : GoodIn wsX3_carryOutOrder (wsV RX3 135 RX1 yX1_groupOfOrder wsX1_groupOfOrder) := goodIn_app (goodIn_of _ (by decide +kernel)) ggX3_carryOutOrder_X1_groupOfOrder
set_option maxRecDepth 20000 in
theorem ggX3_carryOutOrder_X1_nameOfOrder : GoodIn wsX3_carryOutOrder wsX1_nameOfOrder := goodIn_r _ [74, 70, 4, 5, 6, 7, 8, 9, 133, 134] (by decide +kernel) (by decide +kernel)
set_option maxRecDepth 20000 in
theorem gX3_carryOutOrder_X1_nameOfOrder : GoodIn wsX3_carryOutOrder (wsV RX3 138 RX1 yX1_nameOfOrder wsX1_nameOfOrder) := goodIn_app (goodIn_of _ (by decide +kernel)) ggX3_carryOutOrder_X1_nameOfOrder
set_option maxRecDepth 20000 in
theorem ggX3_carryOutOrder_X1_dataOfOrder : GoodIn wsX3_carryOutOrder wsX1_dataOfOrder := goodIn_r _ [78, 8, 70, 4, 5, 6, 7, 9, 79, 80, 81, 82, 133, 134] (by decide +kernel) (by decide +kernel)
set_option maxRecDepth 20000 in
theorem gX3_carryOutOrder_X1_dataOfOrder : GoodIn wsX3_carryOutOrder (wsV RX3 141 RX1 yX1_dataOfOrder wsX1_dataOfOrder) := goodIn_app (goodIn_of _ (by decide +kernel)) ggX3_carryOutOrder_X1_dataOfOrder
set_option maxRecDepth 20000 in
theorem ggX3_carryOutOrder_X2_writeByName : GoodIn wsX3_carryOutOrder wsX2_writeByName := goodIn_r _ [86, 16, 15, 24, 87, 88, 89, 90, 13, 91, 92, 93, 94, 95, 96, 97, 98, 99, 23, 100, 101, 102, 34, 103, 52, 36, 41, 46, 104, 105, 106, 53, 54, 55, 56, 57, 37, 38, 39, 40, 42, 43, 44, 45, 107, 108, 109, 110, 111, 112, 113, 114, 115, 31, 32, 33, 35, 135, 136, 137, 138, 139, 140, 141, 142, 143, 144, 145, 146, 147, 148, 149, 150, 151] (by decide +kernel) (by decide +kernel)
set_option maxRecDepth 20000 in
theorem gX3_carryOutOrder_X2_writeByName : GoodIn wsX3_carryOutOrder (wsV RX3 49 RX2 yX2_writeByName wsX2_writeByName) := goodIn_app (goodIn_of _ (by decide +kernel)) ggX3_carryOutOrder_X2_writeByName
set_option maxRecDepth 20000 in
theorem ggX3_carryOutOrder_X2_readByName : GoodIn wsX3_carryOutOrder wsX2_readByName := goodIn_r _ [119, 16, 15, 120, 121, 122, 87, 88, 89, 90, 13, 91, 92, 93, 94, 95, 111, 112, 113, 34, 114, 106, 115, 36, 31, 32, 33, 35, 37, 38, 39, 40, 41, 42, 43, 44, 45, 46, 135, 136, 137, 138, 139, 140, 141, 142, 143, 144, 145, 146, 147, 148, 149, 150, 151] (by decide +kernel) (by decide +kernel)
set_option maxRecDepth 20000 in
theorem gX3_carryOutOrder_X2_readByName : GoodIn wsX3_carryOutOrder (wsV RX3 53 RX2 yX2_readByName wsX2_readByName) := goodIn_app (goodIn_of _ (by decide +kernel)) ggX3_carryOutOrder_X2_readByName
set_option maxRecDepth 20000 in
theorem ggX3_carryOutOrder_X2_deleteByName : GoodIn wsX3_carryOutOrder wsX2_deleteByName := goodIn_r _ [126, 16, 15, 88, 89, 90, 13, 91, 92, 93, 94, 95, 111, 112, 113, 34, 114, 106, 115, 36, 31, 32, 33, 35, 37, 38, 39, 40, 41, 42, 43, 44, 45, 46, 47, 48, 49, 50, 51, 52, 53, 54, 55, 56, 57, 107, 108, 109, 110, 135, 136, 137, 138, 139, 140, 141, 142, 143, 144, 145, 146, 147, 148, 149, 150, 151] (by decide +kernel) (by decide +kernel)
set_option maxRecDepth 20000 in
theorem gX3_carryOutOrder_X2_deleteByName : GoodIn wsX3_carryOutOrder (wsV RX3 56 RX2 yX2_deleteByName wsX2_deleteByName) := goodIn_app (goodIn_of _ (by decide +kernel)) ggX3_carryOutOrder_X2_deleteByName
theorem dX3_carryOutOrder_0 : decode cX3_carryOutOrder 0 = .ok (.aload_n 0, 1) := by decide +kernel
theorem dX3_carryOutOrder_1 : decode cX3_carryOutOrder 1 = .ok (.getfield 34, 3) := by decide +kernel
theorem dX3_carryOutOrder_4 : decode cX3_carryOutOrder 4 = .ok (.iload_n 1, 1) := by decide +kernel
theorem dX3_carryOutOrder_5 : decode cX3_carryOutOrder 5 = .ok (.invokevirtual 132, 3) := by decide +kernel
theorem dX3_carryOutOrder_8 : decode cX3_carryOutOrder 8 = .ok (.tableswitch 222 97 119 #[134, 222, 222, 198, 222, 125, 116, 222, 222, 108, 222, 222, 222, 222, 222, 222, 222, 174, 222, 222, 222, 222, 142], 108) := by decide +kernel
theorem dX3_carryOutOrder_116 : decode cX3_carryOutOrder 116 = .ok (.aload_n 0, 1) := by decide +kernel
theorem dX3_carryOutOrder_117 : decode cX3_carryOutOrder 117 = .ok (.getfield 12, 3) := by decide +kernel
theorem dX3_carryOutOrder_120 : decode cX3_carryOutOrder 120 = .ok (.invokevirtual 59, 3) := by decide +kernel
theorem dX3_carryOutOrder_123 : decode cX3_carryOutOrder 123 = .ok (.ireturn, 1) := by decide +kernel
theorem dX3_carryOutOrder_124 : decode cX3_carryOutOrder 124 = .ok (.aload_n 0, 1) := by decide +kernel
theorem dX3_carryOutOrder_125 : decode cX3_carryOutOrder 125 = .ok (.getfield 12, 3) := by decide +kernel
theorem dX3_carryOutOrder_128 : decode cX3_carryOutOrder 128 = .ok (.iconst 1, 1) := by decide +kernel
theorem dX3_carryOutOrder_129 : decode cX3_carryOutOrder 129 = .ok (.invokevirtual 63, 3) := by decide +kernel
theorem dX3_carryOutOrder_132 : decode cX3_carryOutOrder 132 = .ok (.ireturn, 1) := by decide +kernel
theorem dX3_carryOutOrder_133 : decode cX3_carryOutOrder 133 = .ok (.aload_n 0, 1) := by decide +kernel
theorem dX3_carryOutOrder_134 : decode cX3_carryOutOrder 134 = .ok (.getfield 12, 3) := by decide +kernel
theorem dX3_carryOutOrder_137 : decode cX3_carryOutOrder 137 = .ok (.iconst 0, 1) := by decide +kernel
theorem dX3_carryOutOrder_138 : decode cX3_carryOutOrder 138 = .ok (.invokevirtual 63, 3) := by decide +kernel
theorem dX3_carryOutOrder_141 : decode cX3_carryOutOrder 141 = .ok (.ireturn, 1) := by decide +kernel
theorem dX3_carryOutOrder_142 : decode cX3_carryOutOrder 142 = .ok (.aload_n 0, 1) := by decide +kernel
theorem dX3_carryOutOrder_143 : decode cX3_carryOutOrder 143 = .ok (.getfield 12, 3) := by decide +kernel
theorem dX3_carryOutOrder_146 : decode cX3_carryOutOrder 146 = .ok (.invokevirtual 66, 3) := by decide +kernel
theorem dX3_carryOutOrder_149 : decode cX3_carryOutOrder 149 = .ok (.ireturn, 1) := by decide +kernel
theorem dX3_carryOutOrder_150 : decode cX3_carryOutOrder 150 = .ok (.aload_n 0, 1) := by decide +kernel
theorem dX3_carryOutOrder_151 : decode cX3_carryOutOrder 151 = .ok (.getfield 12, 3) := by decide +kernel
theorem dX3_carryOutOrder_154 : decode cX3_carryOutOrder 154 = .ok (.aload_n 0, 1) := by decide +kernel
theorem dX3_carryOutOrder_155 : decode cX3_carryOutOrder 155 = .ok (.getfield 34, 3) := by decide +kernel
theorem dX3_carryOutOrder_158 : decode cX3_carryOutOrder 158 = .ok (.iload_n 1, 1) := by decide +kernel
theorem dX3_carryOutOrder_159 : decode cX3_carryOutOrder 159 = .ok (.invokevirtual 135, 3) := by decide +kernel
theorem dX3_carryOutOrder_162 : decode cX3_carryOutOrder 162 = .ok (.aload_n 0, 1) := by decide +kernel
theorem dX3_carryOutOrder_163 : decode cX3_carryOutOrder 163 = .ok (.getfield 34, 3) := by decide +kernel
theorem dX3_carryOutOrder_166 : decode cX3_carryOutOrder 166 = .ok (.iload_n 1, 1) := by decide +kernel
theorem dX3_carryOutOrder_167 : decode cX3_carryOutOrder 167 = .ok (.invokevirtual 138, 3) := by decide +kernel
theorem dX3_carryOutOrder_170 : decode cX3_carryOutOrder 170 = .ok (.aload_n 0, 1) := by decide +kernel
theorem dX3_carryOutOrder_171 : decode cX3_carryOutOrder 171 = .ok (.getfield 34, 3) := by decide +kernel
theorem dX3_carryOutOrder_174 : decode cX3_carryOutOrder 174 = .ok (.iload_n 1, 1) := by decide +kernel
theorem dX3_carryOutOrder_175 : decode cX3_carryOutOrder 175 = .ok (.invokevirtual 141, 3) := by decide +kernel
theorem dX3_carryOutOrder_178 : decode cX3_carryOutOrder 178 = .ok (.invokevirtual 49, 3) := by decide +kernel
theorem dX3_carryOutOrder_181 : decode cX3_carryOutOrder 181 = .ok (.ireturn, 1) := by decide +kernel
theorem dX3_carryOutOrder_182 : decode cX3_carryOutOrder 182 = .ok (.aload_n 0, 1) := by decide +kernel
theorem dX3_carryOutOrder_183 : decode cX3_carryOutOrder 183 = .ok (.getfield 12, 3) := by decide +kernel
theorem dX3_carryOutOrder_186 : decode cX3_carryOutOrder 186 = .ok (.aload_n 0, 1) := by decide +kernel
theorem dX3_carryOutOrder_187 : decode cX3_carryOutOrder 187 = .ok (.getfield 34, 3) := by decide +kernel
theorem dX3_carryOutOrder_190 : decode cX3_carryOutOrder 190 = .ok (.iload_n 1, 1) := by decide +kernel
theorem dX3_carryOutOrder_191 : decode cX3_carryOutOrder 191 = .ok (.invokevirtual 135, 3) := by decide +kernel
theorem dX3_carryOutOrder_194 : decode cX3_carryOutOrder 194 = .ok (.aload_n 0, 1) := by decide +kernel
theorem dX3_carryOutOrder_195 : decode cX3_carryOutOrder 195 = .ok (.getfield 34, 3) := by decide +kernel
theorem dX3_carryOutOrder_198 : decode cX3_carryOutOrder 198 = .ok (.iload_n 1, 1) := by decide +kernel
theorem dX3_carryOutOrder_199 : decode cX3_carryOutOrder 199 = .ok (.invokevirtual 138, 3) := by decide +kernel
theorem dX3_carryOutOrder_202 : decode cX3_carryOutOrder 202 = .ok (.invokevirtual 53, 3) := by decide +kernel
theorem dX3_carryOutOrder_205 : decode cX3_carryOutOrder 205 = .ok (.ireturn, 1) := by decide +kernel
theorem dX3_carryOutOrder_206 : decode cX3_carryOutOrder 206 = .ok (.aload_n 0, 1) := by decide +kernel
theorem dX3_carryOutOrder_207 : decode cX3_carryOutOrder 207 = .ok (.getfield 12, 3) := by decide +kernel
theorem dX3_carryOutOrder_210 : decode cX3_carryOutOrder 210 = .ok (.aload_n 0, 1) := by decide +kernel
theorem dX3_carryOutOrder_211 : decode cX3_carryOutOrder 211 = .ok (.getfield 34, 3) := by decide +kernel
theorem dX3_carryOutOrder_214 : decode cX3_carryOutOrder 214 = .ok (.iload_n 1, 1) := by decide +kernel
theorem dX3_carryOutOrder_215 : decode cX3_carryOutOrder 215 = .ok (.invokevirtual 135, 3) := by decide +kernel
theorem dX3_carryOutOrder_218 : decode cX3_carryOutOrder 218 = .ok (.aload_n 0, 1) := by decide +kernel
theorem dX3_carryOutOrder_219 : decode cX3_carryOutOrder 219 = .ok (.getfield 34, 3) := by decide +kernel
theorem dX3_carryOutOrder_222 : decode cX3_carryOutOrder 222 = .ok (.iload_n 1, 1) := by decide +kernel
theorem dX3_carryOutOrder_223 : decode cX3_carryOutOrder 223 = .ok (.invokevirtual 138, 3) := by decide +kernel
theorem dX3_carryOutOrder_226 : decode cX3_carryOutOrder 226 = .ok (.invokevirtual 56, 3) := by decide +kernel
theorem dX3_carryOutOrder_229 : decode cX3_carryOutOrder 229 = .ok (.ireturn, 1) := by decide +kernel
theorem dX3_carryOutOrder_230 : decode cX3_carryOutOrder 230 = .ok (.bipush (-3), 2) := by decide +kernel
theorem dX3_carryOutOrder_232 : decode cX3_carryOutOrder 232 = .ok (.ireturn, 1) := by decide +kernel
