theorem dX7_pieceSide_34 : decode cX7_pieceSide 34 = .ok (.aload_n 0, 1) := by decide +kernel
theorem dX7_pieceSide_35 : decode cX7_pieceSide 35 = .ok (.getfield 35, 3) := by decide +kernel
theorem dX7_pieceSide_38 : decode cX7_pieceSide 38 = .ok (.iload_n 3, 1) := by decide +kernel
theorem dX7_pieceSide_39 : decode cX7_pieceSide 39 = .ok (.iaload, 1) := by decide +kernel
theorem dX7_pieceSide_40 : decode cX7_pieceSide 40 = .ok (.ireturn, 1) := by decide +kernel
set_option maxRecDepth 100000 in
theorem ggX7_piece_X7_within : GoodIn wsX7_piece wsX7_within := goodIn_r _ [9] rfl (by decide +kernel)
set_option maxRecDepth 100000 in
theorem gX7_piece_X7_within : GoodIn wsX7_piece (va_wsS RX7 112 yX7_within wsX7_within) := goodIn_app (goodIn_of _ (by decide +kernel)) ggX7_piece_X7_within
set_option maxRecDepth 100000 in
theorem ggX7_piece_X7_work : GoodIn wsX7_piece wsX7_work := goodIn_r _ [13, 14, 15, 16, 17, 18, 19, 8, 20, 21, 22, 23, 24, 25, 26, 27, 28, 29, 30, 31, 32, 33, 34, 35, 36, 37, 38, 39, 40, 41, 42, 43, 44, 45, 46, 47, 48, 49, 50, 51, 52, 53, 54, 55, 56, 57, 58, 59, 60, 61, 62, 63, 1, 64, 65, 66, 67, 68, 69, 70, 71, 72, 73, 74, 75, 76, 77, 78, 79, 80, 81, 82, 83, 84, 2, 3, 4, 5, 89, 90, 91, 92, 93, 94, 95, 96, 97, 98, 99, 100, 101, 102, 103, 104, 105, 106, 107, 108, 109, 110, 111, 112, 113, 114, 115, 116, 117, 118, 119, 120, 121, 122, 123, 124, 125, 126, 127, 128, 129, 130, 131, 132, 133, 134, 135] rfl (by decide +kernel)
set_option maxRecDepth 100000 in
theorem gX7_piece_X7_work : GoodIn wsX7_piece (wsV RX7 185 RX7 yX7_work wsX7_work) := goodIn_app (goodIn_of _ (by decide +kernel)) ggX7_piece_X7_work
set_option maxRecDepth 100000 in
theorem ggX7_piece_X7_pieceSide : GoodIn wsX7_piece wsX7_pieceSide := goodIn_r _ [88, 2, 5, 34, 35, 89, 90, 91, 92, 93, 94, 95, 96, 97, 98, 99, 100, 101, 102, 103, 104, 105, 106, 107, 108, 109, 110, 111, 112, 113, 114, 115, 116, 117, 118, 119, 120, 121, 122, 123, 124, 125, 126, 127, 128, 129, 130, 131, 132, 133, 134, 135] rfl (by decide +kernel)
set_option maxRecDepth 100000 in
theorem gX7_piece_X7_pieceSide : GoodIn wsX7_piece (wsV RX7 188 RX7 yX7_pieceSide wsX7_pieceSide) := goodIn_app (goodIn_of _ (by decide +kernel)) ggX7_piece_X7_pieceSide
theorem dX7_piece_0 : decode cX7_piece 0 = .ok (.iload_n 2, 1) := by decide +kernel
theorem dX7_piece_1 : decode cX7_piece 1 = .ok (.iconst 0, 1) := by decide +kernel
theorem dX7_piece_2 : decode cX7_piece 2 = .ok (.iconst 5, 1) := by decide +kernel
theorem dX7_piece_3 : decode cX7_piece 3 = .ok (.invokestatic 112, 3) := by decide +kernel
theorem dX7_piece_6 : decode cX7_piece 6 = .ok (.ifCond .ne 6, 3) := by decide +kernel
theorem dX7_piece_9 : decode cX7_piece 9 = .ok (.bipush (-3), 2) := by decide +kernel
theorem dX7_piece_11 : decode cX7_piece 11 = .ok (.ireturn, 1) := by decide +kernel
theorem dX7_piece_12 : decode cX7_piece 12 = .ok (.aload_n 0, 1) := by decide +kernel
theorem dX7_piece_13 : decode cX7_piece 13 = .ok (.invokevirtual 185, 3) := by decide +kernel
theorem dX7_piece_16 : decode cX7_piece 16 = .ok (.iload_n 1, 1) := by decide +kernel
theorem dX7_piece_17 : decode cX7_piece 17 = .ok (.iconst 0, 1) := by decide +kernel
theorem dX7_piece_18 : decode cX7_piece 18 = .ok (.aload_n 0, 1) := by decide +kernel
theorem dX7_piece_19 : decode cX7_piece 19 = .ok (.getfield 168, 3) := by decide +kernel
theorem dX7_piece_22 : decode cX7_piece 22 = .ok (.iconst 1, 1) := by decide +kernel
theorem dX7_piece_23 : decode cX7_piece 23 = .ok (.isub, 1) := by decide +kernel
theorem dX7_piece_24 : decode cX7_piece 24 = .ok (.invokestatic 112, 3) := by decide +kernel
theorem dX7_piece_27 : decode cX7_piece 27 = .ok (.ifCond .ne 5, 3) := by decide +kernel
theorem dX7_piece_30 : decode cX7_piece 30 = .ok (.iconst (-1), 1) := by decide +kernel
theorem dX7_piece_31 : decode cX7_piece 31 = .ok (.ireturn, 1) := by decide +kernel
theorem dX7_piece_32 : decode cX7_piece 32 = .ok (.iload_n 2, 1) := by decide +kernel
theorem dX7_piece_33 : decode cX7_piece 33 = .ok (.tableswitch 70 0 4 #[35, 42, 49, 56, 63], 35) := by decide +kernel
theorem dX7_piece_68 : decode cX7_piece 68 = .ok (.aload_n 0, 1) := by decide +kernel
theorem dX7_piece_69 : decode cX7_piece 69 = .ok (.getfield 52, 3) := by decide +kernel
theorem dX7_piece_72 : decode cX7_piece 72 = .ok (.iload_n 1, 1) := by decide +kernel
theorem dX7_piece_73 : decode cX7_piece 73 = .ok (.iaload, 1) := by decide +kernel
theorem dX7_piece_74 : decode cX7_piece 74 = .ok (.ireturn, 1) := by decide +kernel
theorem dX7_piece_75 : decode cX7_piece 75 = .ok (.aload_n 0, 1) := by decide +kernel
theorem dX7_piece_76 : decode cX7_piece 76 = .ok (.getfield 55, 3) := by decide +kernel
theorem dX7_piece_79 : decode cX7_piece 79 = .ok (.iload_n 1, 1) := by decide +kernel
theorem dX7_piece_80 : decode cX7_piece 80 = .ok (.iaload, 1) := by decide +kernel
theorem dX7_piece_81 : decode cX7_piece 81 = .ok (.ireturn, 1) := by decide +kernel
theorem dX7_piece_82 : decode cX7_piece 82 = .ok (.aload_n 0, 1) := by decide +kernel
theorem dX7_piece_83 : decode cX7_piece 83 = .ok (.getfield 58, 3) := by decide +kernel
theorem dX7_piece_86 : decode cX7_piece 86 = .ok (.iload_n 1, 1) := by decide +kernel
theorem dX7_piece_87 : decode cX7_piece 87 = .ok (.iaload, 1) := by decide +kernel
theorem dX7_piece_88 : decode cX7_piece 88 = .ok (.ireturn, 1) := by decide +kernel
theorem dX7_piece_89 : decode cX7_piece 89 = .ok (.aload_n 0, 1) := by decide +kernel
theorem dX7_piece_90 : decode cX7_piece 90 = .ok (.iload_n 1, 1) := by decide +kernel
theorem dX7_piece_91 : decode cX7_piece 91 = .ok (.iconst 1, 1) := by decide +kernel
theorem dX7_piece_92 : decode cX7_piece 92 = .ok (.invokevirtual 188, 3) := by decide +kernel
theorem dX7_piece_95 : decode cX7_piece 95 = .ok (.ireturn, 1) := by decide +kernel
theorem dX7_piece_96 : decode cX7_piece 96 = .ok (.aload_n 0, 1) := by decide +kernel
theorem dX7_piece_97 : decode cX7_piece 97 = .ok (.iload_n 1, 1) := by decide +kernel
theorem dX7_piece_98 : decode cX7_piece 98 = .ok (.iconst 0, 1) := by decide +kernel
theorem dX7_piece_99 : decode cX7_piece 99 = .ok (.invokevirtual 188, 3) := by decide +kernel
theorem dX7_piece_102 : decode cX7_piece 102 = .ok (.ireturn, 1) := by decide +kernel
theorem dX7_piece_103 : decode cX7_piece 103 = .ok (.aload_n 0, 1) := by decide +kernel
theorem dX7_piece_104 : decode cX7_piece 104 = .ok (.getfield 61, 3) := by decide +kernel
theorem dX7_piece_107 : decode cX7_piece 107 = .ok (.iload_n 1, 1) := by decide +kernel
theorem dX7_piece_108 : decode cX7_piece 108 = .ok (.iaload, 1) := by decide +kernel
theorem dX7_piece_109 : decode cX7_piece 109 = .ok (.ireturn, 1) := by decide +kernel
set_option maxRecDepth 100000 in
theorem ggX7_cuts_X7_work : GoodIn wsX7_cuts wsX7_work := goodIn_r _ [6, 7, 8, 9, 10, 11, 12, 5, 13, 14, 15, 16, 17, 18, 19, 20, 21, 22, 23, 24, 25, 26, 27, 28, 29, 30, 31, 32, 33, 34, 35, 36, 37, 38, 39, 40, 41, 42, 43, 44, 45, 46, 47, 48, 49, 50, 51, 52, 53, 54, 55, 56, 57, 1, 58, 59, 60, 61, 62, 63, 64, 65, 66, 67, 68, 69, 70, 71, 72, 73, 74, 75, 76, 77, 78, 79, 80, 81, 82, 83, 84, 85, 86, 87, 88, 89, 90, 91, 92, 93, 94, 95, 96, 97, 98, 99, 100, 101, 102, 103, 104, 105, 106, 107, 108, 109, 110, 111, 112, 113, 114, 115, 116, 117, 118, 119, 120, 121, 122, 123, 124, 125, 126, 127, 128] rfl (by decide +kernel)
set_option maxRecDepth 100000 in
theorem gX7_cuts_X7_work : GoodIn wsX7_cuts (wsV RX7 185 RX7 yX7_work wsX7_work) := goodIn_app (goodIn_of _ (by decide +kernel)) ggX7_cuts_X7_work
theorem dX7_cuts_0 : decode cX7_cuts 0 = .ok (.aload_n 0, 1) := by decide +kernel
theorem dX7_cuts_1 : decode cX7_cuts 1 = .ok (.invokevirtual 185, 3) := by decide +kernel
theorem dX7_cuts_4 : decode cX7_cuts 4 = .ok (.aload_n 0, 1) := by decide +kernel
theorem dX7_cuts_5 : decode cX7_cuts 5 = .ok (.getfield 171, 3) := by decide +kernel
theorem dX7_cuts_8 : decode cX7_cuts 8 = .ok (.ireturn, 1) := by decide +kernel
set_option maxRecDepth 100000 in
theorem ggX7_cut_X7_within : GoodIn wsX7_cut wsX7_within := goodIn_r _ [11] rfl (by decide +kernel)
set_option maxRecDepth 100000 in
theorem gX7_cut_X7_within : GoodIn wsX7_cut (va_wsS RX7 112 yX7_within wsX7_within) := goodIn_app (goodIn_of _ (by decide +kernel)) ggX7_cut_X7_within
set_option maxRecDepth 100000 in
theorem ggX7_cut_X7_work : GoodIn wsX7_cut wsX7_work := goodIn_r _ [15, 16, 17, 18, 19, 20, 21, 10, 22, 23, 24, 25, 26, 27, 28, 29, 30, 31, 32, 33, 34, 35, 36, 37, 38, 39, 40, 41, 42, 43, 44, 45, 46, 47, 48, 49, 50, 51, 52, 53, 54, 55, 56, 57, 58, 59, 60, 61, 62, 63, 64, 65, 66, 1, 67, 68, 69, 70, 71, 72, 73, 74, 75, 76, 2, 3, 4, 5, 6, 7, 77, 78, 79, 80, 81, 82, 83, 84, 85, 86, 87, 88, 89, 90, 91, 92, 93, 94, 95, 96, 97, 98, 99, 100, 101, 102, 103, 104, 105, 106, 107, 108, 109, 110, 111, 112, 113, 114, 115, 116, 117, 118, 119, 120, 121, 122, 123, 124, 125, 126, 127, 128, 129, 130, 131] rfl (by decide +kernel)
set_option maxRecDepth 100000 in
theorem gX7_cut_X7_work : GoodIn wsX7_cut (wsV RX7 185 RX7 yX7_work wsX7_work) := goodIn_app (goodIn_of _ (by decide +kernel)) ggX7_cut_X7_work
set_option maxRecDepth 100000 in
theorem ggX7_cut_X7_wayOf : GoodIn wsX7_cut wsX7_wayOf := goodIn_r _ [51, 52, 85, 86, 87, 88, 89, 90, 91, 92, 93, 94, 95, 96, 97, 98, 99, 100, 101, 102, 103, 104, 105, 106, 107, 108, 109, 110, 111, 112, 113, 114, 115, 116, 117, 118, 119, 120, 121, 122, 123, 124, 125, 126, 127, 128, 129, 130, 131] rfl (by decide +kernel)
set_option maxRecDepth 100000 in
theorem gX7_cut_X7_wayOf : GoodIn wsX7_cut (wsV RX7 142 RX7 yX7_wayOf wsX7_wayOf) := goodIn_app (goodIn_of _ (by decide +kernel)) ggX7_cut_X7_wayOf
theorem dX7_cut_0 : decode cX7_cut 0 = .ok (.iload_n 2, 1) := by decide +kernel
theorem dX7_cut_1 : decode cX7_cut 1 = .ok (.iconst 0, 1) := by decide +kernel
theorem dX7_cut_2 : decode cX7_cut 2 = .ok (.bipush 6, 2) := by decide +kernel
theorem dX7_cut_4 : decode cX7_cut 4 = .ok (.invokestatic 112, 3) := by decide +kernel
theorem dX7_cut_7 : decode cX7_cut 7 = .ok (.ifCond .ne 6, 3) := by decide +kernel
theorem dX7_cut_10 : decode cX7_cut 10 = .ok (.bipush (-3), 2) := by decide +kernel
theorem dX7_cut_12 : decode cX7_cut 12 = .ok (.ireturn, 1) := by decide +kernel
theorem dX7_cut_13 : decode cX7_cut 13 = .ok (.aload_n 0, 1) := by decide +kernel
theorem dX7_cut_14 : decode cX7_cut 14 = .ok (.invokevirtual 185, 3) := by decide +kernel
theorem dX7_cut_17 : decode cX7_cut 17 = .ok (.iload_n 1, 1) := by decide +kernel
theorem dX7_cut_18 : decode cX7_cut 18 = .ok (.iconst 0, 1) := by decide +kernel
theorem dX7_cut_19 : decode cX7_cut 19 = .ok (.aload_n 0, 1) := by decide +kernel
theorem dX7_cut_20 : decode cX7_cut 20 = .ok (.getfield 171, 3) := by decide +kernel
theorem dX7_cut_23 : decode cX7_cut 23 = .ok (.iconst 1, 1) := by decide +kernel
theorem dX7_cut_24 : decode cX7_cut 24 = .ok (.isub, 1) := by decide +kernel
theorem dX7_cut_25 : decode cX7_cut 25 = .ok (.invokestatic 112, 3) := by decide +kernel
theorem dX7_cut_28 : decode cX7_cut 28 = .ok (.ifCond .ne 5, 3) := by decide +kernel
theorem dX7_cut_31 : decode cX7_cut 31 = .ok (.iconst (-1), 1) := by decide +kernel
theorem dX7_cut_32 : decode cX7_cut 32 = .ok (.ireturn, 1) := by decide +kernel
theorem dX7_cut_33 : decode cX7_cut 33 = .ok (.iload_n 2, 1) := by decide +kernel
theorem dX7_cut_34 : decode cX7_cut 34 = .ok (.tableswitch 84 0 5 #[38, 45, 56, 63, 70, 77], 38) := by decide +kernel
theorem dX7_cut_72 : decode cX7_cut 72 = .ok (.aload_n 0, 1) := by decide +kernel
theorem dX7_cut_73 : decode cX7_cut 73 = .ok (.getfield 64, 3) := by decide +kernel
theorem dX7_cut_76 : decode cX7_cut 76 = .ok (.iload_n 1, 1) := by decide +kernel
theorem dX7_cut_77 : decode cX7_cut 77 = .ok (.iaload, 1) := by decide +kernel
theorem dX7_cut_78 : decode cX7_cut 78 = .ok (.ireturn, 1) := by decide +kernel
theorem dX7_cut_79 : decode cX7_cut 79 = .ok (.aload_n 0, 1) := by decide +kernel
theorem dX7_cut_80 : decode cX7_cut 80 = .ok (.aload_n 0, 1) := by decide +kernel
theorem dX7_cut_81 : decode cX7_cut 81 = .ok (.getfield 64, 3) := by decide +kernel
theorem dX7_cut_84 : decode cX7_cut 84 = .ok (.iload_n 1, 1) := by decide +kernel
theorem dX7_cut_85 : decode cX7_cut 85 = .ok (.iaload, 1) := by decide +kernel
theorem dX7_cut_86 : decode cX7_cut 86 = .ok (.invokevirtual 142, 3) := by decide +kernel
theorem dX7_cut_89 : decode cX7_cut 89 = .ok (.ireturn, 1) := by decide +kernel
theorem dX7_cut_90 : decode cX7_cut 90 = .ok (.aload_n 0, 1) := by decide +kernel
theorem dX7_cut_91 : decode cX7_cut 91 = .ok (.getfield 67, 3) := by decide +kernel
theorem dX7_cut_94 : decode cX7_cut 94 = .ok (.iload_n 1, 1) := by decide +kernel
theorem dX7_cut_95 : decode cX7_cut 95 = .ok (.iaload, 1) := by decide +kernel
theorem dX7_cut_96 : decode cX7_cut 96 = .ok (.ireturn, 1) := by decide +kernel
theorem dX7_cut_97 : decode cX7_cut 97 = .ok (.aload_n 0, 1) := by decide +kernel
theorem dX7_cut_98 : decode cX7_cut 98 = .ok (.getfield 70, 3) := by decide +kernel
theorem dX7_cut_101 : decode cX7_cut 101 = .ok (.iload_n 1, 1) := by decide +kernel
theorem dX7_cut_102 : decode cX7_cut 102 = .ok (.iaload, 1) := by decide +kernel
theorem dX7_cut_103 : decode cX7_cut 103 = .ok (.ireturn, 1) := by decide +kernel
theorem dX7_cut_104 : decode cX7_cut 104 = .ok (.aload_n 0, 1) := by decide +kernel
theorem dX7_cut_105 : decode cX7_cut 105 = .ok (.getfield 73, 3) := by decide +kernel
theorem dX7_cut_108 : decode cX7_cut 108 = .ok (.iload_n 1, 1) := by decide +kernel
theorem dX7_cut_109 : decode cX7_cut 109 = .ok (.iaload, 1) := by decide +kernel
theorem dX7_cut_110 : decode cX7_cut 110 = .ok (.ireturn, 1) := by decide +kernel
theorem dX7_cut_111 : decode cX7_cut 111 = .ok (.aload_n 0, 1) := by decide +kernel
theorem dX7_cut_112 : decode cX7_cut 112 = .ok (.getfield 76, 3) := by decide +kernel
theorem dX7_cut_115 : decode cX7_cut 115 = .ok (.iload_n 1, 1) := by decide +kernel
theorem dX7_cut_116 : decode cX7_cut 116 = .ok (.iaload, 1) := by decide +kernel
theorem dX7_cut_117 : decode cX7_cut 117 = .ok (.ireturn, 1) := by decide +kernel
theorem dX7_cut_118 : decode cX7_cut 118 = .ok (.aload_n 0, 1) := by decide +kernel
theorem dX7_cut_119 : decode cX7_cut 119 = .ok (.getfield 79, 3) := by decide +kernel
theorem dX7_cut_122 : decode cX7_cut 122 = .ok (.iload_n 1, 1) := by decide +kernel
theorem dX7_cut_123 : decode cX7_cut 123 = .ok (.iaload, 1) := by decide +kernel
theorem dX7_cut_124 : decode cX7_cut 124 = .ok (.ireturn, 1) := by decide +kernel
set_option maxRecDepth 100000 in
theorem ggX7_waste_X7_work : GoodIn wsX7_waste wsX7_work := goodIn_r _ [11, 12, 1, 2, 13, 14, 15, 10, 16, 17, 18, 19, 20, 21, 22, 23, 24, 25, 26, 27, 28, 29, 4, 6, 30, 31, 32, 33, 34, 35, 36, 37, 38, 39, 40, 41, 42, 43, 44, 45, 46, 47, 48, 49, 50, 51, 52, 53, 54, 55, 56, 57, 3, 58, 59, 60, 61, 62, 63, 64, 65, 66, 67, 68, 69, 70, 71, 72, 73, 74, 75, 76, 77, 78, 5, 79, 80, 81, 82, 83, 84, 85, 86, 87, 88, 89, 90, 91, 92, 93, 94, 95, 96, 97, 98, 99, 100, 101, 102, 103, 104, 105, 106, 107, 108, 109, 110, 111, 112, 113, 114, 115, 116, 117, 118, 119, 120, 121, 122, 123, 124, 125, 126, 127, 128] rfl (by decide +kernel)
set_option maxRecDepth 100000 in
theorem gX7_waste_X7_work : GoodIn wsX7_waste (wsV RX7 185 RX7 yX7_work wsX7_work) := goodIn_app (goodIn_of _ (by decide +kernel)) ggX7_waste_X7_work
theorem dX7_waste_0 : decode cX7_waste 0 = .ok (.aload_n 0, 1) := by decide +kernel
theorem dX7_waste_1 : decode cX7_waste 1 = .ok (.invokevirtual 185, 3) := by decide +kernel
theorem dX7_waste_4 : decode cX7_waste 4 = .ok (.aload_n 0, 1) := by decide +kernel
theorem dX7_waste_5 : decode cX7_waste 5 = .ok (.getfield 7, 3) := by decide +kernel
theorem dX7_waste_8 : decode cX7_waste 8 = .ok (.aload_n 0, 1) := by decide +kernel
theorem dX7_waste_9 : decode cX7_waste 9 = .ok (.getfield 13, 3) := by decide +kernel
theorem dX7_waste_12 : decode cX7_waste 12 = .ok (.imul, 1) := by decide +kernel
theorem dX7_waste_13 : decode cX7_waste 13 = .ok (.istore_n 1, 1) := by decide +kernel
theorem dX7_waste_14 : decode cX7_waste 14 = .ok (.iconst 0, 1) := by decide +kernel
theorem dX7_waste_15 : decode cX7_waste 15 = .ok (.istore_n 2, 1) := by decide +kernel
theorem dX7_waste_16 : decode cX7_waste 16 = .ok (.iload_n 2, 1) := by decide +kernel
theorem dX7_waste_17 : decode cX7_waste 17 = .ok (.aload_n 0, 1) := by decide +kernel
theorem dX7_waste_18 : decode cX7_waste 18 = .ok (.getfield 168, 3) := by decide +kernel
theorem dX7_waste_21 : decode cX7_waste 21 = .ok (.if_icmp .ge 35, 3) := by decide +kernel
theorem dX7_waste_24 : decode cX7_waste 24 = .ok (.iload_n 1, 1) := by decide +kernel
theorem dX7_waste_25 : decode cX7_waste 25 = .ok (.aload_n 0, 1) := by decide +kernel
theorem dX7_waste_26 : decode cX7_waste 26 = .ok (.getfield 32, 3) := by decide +kernel
theorem dX7_waste_29 : decode cX7_waste 29 = .ok (.aload_n 0, 1) := by decide +kernel
theorem dX7_waste_30 : decode cX7_waste 30 = .ok (.getfield 52, 3) := by decide +kernel
theorem dX7_waste_33 : decode cX7_waste 33 = .ok (.iload_n 2, 1) := by decide +kernel
theorem dX7_waste_34 : decode cX7_waste 34 = .ok (.iaload, 1) := by decide +kernel
theorem dX7_waste_35 : decode cX7_waste 35 = .ok (.iaload, 1) := by decide +kernel
theorem dX7_waste_36 : decode cX7_waste 36 = .ok (.aload_n 0, 1) := by decide +kernel
theorem dX7_waste_37 : decode cX7_waste 37 = .ok (.getfield 35, 3) := by decide +kernel
theorem dX7_waste_40 : decode cX7_waste 40 = .ok (.aload_n 0, 1) := by decide +kernel
theorem dX7_waste_41 : decode cX7_waste 41 = .ok (.getfield 52, 3) := by decide +kernel
theorem dX7_waste_44 : decode cX7_waste 44 = .ok (.iload_n 2, 1) := by decide +kernel
theorem dX7_waste_45 : decode cX7_waste 45 = .ok (.iaload, 1) := by decide +kernel
theorem dX7_waste_46 : decode cX7_waste 46 = .ok (.iaload, 1) := by decide +kernel
theorem dX7_waste_47 : decode cX7_waste 47 = .ok (.imul, 1) := by decide +kernel
theorem dX7_waste_48 : decode cX7_waste 48 = .ok (.isub, 1) := by decide +kernel
theorem dX7_waste_49 : decode cX7_waste 49 = .ok (.istore_n 1, 1) := by decide +kernel
theorem dX7_waste_50 : decode cX7_waste 50 = .ok (.iinc 2 1, 3) := by decide +kernel
theorem dX7_waste_53 : decode cX7_waste 53 = .ok (.goto (-37), 3) := by decide +kernel
theorem dX7_waste_56 : decode cX7_waste 56 = .ok (.iload_n 1, 1) := by decide +kernel
theorem dX7_waste_57 : decode cX7_waste 57 = .ok (.ireturn, 1) := by decide +kernel
set_option maxRecDepth 100000 in
theorem ggX7_stock_X7_within : GoodIn wsX7_stock wsX7_within := goodIn_r _ [8] rfl (by decide +kernel)
set_option maxRecDepth 100000 in
theorem gX7_stock_X7_within : GoodIn wsX7_stock (va_wsS RX7 112 yX7_within wsX7_within) := goodIn_app (goodIn_of _ (by decide +kernel)) ggX7_stock_X7_within
theorem dX7_stock_0 : decode cX7_stock 0 = .ok (.iload_n 1, 1) := by decide +kernel
theorem dX7_stock_1 : decode cX7_stock 1 = .ok (.iconst 1, 1) := by decide +kernel
theorem dX7_stock_2 : decode cX7_stock 2 = .ok (.bipush 99, 2) := by decide +kernel
theorem dX7_stock_4 : decode cX7_stock 4 = .ok (.invokestatic 112, 3) := by decide +kernel
theorem dX7_stock_7 : decode cX7_stock 7 = .ok (.ifCond .eq 13, 3) := by decide +kernel
theorem dX7_stock_10 : decode cX7_stock 10 = .ok (.iload_n 2, 1) := by decide +kernel
theorem dX7_stock_11 : decode cX7_stock 11 = .ok (.iconst 1, 1) := by decide +kernel
theorem dX7_stock_12 : decode cX7_stock 12 = .ok (.bipush 100, 2) := by decide +kernel
theorem dX7_stock_14 : decode cX7_stock 14 = .ok (.invokestatic 112, 3) := by decide +kernel
theorem dX7_stock_17 : decode cX7_stock 17 = .ok (.ifCond .ne 6, 3) := by decide +kernel
theorem dX7_stock_20 : decode cX7_stock 20 = .ok (.bipush (-3), 2) := by decide +kernel
theorem dX7_stock_22 : decode cX7_stock 22 = .ok (.ireturn, 1) := by decide +kernel
theorem dX7_stock_23 : decode cX7_stock 23 = .ok (.aload_n 0, 1) := by decide +kernel
theorem dX7_stock_24 : decode cX7_stock 24 = .ok (.getfield 192, 3) := by decide +kernel
theorem dX7_stock_27 : decode cX7_stock 27 = .ok (.iconst 3, 1) := by decide +kernel
theorem dX7_stock_28 : decode cX7_stock 28 = .ok (.if_icmp .ne 6, 3) := by decide +kernel
theorem dX7_stock_31 : decode cX7_stock 31 = .ok (.bipush (-4), 2) := by decide +kernel
theorem dX7_stock_33 : decode cX7_stock 33 = .ok (.ireturn, 1) := by decide +kernel
theorem dX7_stock_34 : decode cX7_stock 34 = .ok (.aload_n 0, 1) := by decide +kernel
theorem dX7_stock_35 : decode cX7_stock 35 = .ok (.getfield 85, 3) := by decide +kernel
theorem dX7_stock_38 : decode cX7_stock 38 = .ok (.aload_n 0, 1) := by decide +kernel
theorem dX7_stock_39 : decode cX7_stock 39 = .ok (.getfield 192, 3) := by decide +kernel
theorem dX7_stock_42 : decode cX7_stock 42 = .ok (.iload_n 1, 1) := by decide +kernel
theorem dX7_stock_43 : decode cX7_stock 43 = .ok (.iastore, 1) := by decide +kernel
theorem dX7_stock_44 : decode cX7_stock 44 = .ok (.aload_n 0, 1) := by decide +kernel
theorem dX7_stock_45 : decode cX7_stock 45 = .ok (.getfield 88, 3) := by decide +kernel
theorem dX7_stock_48 : decode cX7_stock 48 = .ok (.aload_n 0, 1) := by decide +kernel
theorem dX7_stock_49 : decode cX7_stock 49 = .ok (.getfield 192, 3) := by decide +kernel
theorem dX7_stock_52 : decode cX7_stock 52 = .ok (.iload_n 2, 1) := by decide +kernel
theorem dX7_stock_53 : decode cX7_stock 53 = .ok (.iastore, 1) := by decide +kernel
theorem dX7_stock_54 : decode cX7_stock 54 = .ok (.aload_n 0, 1) := by decide +kernel
theorem dX7_stock_55 : decode cX7_stock 55 = .ok (.dup, 1) := by decide +kernel
theorem dX7_stock_56 : decode cX7_stock 56 = .ok (.getfield 192, 3) := by decide +kernel
theorem dX7_stock_59 : decode cX7_stock 59 = .ok (.iconst 1, 1) := by decide +kernel
theorem dX7_stock_60 : decode cX7_stock 60 = .ok (.iadd, 1) := by decide +kernel
theorem dX7_stock_61 : decode cX7_stock 61 = .ok (.putfield 192, 3) := by decide +kernel
theorem dX7_stock_64 : decode cX7_stock 64 = .ok (.aload_n 0, 1) := by decide +kernel
theorem dX7_stock_65 : decode cX7_stock 65 = .ok (.iconst 0, 1) := by decide +kernel
theorem dX7_stock_66 : decode cX7_stock 66 = .ok (.putfield 195, 3) := by decide +kernel
theorem dX7_stock_69 : decode cX7_stock 69 = .ok (.aload_n 0, 1) := by decide +kernel
theorem dX7_stock_70 : decode cX7_stock 70 = .ok (.getfield 192, 3) := by decide +kernel
theorem dX7_stock_73 : decode cX7_stock 73 = .ok (.iconst 1, 1) := by decide +kernel
theorem dX7_stock_74 : decode cX7_stock 74 = .ok (.isub, 1) := by decide +kernel
theorem dX7_stock_75 : decode cX7_stock 75 = .ok (.ireturn, 1) := by decide +kernel
set_option maxRecDepth 100000 in
theorem ggX7_order_X7_within : GoodIn wsX7_order wsX7_within := goodIn_r _ [8] rfl (by decide +kernel)
set_option maxRecDepth 100000 in
theorem gX7_order_X7_within : GoodIn wsX7_order (va_wsS RX7 112 yX7_within wsX7_within) := goodIn_app (goodIn_of _ (by decide +kernel)) ggX7_order_X7_within
theorem dX7_order_0 : decode cX7_order 0 = .ok (.iload_n 1, 1) := by decide +kernel
theorem dX7_order_1 : decode cX7_order 1 = .ok (.iconst 1, 1) := by decide +kernel
theorem dX7_order_2 : decode cX7_order 2 = .ok (.bipush 99, 2) := by decide +kernel
theorem dX7_order_4 : decode cX7_order 4 = .ok (.invokestatic 112, 3) := by decide +kernel
theorem dX7_order_7 : decode cX7_order 7 = .ok (.ifCond .eq 12, 3) := by decide +kernel
theorem dX7_order_10 : decode cX7_order 10 = .ok (.iload_n 2, 1) := by decide +kernel
theorem dX7_order_11 : decode cX7_order 11 = .ok (.iconst 0, 1) := by decide +kernel
theorem dX7_order_12 : decode cX7_order 12 = .ok (.iconst 5, 1) := by decide +kernel
theorem dX7_order_13 : decode cX7_order 13 = .ok (.invokestatic 112, 3) := by decide +kernel
theorem dX7_order_16 : decode cX7_order 16 = .ok (.ifCond .ne 6, 3) := by decide +kernel
theorem dX7_order_19 : decode cX7_order 19 = .ok (.bipush (-3), 2) := by decide +kernel
theorem dX7_order_21 : decode cX7_order 21 = .ok (.ireturn, 1) := by decide +kernel
theorem dX7_order_22 : decode cX7_order 22 = .ok (.aload_n 0, 1) := by decide +kernel
theorem dX7_order_23 : decode cX7_order 23 = .ok (.getfield 198, 3) := by decide +kernel
theorem dX7_order_26 : decode cX7_order 26 = .ok (.iconst 4, 1) := by decide +kernel
theorem dX7_order_27 : decode cX7_order 27 = .ok (.if_icmp .ne 6, 3) := by decide +kernel
theorem dX7_order_30 : decode cX7_order 30 = .ok (.bipush (-4), 2) := by decide +kernel
theorem dX7_order_32 : decode cX7_order 32 = .ok (.ireturn, 1) := by decide +kernel
theorem dX7_order_33 : decode cX7_order 33 = .ok (.aload_n 0, 1) := by decide +kernel
theorem dX7_order_34 : decode cX7_order 34 = .ok (.getfield 91, 3) := by decide +kernel
theorem dX7_order_37 : decode cX7_order 37 = .ok (.aload_n 0, 1) := by decide +kernel
theorem dX7_order_38 : decode cX7_order 38 = .ok (.getfield 198, 3) := by decide +kernel
theorem dX7_order_41 : decode cX7_order 41 = .ok (.iload_n 1, 1) := by decide +kernel
theorem dX7_order_42 : decode cX7_order 42 = .ok (.iastore, 1) := by decide +kernel
theorem dX7_order_43 : decode cX7_order 43 = .ok (.aload_n 0, 1) := by decide +kernel
theorem dX7_order_44 : decode cX7_order 44 = .ok (.getfield 94, 3) := by decide +kernel
theorem dX7_order_47 : decode cX7_order 47 = .ok (.aload_n 0, 1) := by decide +kernel
theorem dX7_order_48 : decode cX7_order 48 = .ok (.getfield 198, 3) := by decide +kernel
theorem dX7_order_51 : decode cX7_order 51 = .ok (.iload_n 2, 1) := by decide +kernel
theorem dX7_order_52 : decode cX7_order 52 = .ok (.iastore, 1) := by decide +kernel
theorem dX7_order_53 : decode cX7_order 53 = .ok (.aload_n 0, 1) := by decide +kernel
theorem dX7_order_54 : decode cX7_order 54 = .ok (.dup, 1) := by decide +kernel
theorem dX7_order_55 : decode cX7_order 55 = .ok (.getfield 198, 3) := by decide +kernel
theorem dX7_order_58 : decode cX7_order 58 = .ok (.iconst 1, 1) := by decide +kernel
theorem dX7_order_59 : decode cX7_order 59 = .ok (.iadd, 1) := by decide +kernel
theorem dX7_order_60 : decode cX7_order 60 = .ok (.putfield 198, 3) := by decide +kernel
theorem dX7_order_63 : decode cX7_order 63 = .ok (.aload_n 0, 1) := by decide +kernel
theorem dX7_order_64 : decode cX7_order 64 = .ok (.iconst 0, 1) := by decide +kernel
theorem dX7_order_65 : decode cX7_order 65 = .ok (.putfield 195, 3) := by decide +kernel
theorem dX7_order_68 : decode cX7_order 68 = .ok (.aload_n 0, 1) := by decide +kernel
theorem dX7_order_69 : decode cX7_order 69 = .ok (.getfield 198, 3) := by decide +kernel
theorem dX7_order_72 : decode cX7_order 72 = .ok (.iconst 1, 1) := by decide +kernel
theorem dX7_order_73 : decode cX7_order 73 = .ok (.isub, 1) := by decide +kernel
theorem dX7_order_74 : decode cX7_order 74 = .ok (.ireturn, 1) := by decide +kernel
set_option maxRecDepth 100000 in
theorem ggX7_demand_X7_within : GoodIn wsX7_demand wsX7_within := goodIn_r _ [7] rfl (by decide +kernel)
set_option maxRecDepth 100000 in
theorem gX7_demand_X7_within : GoodIn wsX7_demand (va_wsS RX7 112 yX7_within wsX7_within) := goodIn_app (goodIn_of _ (by decide +kernel)) ggX7_demand_X7_within
theorem dX7_demand_0 : decode cX7_demand 0 = .ok (.iload_n 1, 1) := by decide +kernel
theorem dX7_demand_1 : decode cX7_demand 1 = .ok (.iconst 0, 1) := by decide +kernel
theorem dX7_demand_2 : decode cX7_demand 2 = .ok (.aload_n 0, 1) := by decide +kernel
theorem dX7_demand_3 : decode cX7_demand 3 = .ok (.getfield 198, 3) := by decide +kernel
theorem dX7_demand_6 : decode cX7_demand 6 = .ok (.iconst 1, 1) := by decide +kernel
theorem dX7_demand_7 : decode cX7_demand 7 = .ok (.isub, 1) := by decide +kernel
theorem dX7_demand_8 : decode cX7_demand 8 = .ok (.invokestatic 112, 3) := by decide +kernel
theorem dX7_demand_11 : decode cX7_demand 11 = .ok (.ifCond .ne 6, 3) := by decide +kernel
theorem dX7_demand_14 : decode cX7_demand 14 = .ok (.bipush (-2), 2) := by decide +kernel
theorem dX7_demand_16 : decode cX7_demand 16 = .ok (.ireturn, 1) := by decide +kernel
theorem dX7_demand_17 : decode cX7_demand 17 = .ok (.iload_n 2, 1) := by decide +kernel
theorem dX7_demand_18 : decode cX7_demand 18 = .ok (.iconst 0, 1) := by decide +kernel
theorem dX7_demand_19 : decode cX7_demand 19 = .ok (.iconst 5, 1) := by decide +kernel
theorem dX7_demand_20 : decode cX7_demand 20 = .ok (.invokestatic 112, 3) := by decide +kernel
theorem dX7_demand_23 : decode cX7_demand 23 = .ok (.ifCond .ne 6, 3) := by decide +kernel
theorem dX7_demand_26 : decode cX7_demand 26 = .ok (.bipush (-3), 2) := by decide +kernel
theorem dX7_demand_28 : decode cX7_demand 28 = .ok (.ireturn, 1) := by decide +kernel
theorem dX7_demand_29 : decode cX7_demand 29 = .ok (.aload_n 0, 1) := by decide +kernel
theorem dX7_demand_30 : decode cX7_demand 30 = .ok (.getfield 94, 3) := by decide +kernel
theorem dX7_demand_33 : decode cX7_demand 33 = .ok (.iload_n 1, 1) := by decide +kernel
theorem dX7_demand_34 : decode cX7_demand 34 = .ok (.iaload, 1) := by decide +kernel
theorem dX7_demand_35 : decode cX7_demand 35 = .ok (.istore_n 3, 1) := by decide +kernel
theorem dX7_demand_36 : decode cX7_demand 36 = .ok (.aload_n 0, 1) := by decide +kernel
theorem dX7_demand_37 : decode cX7_demand 37 = .ok (.getfield 94, 3) := by decide +kernel
theorem dX7_demand_40 : decode cX7_demand 40 = .ok (.iload_n 1, 1) := by decide +kernel
theorem dX7_demand_41 : decode cX7_demand 41 = .ok (.iload_n 2, 1) := by decide +kernel
theorem dX7_demand_42 : decode cX7_demand 42 = .ok (.iastore, 1) := by decide +kernel
theorem dX7_demand_43 : decode cX7_demand 43 = .ok (.aload_n 0, 1) := by decide +kernel
theorem dX7_demand_44 : decode cX7_demand 44 = .ok (.iconst 0, 1) := by decide +kernel
theorem dX7_demand_45 : decode cX7_demand 45 = .ok (.putfield 195, 3) := by decide +kernel
theorem dX7_demand_48 : decode cX7_demand 48 = .ok (.iload_n 3, 1) := by decide +kernel
theorem dX7_demand_49 : decode cX7_demand 49 = .ok (.ireturn, 1) := by decide +kernel
set_option maxRecDepth 100000 in
theorem ggX7_blade_X7_within : GoodIn wsX7_blade wsX7_within := goodIn_r _ [6] rfl (by decide +kernel)
set_option maxRecDepth 100000 in
theorem gX7_blade_X7_within : GoodIn wsX7_blade (va_wsS RX7 112 yX7_within wsX7_within) := goodIn_app (goodIn_of _ (by decide +kernel)) ggX7_blade_X7_within
theorem dX7_blade_0 : decode cX7_blade 0 = .ok (.iload_n 1, 1) := by decide +kernel
theorem dX7_blade_1 : decode cX7_blade 1 = .ok (.iconst 0, 1) := by decide +kernel
theorem dX7_blade_2 : decode cX7_blade 2 = .ok (.iconst 3, 1) := by decide +kernel
theorem dX7_blade_3 : decode cX7_blade 3 = .ok (.invokestatic 112, 3) := by decide +kernel
theorem dX7_blade_6 : decode cX7_blade 6 = .ok (.ifCond .ne 6, 3) := by decide +kernel
theorem dX7_blade_9 : decode cX7_blade 9 = .ok (.bipush (-3), 2) := by decide +kernel
theorem dX7_blade_11 : decode cX7_blade 11 = .ok (.ireturn, 1) := by decide +kernel
theorem dX7_blade_12 : decode cX7_blade 12 = .ok (.aload_n 0, 1) := by decide +kernel
theorem dX7_blade_13 : decode cX7_blade 13 = .ok (.getfield 201, 3) := by decide +kernel
theorem dX7_blade_16 : decode cX7_blade 16 = .ok (.istore_n 2, 1) := by decide +kernel
theorem dX7_blade_17 : decode cX7_blade 17 = .ok (.aload_n 0, 1) := by decide +kernel
theorem dX7_blade_18 : decode cX7_blade 18 = .ok (.iload_n 1, 1) := by decide +kernel
theorem dX7_blade_19 : decode cX7_blade 19 = .ok (.putfield 201, 3) := by decide +kernel
theorem dX7_blade_22 : decode cX7_blade 22 = .ok (.aload_n 0, 1) := by decide +kernel
theorem dX7_blade_23 : decode cX7_blade 23 = .ok (.iconst 0, 1) := by decide +kernel
theorem dX7_blade_24 : decode cX7_blade 24 = .ok (.putfield 195, 3) := by decide +kernel
theorem dX7_blade_27 : decode cX7_blade 27 = .ok (.iload_n 2, 1) := by decide +kernel
theorem dX7_blade_28 : decode cX7_blade 28 = .ok (.ireturn, 1) := by decide +kernel
theorem dX7_digit_0 : decode cX7_digit 0 = .ok (.iload_n 0, 1) := by decide +kernel
theorem dX7_digit_1 : decode cX7_digit 1 = .ok (.istore_n 2, 1) := by decide +kernel
theorem dX7_digit_2 : decode cX7_digit 2 = .ok (.iload_n 1, 1) := by decide +kernel
theorem dX7_digit_3 : decode cX7_digit 3 = .ok (.istore_n 3, 1) := by decide +kernel
theorem dX7_digit_4 : decode cX7_digit 4 = .ok (.iload_n 3, 1) := by decide +kernel
theorem dX7_digit_5 : decode cX7_digit 5 = .ok (.iconst 3, 1) := by decide +kernel
theorem dX7_digit_6 : decode cX7_digit 6 = .ok (.if_icmp .ge 14, 3) := by decide +kernel
theorem dX7_digit_9 : decode cX7_digit 9 = .ok (.iload_n 2, 1) := by decide +kernel
theorem dX7_digit_10 : decode cX7_digit 10 = .ok (.bipush 6, 2) := by decide +kernel
theorem dX7_digit_12 : decode cX7_digit 12 = .ok (.idiv, 1) := by decide +kernel
theorem dX7_digit_13 : decode cX7_digit 13 = .ok (.istore_n 2, 1) := by decide +kernel
theorem dX7_digit_14 : decode cX7_digit 14 = .ok (.iinc 3 1, 3) := by decide +kernel
theorem dX7_digit_17 : decode cX7_digit 17 = .ok (.goto (-13), 3) := by decide +kernel
theorem dX7_digit_20 : decode cX7_digit 20 = .ok (.iload_n 2, 1) := by decide +kernel
theorem dX7_digit_21 : decode cX7_digit 21 = .ok (.bipush 6, 2) := by decide +kernel
theorem dX7_digit_23 : decode cX7_digit 23 = .ok (.irem, 1) := by decide +kernel
theorem dX7_digit_24 : decode cX7_digit 24 = .ok (.ireturn, 1) := by decide +kernel
theorem dX7_all_0 : decode cX7_all 0 = .ok (.iconst 0, 1) := by decide +kernel
theorem dX7_all_1 : decode cX7_all 1 = .ok (.istore_n 1, 1) := by decide +kernel
theorem dX7_all_2 : decode cX7_all 2 = .ok (.iconst 0, 1) := by decide +kernel
theorem dX7_all_3 : decode cX7_all 3 = .ok (.istore_n 2, 1) := by decide +kernel
theorem dX7_all_4 : decode cX7_all 4 = .ok (.iload_n 2, 1) := by decide +kernel
theorem dX7_all_5 : decode cX7_all 5 = .ok (.iconst 4, 1) := by decide +kernel
theorem dX7_all_6 : decode cX7_all 6 = .ok (.if_icmp .ge 33, 3) := by decide +kernel
theorem dX7_all_9 : decode cX7_all 9 = .ok (.bipush 6, 2) := by decide +kernel
theorem dX7_all_11 : decode cX7_all 11 = .ok (.iload_n 1, 1) := by decide +kernel
theorem dX7_all_12 : decode cX7_all 12 = .ok (.imul, 1) := by decide +kernel
theorem dX7_all_13 : decode cX7_all 13 = .ok (.iload_n 2, 1) := by decide +kernel
theorem dX7_all_14 : decode cX7_all 14 = .ok (.aload_n 0, 1) := by decide +kernel
theorem dX7_all_15 : decode cX7_all 15 = .ok (.getfield 198, 3) := by decide +kernel
theorem dX7_all_18 : decode cX7_all 18 = .ok (.if_icmp .ge 12, 3) := by decide +kernel
theorem dX7_all_21 : decode cX7_all 21 = .ok (.aload_n 0, 1) := by decide +kernel
theorem dX7_all_22 : decode cX7_all 22 = .ok (.getfield 94, 3) := by decide +kernel
theorem dX7_all_25 : decode cX7_all 25 = .ok (.iload_n 2, 1) := by decide +kernel
theorem dX7_all_26 : decode cX7_all 26 = .ok (.iaload, 1) := by decide +kernel
theorem dX7_all_27 : decode cX7_all 27 = .ok (.goto 4, 3) := by decide +kernel
theorem dX7_all_30 : decode cX7_all 30 = .ok (.iconst 0, 1) := by decide +kernel
theorem dX7_all_31 : decode cX7_all 31 = .ok (.iadd, 1) := by decide +kernel
theorem dX7_all_32 : decode cX7_all 32 = .ok (.istore_n 1, 1) := by decide +kernel
theorem dX7_all_33 : decode cX7_all 33 = .ok (.iinc 2 1, 3) := by decide +kernel
theorem dX7_all_36 : decode cX7_all 36 = .ok (.goto (-32), 3) := by decide +kernel
theorem dX7_all_39 : decode cX7_all 39 = .ok (.iload_n 1, 1) := by decide +kernel
theorem dX7_all_40 : decode cX7_all 40 = .ok (.ireturn, 1) := by decide +kernel
set_option maxRecDepth 100000 in
theorem ggX7_isIn_X7_digit : GoodIn wsX7_isIn wsX7_digit := goodIn_r _ [4] rfl (by decide +kernel)
set_option maxRecDepth 100000 in
theorem gX7_isIn_X7_digit : GoodIn wsX7_isIn (va_wsS RX7 204 yX7_digit wsX7_digit) := goodIn_app (goodIn_of _ (by decide +kernel)) ggX7_isIn_X7_digit
theorem dX7_isIn_0 : decode cX7_isIn 0 = .ok (.iconst 1, 1) := by decide +kernel
theorem dX7_isIn_1 : decode cX7_isIn 1 = .ok (.istore_n 2, 1) := by decide +kernel
theorem dX7_isIn_2 : decode cX7_isIn 2 = .ok (.iconst 0, 1) := by decide +kernel
theorem dX7_isIn_3 : decode cX7_isIn 3 = .ok (.istore_n 3, 1) := by decide +kernel
theorem dX7_isIn_4 : decode cX7_isIn 4 = .ok (.iload_n 3, 1) := by decide +kernel
theorem dX7_isIn_5 : decode cX7_isIn 5 = .ok (.iconst 4, 1) := by decide +kernel
theorem dX7_isIn_6 : decode cX7_isIn 6 = .ok (.if_icmp .ge 32, 3) := by decide +kernel
theorem dX7_isIn_9 : decode cX7_isIn 9 = .ok (.iload_n 2, 1) := by decide +kernel
theorem dX7_isIn_10 : decode cX7_isIn 10 = .ok (.ifCond .eq 20, 3) := by decide +kernel
theorem dX7_isIn_13 : decode cX7_isIn 13 = .ok (.iload_n 0, 1) := by decide +kernel
theorem dX7_isIn_14 : decode cX7_isIn 14 = .ok (.iload_n 3, 1) := by decide +kernel
theorem dX7_isIn_15 : decode cX7_isIn 15 = .ok (.invokestatic 204, 3) := by decide +kernel
theorem dX7_isIn_18 : decode cX7_isIn 18 = .ok (.iload_n 1, 1) := by decide +kernel
theorem dX7_isIn_19 : decode cX7_isIn 19 = .ok (.iload_n 3, 1) := by decide +kernel
theorem dX7_isIn_20 : decode cX7_isIn 20 = .ok (.invokestatic 204, 3) := by decide +kernel
theorem dX7_isIn_23 : decode cX7_isIn 23 = .ok (.if_icmp .gt 7, 3) := by decide +kernel
theorem dX7_isIn_26 : decode cX7_isIn 26 = .ok (.iconst 1, 1) := by decide +kernel
theorem dX7_isIn_27 : decode cX7_isIn 27 = .ok (.goto 4, 3) := by decide +kernel
theorem dX7_isIn_30 : decode cX7_isIn 30 = .ok (.iconst 0, 1) := by decide +kernel
theorem dX7_isIn_31 : decode cX7_isIn 31 = .ok (.istore_n 2, 1) := by decide +kernel
theorem dX7_isIn_32 : decode cX7_isIn 32 = .ok (.iinc 3 1, 3) := by decide +kernel
theorem dX7_isIn_35 : decode cX7_isIn 35 = .ok (.goto (-31), 3) := by decide +kernel
theorem dX7_isIn_38 : decode cX7_isIn 38 = .ok (.iload_n 2, 1) := by decide +kernel
theorem dX7_isIn_39 : decode cX7_isIn 39 = .ok (.ireturn, 1) := by decide +kernel
set_option maxRecDepth 100000 in
theorem ggX7_findPattern_X7_digit : GoodIn wsX7_findPattern wsX7_digit := goodIn_r _ [12] rfl (by decide +kernel)
set_option maxRecDepth 100000 in
theorem gX7_findPattern_X7_digit : GoodIn wsX7_findPattern (va_wsS RX7 204 yX7_digit wsX7_digit) := goodIn_app (goodIn_of _ (by decide +kernel)) ggX7_findPattern_X7_digit
theorem dX7_findPattern_0 : decode cX7_findPattern 0 = .ok (.iconst 0, 1) := by decide +kernel
theorem dX7_findPattern_1 : decode cX7_findPattern 1 = .ok (.aload_n 0, 1) := by decide +kernel
theorem dX7_findPattern_2 : decode cX7_findPattern 2 = .ok (.getfield 201, 3) := by decide +kernel
theorem dX7_findPattern_5 : decode cX7_findPattern 5 = .ok (.isub, 1) := by decide +kernel
theorem dX7_findPattern_6 : decode cX7_findPattern 6 = .ok (.istore_n 2, 1) := by decide +kernel
theorem dX7_findPattern_7 : decode cX7_findPattern 7 = .ok (.iconst 0, 1) := by decide +kernel
theorem dX7_findPattern_8 : decode cX7_findPattern 8 = .ok (.istore_n 3, 1) := by decide +kernel
theorem dX7_findPattern_9 : decode cX7_findPattern 9 = .ok (.iload_n 3, 1) := by decide +kernel
theorem dX7_findPattern_10 : decode cX7_findPattern 10 = .ok (.aload_n 0, 1) := by decide +kernel
theorem dX7_findPattern_11 : decode cX7_findPattern 11 = .ok (.getfield 198, 3) := by decide +kernel
theorem dX7_findPattern_14 : decode cX7_findPattern 14 = .ok (.if_icmp .ge 29, 3) := by decide +kernel
theorem dX7_findPattern_17 : decode cX7_findPattern 17 = .ok (.iload_n 2, 1) := by decide +kernel
theorem dX7_findPattern_18 : decode cX7_findPattern 18 = .ok (.iload_n 1, 1) := by decide +kernel
theorem dX7_findPattern_19 : decode cX7_findPattern 19 = .ok (.iload_n 3, 1) := by decide +kernel
theorem dX7_findPattern_20 : decode cX7_findPattern 20 = .ok (.invokestatic 204, 3) := by decide +kernel
theorem dX7_findPattern_23 : decode cX7_findPattern 23 = .ok (.aload_n 0, 1) := by decide +kernel
theorem dX7_findPattern_24 : decode cX7_findPattern 24 = .ok (.getfield 91, 3) := by decide +kernel
theorem dX7_findPattern_27 : decode cX7_findPattern 27 = .ok (.iload_n 3, 1) := by decide +kernel
theorem dX7_findPattern_28 : decode cX7_findPattern 28 = .ok (.iaload, 1) := by decide +kernel
theorem dX7_findPattern_29 : decode cX7_findPattern 29 = .ok (.aload_n 0, 1) := by decide +kernel
theorem dX7_findPattern_30 : decode cX7_findPattern 30 = .ok (.getfield 201, 3) := by decide +kernel
theorem dX7_findPattern_33 : decode cX7_findPattern 33 = .ok (.iadd, 1) := by decide +kernel
theorem dX7_findPattern_34 : decode cX7_findPattern 34 = .ok (.imul, 1) := by decide +kernel
theorem dX7_findPattern_35 : decode cX7_findPattern 35 = .ok (.iadd, 1) := by decide +kernel
theorem dX7_findPattern_36 : decode cX7_findPattern 36 = .ok (.istore_n 2, 1) := by decide +kernel
theorem dX7_findPattern_37 : decode cX7_findPattern 37 = .ok (.iinc 3 1, 3) := by decide +kernel
theorem dX7_findPattern_40 : decode cX7_findPattern 40 = .ok (.goto (-31), 3) := by decide +kernel
theorem dX7_findPattern_43 : decode cX7_findPattern 43 = .ok (.aload_n 0, 1) := by decide +kernel
theorem dX7_findPattern_44 : decode cX7_findPattern 44 = .ok (.getfield 106, 3) := by decide +kernel
theorem dX7_findPattern_47 : decode cX7_findPattern 47 = .ok (.iload_n 1, 1) := by decide +kernel
theorem dX7_findPattern_48 : decode cX7_findPattern 48 = .ok (.iload_n 2, 1) := by decide +kernel
theorem dX7_findPattern_49 : decode cX7_findPattern 49 = .ok (.iastore, 1) := by decide +kernel
theorem dX7_findPattern_50 : decode cX7_findPattern 50 = .ok (.iconst (-1), 1) := by decide +kernel
theorem dX7_findPattern_51 : decode cX7_findPattern 51 = .ok (.istore_n 3, 1) := by decide +kernel
theorem dX7_findPattern_52 : decode cX7_findPattern 52 = .ok (.iconst 0, 1) := by decide +kernel
theorem dX7_findPattern_53 : decode cX7_findPattern 53 = .ok (.istore 4, 2) := by decide +kernel
theorem dX7_findPattern_55 : decode cX7_findPattern 55 = .ok (.iload 4, 2) := by decide +kernel
theorem dX7_findPattern_57 : decode cX7_findPattern 57 = .ok (.aload_n 0, 1) := by decide +kernel
theorem dX7_findPattern_58 : decode cX7_findPattern 58 = .ok (.getfield 192, 3) := by decide +kernel
theorem dX7_findPattern_61 : decode cX7_findPattern 61 = .ok (.if_icmp .ge 44, 3) := by decide +kernel
theorem dX7_findPattern_64 : decode cX7_findPattern 64 = .ok (.aload_n 0, 1) := by decide +kernel
theorem dX7_findPattern_65 : decode cX7_findPattern 65 = .ok (.getfield 85, 3) := by decide +kernel
theorem dX7_findPattern_68 : decode cX7_findPattern 68 = .ok (.iload 4, 2) := by decide +kernel
theorem dX7_findPattern_70 : decode cX7_findPattern 70 = .ok (.iaload, 1) := by decide +kernel
theorem dX7_findPattern_71 : decode cX7_findPattern 71 = .ok (.iload_n 2, 1) := by decide +kernel
theorem dX7_findPattern_72 : decode cX7_findPattern 72 = .ok (.if_icmp .lt 27, 3) := by decide +kernel
theorem dX7_findPattern_75 : decode cX7_findPattern 75 = .ok (.iload_n 3, 1) := by decide +kernel
theorem dX7_findPattern_76 : decode cX7_findPattern 76 = .ok (.iconst (-1), 1) := by decide +kernel
theorem dX7_findPattern_77 : decode cX7_findPattern 77 = .ok (.if_icmp .eq 19, 3) := by decide +kernel
theorem dX7_findPattern_80 : decode cX7_findPattern 80 = .ok (.aload_n 0, 1) := by decide +kernel
theorem dX7_findPattern_81 : decode cX7_findPattern 81 = .ok (.getfield 88, 3) := by decide +kernel
theorem dX7_findPattern_84 : decode cX7_findPattern 84 = .ok (.iload 4, 2) := by decide +kernel
theorem dX7_findPattern_86 : decode cX7_findPattern 86 = .ok (.iaload, 1) := by decide +kernel
theorem dX7_findPattern_87 : decode cX7_findPattern 87 = .ok (.aload_n 0, 1) := by decide +kernel
theorem dX7_findPattern_88 : decode cX7_findPattern 88 = .ok (.getfield 88, 3) := by decide +kernel
theorem dX7_findPattern_91 : decode cX7_findPattern 91 = .ok (.iload_n 3, 1) := by decide +kernel
theorem dX7_findPattern_92 : decode cX7_findPattern 92 = .ok (.iaload, 1) := by decide +kernel
theorem dX7_findPattern_93 : decode cX7_findPattern 93 = .ok (.if_icmp .ge 6, 3) := by decide +kernel
theorem dX7_findPattern_96 : decode cX7_findPattern 96 = .ok (.iload 4, 2) := by decide +kernel
theorem dX7_findPattern_98 : decode cX7_findPattern 98 = .ok (.istore_n 3, 1) := by decide +kernel
theorem dX7_findPattern_99 : decode cX7_findPattern 99 = .ok (.iinc 4 1, 3) := by decide +kernel
theorem dX7_findPattern_102 : decode cX7_findPattern 102 = .ok (.goto (-47), 3) := by decide +kernel
theorem dX7_findPattern_105 : decode cX7_findPattern 105 = .ok (.aload_n 0, 1) := by decide +kernel
theorem dX7_findPattern_106 : decode cX7_findPattern 106 = .ok (.getfield 103, 3) := by decide +kernel
theorem dX7_findPattern_109 : decode cX7_findPattern 109 = .ok (.iload_n 1, 1) := by decide +kernel
theorem dX7_findPattern_110 : decode cX7_findPattern 110 = .ok (.iload_n 3, 1) := by decide +kernel
theorem dX7_findPattern_111 : decode cX7_findPattern 111 = .ok (.iastore, 1) := by decide +kernel
theorem dX7_findPattern_112 : decode cX7_findPattern 112 = .ok (.return_, 1) := by decide +kernel
set_option maxRecDepth 100000 in
theorem ggX7_list_X7_all : GoodIn wsX7_list wsX7_all := goodIn_r _ [13, 14, 15, 39, 40, 41, 42, 43, 44, 45, 46, 47, 48, 49, 50, 51, 52, 53, 54, 55, 56, 57, 58, 59, 60, 61, 62, 63, 64, 65, 66, 67, 68, 69, 70, 71, 72, 73, 74, 75, 76, 77, 78, 79, 80, 81, 82, 83, 84, 85] rfl (by decide +kernel)
set_option maxRecDepth 100000 in
theorem gX7_list_X7_all : GoodIn wsX7_list (wsV RX7 208 RX7 yX7_all wsX7_all) := goodIn_app (goodIn_of _ (by decide +kernel)) ggX7_list_X7_all
set_option maxRecDepth 100000 in
theorem ggX7_list_X7_isIn : GoodIn wsX7_list wsX7_isIn := goodIn_r _ [18, 19, 20, 12, 21] rfl (by decide +kernel)
set_option maxRecDepth 100000 in
theorem gX7_list_X7_isIn : GoodIn wsX7_list (va_wsS RX7 212 yX7_isIn wsX7_isIn) := goodIn_app (goodIn_of _ (by decide +kernel)) ggX7_list_X7_isIn
set_option maxRecDepth 100000 in
theorem ggX7_list_X7_findPattern : GoodIn wsX7_list wsX7_findPattern := goodIn_r _ [25, 26, 14, 27, 28, 29, 30, 5, 4, 19, 20, 12, 21, 39, 40, 41, 42, 43, 44, 45, 46, 47, 48, 49, 50, 51, 52, 53, 54, 55, 56, 57, 58, 59, 60, 61, 62, 63, 64, 65, 66, 67, 68, 69, 70, 71, 72, 73, 74, 75, 76, 77, 78, 79, 80, 81, 82, 83, 84, 85] rfl (by decide +kernel)
set_option maxRecDepth 100000 in
theorem gX7_list_X7_findPattern : GoodIn wsX7_list (wsV RX7 216 RX7 yX7_findPattern wsX7_findPattern) := goodIn_app (goodIn_of _ (by decide +kernel)) ggX7_list_X7_findPattern
set_option maxRecDepth 100000 in
theorem ggX7_list_X7_reach : GoodIn wsX7_list wsX7_reach := goodIn_r _ [34, 2, 3, 39, 40, 41, 42, 43, 44, 45, 46, 47, 48, 49, 50, 51, 52, 53, 54, 55, 56, 57, 58, 59, 60, 61, 62, 63, 64, 65, 66, 67, 68, 69, 70, 71, 72, 73, 74, 75, 76, 77, 78, 79, 80, 81, 82, 83, 84, 85] rfl (by decide +kernel)
set_option maxRecDepth 100000 in
theorem gX7_list_X7_reach : GoodIn wsX7_list (wsV RX7 220 RX7 yX7_reach wsX7_reach) := goodIn_app (goodIn_of _ (by decide +kernel)) ggX7_list_X7_reach
set_option maxRecDepth 100000 in
theorem ggX7_list_X7_isBest : GoodIn wsX7_list wsX7_isBest := goodIn_r _ [38, 4, 2, 5, 3, 16, 17, 12, 18, 19, 20, 21, 39, 40, 41, 42, 43, 44, 45, 46, 47, 48, 49, 50, 51, 52, 53, 54, 55, 56, 57, 58, 59, 60, 61, 62, 63, 64, 65, 66, 67, 68, 69, 70, 71, 72, 73, 74, 75, 76, 77, 78, 79, 80, 81, 82, 83, 84, 85] rfl (by decide +kernel)
set_option maxRecDepth 100000 in
theorem gX7_list_X7_isBest : GoodIn wsX7_list (wsV RX7 230 RX7 yX7_isBest wsX7_isBest) := goodIn_app (goodIn_of _ (by decide +kernel)) ggX7_list_X7_isBest
theorem dX7_list_0 : decode cX7_list 0 = .ok (.aload_n 0, 1) := by decide +kernel
theorem dX7_list_1 : decode cX7_list 1 = .ok (.getfield 195, 3) := by decide +kernel
theorem dX7_list_4 : decode cX7_list 4 = .ok (.ifCond .eq 4, 3) := by decide +kernel
theorem dX7_list_7 : decode cX7_list 7 = .ok (.return_, 1) := by decide +kernel
theorem dX7_list_8 : decode cX7_list 8 = .ok (.aload_n 0, 1) := by decide +kernel
theorem dX7_list_9 : decode cX7_list 9 = .ok (.iconst 1, 1) := by decide +kernel
theorem dX7_list_10 : decode cX7_list 10 = .ok (.putfield 195, 3) := by decide +kernel
theorem dX7_list_13 : decode cX7_list 13 = .ok (.aload_n 0, 1) := by decide +kernel
theorem dX7_list_14 : decode cX7_list 14 = .ok (.invokevirtual 208, 3) := by decide +kernel
theorem dX7_list_17 : decode cX7_list 17 = .ok (.istore_n 1, 1) := by decide +kernel
theorem dX7_list_18 : decode cX7_list 18 = .ok (.iconst 0, 1) := by decide +kernel
theorem dX7_list_19 : decode cX7_list 19 = .ok (.istore_n 2, 1) := by decide +kernel
theorem dX7_list_20 : decode cX7_list 20 = .ok (.iload_n 2, 1) := by decide +kernel
theorem dX7_list_21 : decode cX7_list 21 = .ok (.iload_n 1, 1) := by decide +kernel
theorem dX7_list_22 : decode cX7_list 22 = .ok (.if_icmp .gt 50, 3) := by decide +kernel
theorem dX7_list_25 : decode cX7_list 25 = .ok (.aload_n 0, 1) := by decide +kernel
theorem dX7_list_26 : decode cX7_list 26 = .ok (.getfield 97, 3) := by decide +kernel
theorem dX7_list_29 : decode cX7_list 29 = .ok (.iload_n 2, 1) := by decide +kernel
theorem dX7_list_30 : decode cX7_list 30 = .ok (.iconst (-1), 1) := by decide +kernel
theorem dX7_list_31 : decode cX7_list 31 = .ok (.iastore, 1) := by decide +kernel
theorem dX7_list_32 : decode cX7_list 32 = .ok (.aload_n 0, 1) := by decide +kernel
theorem dX7_list_33 : decode cX7_list 33 = .ok (.getfield 100, 3) := by decide +kernel
theorem dX7_list_36 : decode cX7_list 36 = .ok (.iload_n 2, 1) := by decide +kernel
theorem dX7_list_37 : decode cX7_list 37 = .ok (.iconst (-1), 1) := by decide +kernel
theorem dX7_list_38 : decode cX7_list 38 = .ok (.iastore, 1) := by decide +kernel
theorem dX7_list_39 : decode cX7_list 39 = .ok (.iload_n 2, 1) := by decide +kernel
theorem dX7_list_40 : decode cX7_list 40 = .ok (.ifCond .le 19, 3) := by decide +kernel
theorem dX7_list_43 : decode cX7_list 43 = .ok (.iload_n 2, 1) := by decide +kernel
theorem dX7_list_44 : decode cX7_list 44 = .ok (.iload_n 1, 1) := by decide +kernel
theorem dX7_list_45 : decode cX7_list 45 = .ok (.invokestatic 212, 3) := by decide +kernel
theorem dX7_list_48 : decode cX7_list 48 = .ok (.ifCond .eq 11, 3) := by decide +kernel
theorem dX7_list_51 : decode cX7_list 51 = .ok (.aload_n 0, 1) := by decide +kernel
theorem dX7_list_52 : decode cX7_list 52 = .ok (.iload_n 2, 1) := by decide +kernel
theorem dX7_list_53 : decode cX7_list 53 = .ok (.invokevirtual 216, 3) := by decide +kernel
theorem dX7_list_56 : decode cX7_list 56 = .ok (.goto 10, 3) := by decide +kernel
theorem dX7_list_59 : decode cX7_list 59 = .ok (.aload_n 0, 1) := by decide +kernel
theorem dX7_list_60 : decode cX7_list 60 = .ok (.getfield 103, 3) := by decide +kernel
theorem dX7_list_63 : decode cX7_list 63 = .ok (.iload_n 2, 1) := by decide +kernel
theorem dX7_list_64 : decode cX7_list 64 = .ok (.iconst (-1), 1) := by decide +kernel
theorem dX7_list_65 : decode cX7_list 65 = .ok (.iastore, 1) := by decide +kernel
theorem dX7_list_66 : decode cX7_list 66 = .ok (.iinc 2 1, 3) := by decide +kernel
theorem dX7_list_69 : decode cX7_list 69 = .ok (.goto (-49), 3) := by decide +kernel
theorem dX7_list_72 : decode cX7_list 72 = .ok (.aload_n 0, 1) := by decide +kernel
theorem dX7_list_73 : decode cX7_list 73 = .ok (.getfield 97, 3) := by decide +kernel
theorem dX7_list_76 : decode cX7_list 76 = .ok (.iconst 0, 1) := by decide +kernel
theorem dX7_list_77 : decode cX7_list 77 = .ok (.iconst 0, 1) := by decide +kernel
theorem dX7_list_78 : decode cX7_list 78 = .ok (.iastore, 1) := by decide +kernel
theorem dX7_list_79 : decode cX7_list 79 = .ok (.aload_n 0, 1) := by decide +kernel
theorem dX7_list_80 : decode cX7_list 80 = .ok (.getfield 100, 3) := by decide +kernel
theorem dX7_list_83 : decode cX7_list 83 = .ok (.iconst 0, 1) := by decide +kernel
theorem dX7_list_84 : decode cX7_list 84 = .ok (.iconst 0, 1) := by decide +kernel
theorem dX7_list_85 : decode cX7_list 85 = .ok (.iastore, 1) := by decide +kernel
theorem dX7_list_86 : decode cX7_list 86 = .ok (.iconst 0, 1) := by decide +kernel
theorem dX7_list_87 : decode cX7_list 87 = .ok (.istore_n 2, 1) := by decide +kernel
theorem dX7_list_88 : decode cX7_list 88 = .ok (.iload_n 2, 1) := by decide +kernel
theorem dX7_list_89 : decode cX7_list 89 = .ok (.iload_n 1, 1) := by decide +kernel
theorem dX7_list_90 : decode cX7_list 90 = .ok (.if_icmp .ge 87, 3) := by decide +kernel
theorem dX7_list_93 : decode cX7_list 93 = .ok (.iconst 1, 1) := by decide +kernel
theorem dX7_list_94 : decode cX7_list 94 = .ok (.istore_n 3, 1) := by decide +kernel
theorem dX7_list_95 : decode cX7_list 95 = .ok (.iload_n 3, 1) := by decide +kernel
theorem dX7_list_96 : decode cX7_list 96 = .ok (.iload_n 1, 1) := by decide +kernel
theorem dX7_list_97 : decode cX7_list 97 = .ok (.iload_n 2, 1) := by decide +kernel
theorem dX7_list_98 : decode cX7_list 98 = .ok (.isub, 1) := by decide +kernel
theorem dX7_list_99 : decode cX7_list 99 = .ok (.if_icmp .gt 72, 3) := by decide +kernel
theorem dX7_list_102 : decode cX7_list 102 = .ok (.aload_n 0, 1) := by decide +kernel
theorem dX7_list_103 : decode cX7_list 103 = .ok (.getfield 97, 3) := by decide +kernel
theorem dX7_list_106 : decode cX7_list 106 = .ok (.iload_n 2, 1) := by decide +kernel
theorem dX7_list_107 : decode cX7_list 107 = .ok (.iaload, 1) := by decide +kernel
theorem dX7_list_108 : decode cX7_list 108 = .ok (.iconst (-1), 1) := by decide +kernel
theorem dX7_list_109 : decode cX7_list 109 = .ok (.if_icmp .eq 62, 3) := by decide +kernel
theorem dX7_list_112 : decode cX7_list 112 = .ok (.aload_n 0, 1) := by decide +kernel
theorem dX7_list_113 : decode cX7_list 113 = .ok (.getfield 103, 3) := by decide +kernel
theorem dX7_list_116 : decode cX7_list 116 = .ok (.iload_n 3, 1) := by decide +kernel
theorem dX7_list_117 : decode cX7_list 117 = .ok (.iaload, 1) := by decide +kernel
theorem dX7_list_118 : decode cX7_list 118 = .ok (.iconst (-1), 1) := by decide +kernel
theorem dX7_list_119 : decode cX7_list 119 = .ok (.if_icmp .eq 46, 3) := by decide +kernel
theorem dX7_list_122 : decode cX7_list 122 = .ok (.iload_n 3, 1) := by decide +kernel
theorem dX7_list_123 : decode cX7_list 123 = .ok (.iload_n 1, 1) := by decide +kernel
theorem dX7_list_124 : decode cX7_list 124 = .ok (.iload_n 2, 1) := by decide +kernel
theorem dX7_list_125 : decode cX7_list 125 = .ok (.isub, 1) := by decide +kernel
theorem dX7_list_126 : decode cX7_list 126 = .ok (.invokestatic 212, 3) := by decide +kernel
theorem dX7_list_129 : decode cX7_list 129 = .ok (.ifCond .eq 36, 3) := by decide +kernel
theorem dX7_list_132 : decode cX7_list 132 = .ok (.aload_n 0, 1) := by decide +kernel
theorem dX7_list_133 : decode cX7_list 133 = .ok (.iload_n 2, 1) := by decide +kernel
theorem dX7_list_134 : decode cX7_list 134 = .ok (.iload_n 3, 1) := by decide +kernel
theorem dX7_list_135 : decode cX7_list 135 = .ok (.iadd, 1) := by decide +kernel
theorem dX7_list_136 : decode cX7_list 136 = .ok (.aload_n 0, 1) := by decide +kernel
theorem dX7_list_137 : decode cX7_list 137 = .ok (.getfield 97, 3) := by decide +kernel
theorem dX7_list_140 : decode cX7_list 140 = .ok (.iload_n 2, 1) := by decide +kernel
theorem dX7_list_141 : decode cX7_list 141 = .ok (.iaload, 1) := by decide +kernel
theorem dX7_list_142 : decode cX7_list 142 = .ok (.aload_n 0, 1) := by decide +kernel
theorem dX7_list_143 : decode cX7_list 143 = .ok (.getfield 88, 3) := by decide +kernel
theorem dX7_list_146 : decode cX7_list 146 = .ok (.aload_n 0, 1) := by decide +kernel
theorem dX7_list_147 : decode cX7_list 147 = .ok (.getfield 103, 3) := by decide +kernel
theorem dX7_list_150 : decode cX7_list 150 = .ok (.iload_n 3, 1) := by decide +kernel
theorem dX7_list_151 : decode cX7_list 151 = .ok (.iaload, 1) := by decide +kernel
