theorem dX6_value_44 : decode cX6_value 44 = .ok (.aload_n 0, 1) := by decide +kernel
theorem dX6_value_45 : decode cX6_value 45 = .ok (.getfield 27, 3) := by decide +kernel
theorem dX6_value_48 : decode cX6_value 48 = .ok (.getfield 86, 3) := by decide +kernel
theorem dX6_value_51 : decode cX6_value 51 = .ok (.iload_n 1, 1) := by decide +kernel
theorem dX6_value_52 : decode cX6_value 52 = .ok (.iload_n 2, 1) := by decide +kernel
theorem dX6_value_53 : decode cX6_value 53 = .ok (.iastore, 1) := by decide +kernel
theorem dX6_value_54 : decode cX6_value 54 = .ok (.aload_n 0, 1) := by decide +kernel
theorem dX6_value_55 : decode cX6_value 55 = .ok (.getfield 40, 3) := by decide +kernel
theorem dX6_value_58 : decode cX6_value 58 = .ok (.invokevirtual 65, 3) := by decide +kernel
theorem dX6_value_61 : decode cX6_value 61 = .ok (.iload_n 3, 1) := by decide +kernel
theorem dX6_value_62 : decode cX6_value 62 = .ok (.ireturn, 1) := by decide +kernel
set_option maxRecDepth 100000 in
theorem ggX6_worth_X4_holds : GoodIn wsX6_worth wsX4_holds := goodIn_r _ [8, 9, 10, 11, 12, 13, 113, 114, 115, 116, 117, 118, 119] rfl (by decide +kernel)
set_option maxRecDepth 100000 in
theorem gX6_worth_X4_holds : GoodIn wsX6_worth (wsV RX6 68 RX4 yX4_holds wsX4_holds) := goodIn_app (goodIn_of _ (by decide +kernel)) ggX6_worth_X4_holds
set_option maxRecDepth 100000 in
theorem ggX6_worth_X6_within : GoodIn wsX6_worth wsX6_within := goodIn_r _ [13] rfl (by decide +kernel)
set_option maxRecDepth 100000 in
theorem gX6_worth_X6_within : GoodIn wsX6_worth (va_wsS RX6 57 yX6_within wsX6_within) := goodIn_app (goodIn_of _ (by decide +kernel)) ggX6_worth_X6_within
set_option maxRecDepth 100000 in
theorem ggX6_worth_X5_makeReady : GoodIn wsX6_worth wsX5_makeReady := goodIn_r _ [19, 20, 21, 22, 23, 24, 25, 18, 26, 27, 28, 29, 30, 31, 32, 33, 11, 12, 13, 34, 35, 36, 37, 38, 39, 40, 41, 42, 43, 44, 45, 46, 47, 48, 49, 50, 51, 52, 53, 54, 55, 56, 57, 58, 59, 60, 61, 62, 63, 64, 65, 66, 67, 68, 69, 7, 70, 71, 72, 73, 74, 75, 76, 77, 78, 79, 80, 81, 82, 83, 84, 85, 86, 87, 88, 89, 90, 91, 92, 93, 94, 95, 96, 97, 98, 99, 100, 101, 102, 120, 121, 122, 123, 124, 113, 114, 115, 116, 117, 118, 119, 125, 126, 127, 128, 129] rfl (by decide +kernel)
set_option maxRecDepth 100000 in
theorem gX6_worth_X5_makeReady : GoodIn wsX6_worth (wsV RX6 93 RX5 yX5_makeReady wsX5_makeReady) := goodIn_app (goodIn_of _ (by decide +kernel)) ggX6_worth_X5_makeReady
set_option maxRecDepth 100000 in
theorem ggX6_worth_X5_of : GoodIn wsX6_worth wsX5_of := goodIn_r _ [106, 21, 22, 86, 63, 64, 65, 18, 66, 27, 30, 31, 32, 33, 11, 12, 13, 93, 94, 95, 96, 97, 98, 120, 121, 122, 123, 124, 113, 114, 115, 116, 117, 118, 119] rfl (by decide +kernel)
set_option maxRecDepth 100000 in
theorem gX6_worth_X5_of : GoodIn wsX6_worth (wsV RX6 96 RX5 yX5_of wsX5_of) := goodIn_app (goodIn_of _ (by decide +kernel)) ggX6_worth_X5_of
theorem dX6_worth_0 : decode cX6_worth 0 = .ok (.aload_n 0, 1) := by decide +kernel
theorem dX6_worth_1 : decode cX6_worth 1 = .ok (.getfield 23, 3) := by decide +kernel
theorem dX6_worth_4 : decode cX6_worth 4 = .ok (.iload_n 1, 1) := by decide +kernel
theorem dX6_worth_5 : decode cX6_worth 5 = .ok (.iload_n 2, 1) := by decide +kernel
theorem dX6_worth_6 : decode cX6_worth 6 = .ok (.iload_n 3, 1) := by decide +kernel
theorem dX6_worth_7 : decode cX6_worth 7 = .ok (.iload 4, 2) := by decide +kernel
theorem dX6_worth_9 : decode cX6_worth 9 = .ok (.invokevirtual 68, 3) := by decide +kernel
theorem dX6_worth_12 : decode cX6_worth 12 = .ok (.ifCond .eq 19, 3) := by decide +kernel
theorem dX6_worth_15 : decode cX6_worth 15 = .ok (.iload 5, 2) := by decide +kernel
theorem dX6_worth_17 : decode cX6_worth 17 = .ok (.iconst 1, 1) := by decide +kernel
theorem dX6_worth_18 : decode cX6_worth 18 = .ok (.aload_n 0, 1) := by decide +kernel
theorem dX6_worth_19 : decode cX6_worth 19 = .ok (.getfield 23, 3) := by decide +kernel
theorem dX6_worth_22 : decode cX6_worth 22 = .ok (.getfield 90, 3) := by decide +kernel
theorem dX6_worth_25 : decode cX6_worth 25 = .ok (.invokestatic 57, 3) := by decide +kernel
theorem dX6_worth_28 : decode cX6_worth 28 = .ok (.ifCond .ne 6, 3) := by decide +kernel
theorem dX6_worth_31 : decode cX6_worth 31 = .ok (.bipush (-3), 2) := by decide +kernel
theorem dX6_worth_33 : decode cX6_worth 33 = .ok (.ireturn, 1) := by decide +kernel
theorem dX6_worth_34 : decode cX6_worth 34 = .ok (.aload_n 0, 1) := by decide +kernel
theorem dX6_worth_35 : decode cX6_worth 35 = .ok (.getfield 31, 3) := by decide +kernel
theorem dX6_worth_38 : decode cX6_worth 38 = .ok (.invokevirtual 93, 3) := by decide +kernel
theorem dX6_worth_41 : decode cX6_worth 41 = .ok (.aload_n 0, 1) := by decide +kernel
theorem dX6_worth_42 : decode cX6_worth 42 = .ok (.getfield 31, 3) := by decide +kernel
theorem dX6_worth_45 : decode cX6_worth 45 = .ok (.iload_n 1, 1) := by decide +kernel
theorem dX6_worth_46 : decode cX6_worth 46 = .ok (.iload_n 2, 1) := by decide +kernel
theorem dX6_worth_47 : decode cX6_worth 47 = .ok (.iload_n 3, 1) := by decide +kernel
theorem dX6_worth_48 : decode cX6_worth 48 = .ok (.iload 4, 2) := by decide +kernel
theorem dX6_worth_50 : decode cX6_worth 50 = .ok (.iload 5, 2) := by decide +kernel
theorem dX6_worth_52 : decode cX6_worth 52 = .ok (.invokevirtual 96, 3) := by decide +kernel
theorem dX6_worth_55 : decode cX6_worth 55 = .ok (.ireturn, 1) := by decide +kernel
set_option maxRecDepth 100000 in
theorem ggX6_pieces_X2_makeReady : GoodIn wsX6_pieces wsX2_makeReady := goodIn_r _ [7, 8, 9, 10, 11, 12, 13, 14, 15, 16, 17, 18, 19, 20, 21, 22, 23, 24, 25, 26, 27, 28, 29, 30, 31, 32, 33, 34, 35, 36, 37, 38, 39, 40, 41, 42, 43, 44, 45, 46, 47, 48, 49, 50, 51, 52, 53, 54, 55, 56, 57, 58, 59, 60, 61, 62, 63, 64, 65, 66, 67, 68, 69, 70, 71, 72, 73, 74, 75, 76, 77, 78, 79, 80, 81, 82, 83, 84, 85, 86, 87, 88, 89, 90, 91, 92, 93, 94, 95, 96, 97, 98, 99, 100, 101, 102, 103, 104, 105, 106, 107, 108, 109, 110, 6, 111, 112, 113, 114, 115, 116, 117, 118, 119, 120, 121, 122, 123, 124, 125, 126, 127, 128, 129, 130, 131, 132, 133, 134, 135, 136, 137, 138, 139, 140, 141, 142, 143, 144, 151, 152, 153, 154, 155, 156, 157, 158, 159, 160, 161, 162, 163, 164, 165, 166, 167, 168, 169, 170, 171, 172, 173, 174, 175, 176] rfl (by decide +kernel)
set_option maxRecDepth 100000 in
theorem gX6_pieces_X2_makeReady : GoodIn wsX6_pieces (wsV RX6 100 RX2 yX2_makeReady wsX2_makeReady) := goodIn_app (goodIn_of _ (by decide +kernel)) ggX6_pieces_X2_makeReady
theorem dX6_pieces_0 : decode cX6_pieces 0 = .ok (.aload_n 0, 1) := by decide +kernel
theorem dX6_pieces_1 : decode cX6_pieces 1 = .ok (.getfield 40, 3) := by decide +kernel
theorem dX6_pieces_4 : decode cX6_pieces 4 = .ok (.invokevirtual 100, 3) := by decide +kernel
theorem dX6_pieces_7 : decode cX6_pieces 7 = .ok (.aload_n 0, 1) := by decide +kernel
theorem dX6_pieces_8 : decode cX6_pieces 8 = .ok (.getfield 40, 3) := by decide +kernel
theorem dX6_pieces_11 : decode cX6_pieces 11 = .ok (.getfield 101, 3) := by decide +kernel
theorem dX6_pieces_14 : decode cX6_pieces 14 = .ok (.ireturn, 1) := by decide +kernel
set_option maxRecDepth 100000 in
theorem ggX6_piece_X6_within : GoodIn wsX6_piece wsX6_within := goodIn_r _ [7] rfl (by decide +kernel)
set_option maxRecDepth 100000 in
theorem gX6_piece_X6_within : GoodIn wsX6_piece (va_wsS RX6 57 yX6_within wsX6_within) := goodIn_app (goodIn_of _ (by decide +kernel)) ggX6_piece_X6_within
set_option maxRecDepth 100000 in
theorem ggX6_piece_X2_makeReady : GoodIn wsX6_piece wsX2_makeReady := goodIn_r _ [12, 13, 14, 15, 16, 17, 18, 19, 20, 21, 22, 23, 24, 25, 26, 27, 28, 29, 30, 31, 32, 33, 34, 35, 36, 37, 38, 39, 5, 6, 7, 40, 41, 42, 43, 44, 45, 46, 47, 48, 49, 50, 51, 52, 53, 54, 55, 56, 57, 58, 59, 60, 61, 62, 63, 64, 65, 66, 67, 68, 69, 70, 71, 72, 73, 74, 75, 76, 77, 78, 79, 80, 81, 82, 83, 84, 85, 86, 87, 88, 89, 90, 91, 92, 93, 94, 95, 96, 97, 98, 99, 100, 101, 102, 103, 104, 105, 106, 107, 108, 109, 110, 111, 112, 11, 113, 114, 115, 116, 117, 118, 119, 120, 121, 122, 123, 124, 125, 126, 127, 128, 129, 130, 131, 132, 133, 134, 135, 136, 137, 138, 139, 140, 141, 142, 143, 144, 145, 146, 153, 154, 155, 156, 157, 158, 159, 160, 161, 162, 163, 164, 165, 166, 167, 168, 169, 170, 171, 172, 173, 174, 175, 176, 177, 178] rfl (by decide +kernel)
set_option maxRecDepth 100000 in
theorem gX6_piece_X2_makeReady : GoodIn wsX6_piece (wsV RX6 100 RX2 yX2_makeReady wsX2_makeReady) := goodIn_app (goodIn_of _ (by decide +kernel)) ggX6_piece_X2_makeReady
theorem dX6_piece_0 : decode cX6_piece 0 = .ok (.iload_n 2, 1) := by decide +kernel
theorem dX6_piece_1 : decode cX6_piece 1 = .ok (.iconst 0, 1) := by decide +kernel
theorem dX6_piece_2 : decode cX6_piece 2 = .ok (.iconst 5, 1) := by decide +kernel
theorem dX6_piece_3 : decode cX6_piece 3 = .ok (.invokestatic 57, 3) := by decide +kernel
theorem dX6_piece_6 : decode cX6_piece 6 = .ok (.ifCond .ne 6, 3) := by decide +kernel
theorem dX6_piece_9 : decode cX6_piece 9 = .ok (.bipush (-3), 2) := by decide +kernel
theorem dX6_piece_11 : decode cX6_piece 11 = .ok (.ireturn, 1) := by decide +kernel
theorem dX6_piece_12 : decode cX6_piece 12 = .ok (.aload_n 0, 1) := by decide +kernel
theorem dX6_piece_13 : decode cX6_piece 13 = .ok (.getfield 40, 3) := by decide +kernel
theorem dX6_piece_16 : decode cX6_piece 16 = .ok (.invokevirtual 100, 3) := by decide +kernel
theorem dX6_piece_19 : decode cX6_piece 19 = .ok (.iload_n 1, 1) := by decide +kernel
theorem dX6_piece_20 : decode cX6_piece 20 = .ok (.iconst 0, 1) := by decide +kernel
theorem dX6_piece_21 : decode cX6_piece 21 = .ok (.aload_n 0, 1) := by decide +kernel
theorem dX6_piece_22 : decode cX6_piece 22 = .ok (.getfield 40, 3) := by decide +kernel
theorem dX6_piece_25 : decode cX6_piece 25 = .ok (.getfield 101, 3) := by decide +kernel
theorem dX6_piece_28 : decode cX6_piece 28 = .ok (.iconst 1, 1) := by decide +kernel
theorem dX6_piece_29 : decode cX6_piece 29 = .ok (.isub, 1) := by decide +kernel
theorem dX6_piece_30 : decode cX6_piece 30 = .ok (.invokestatic 57, 3) := by decide +kernel
theorem dX6_piece_33 : decode cX6_piece 33 = .ok (.ifCond .eq 20, 3) := by decide +kernel
theorem dX6_piece_36 : decode cX6_piece 36 = .ok (.aload_n 0, 1) := by decide +kernel
theorem dX6_piece_37 : decode cX6_piece 37 = .ok (.getfield 40, 3) := by decide +kernel
theorem dX6_piece_40 : decode cX6_piece 40 = .ok (.getfield 104, 3) := by decide +kernel
theorem dX6_piece_43 : decode cX6_piece 43 = .ok (.iload_n 1, 1) := by decide +kernel
theorem dX6_piece_44 : decode cX6_piece 44 = .ok (.bipush 6, 2) := by decide +kernel
theorem dX6_piece_46 : decode cX6_piece 46 = .ok (.imul, 1) := by decide +kernel
theorem dX6_piece_47 : decode cX6_piece 47 = .ok (.iload_n 2, 1) := by decide +kernel
theorem dX6_piece_48 : decode cX6_piece 48 = .ok (.iadd, 1) := by decide +kernel
theorem dX6_piece_49 : decode cX6_piece 49 = .ok (.iaload, 1) := by decide +kernel
theorem dX6_piece_50 : decode cX6_piece 50 = .ok (.goto 4, 3) := by decide +kernel
theorem dX6_piece_53 : decode cX6_piece 53 = .ok (.iconst (-1), 1) := by decide +kernel
theorem dX6_piece_54 : decode cX6_piece 54 = .ok (.ireturn, 1) := by decide +kernel
set_option maxRecDepth 100000 in
theorem ggX6_cuts_X2_makeReady : GoodIn wsX6_cuts wsX2_makeReady := goodIn_r _ [7, 8, 9, 10, 11, 12, 13, 14, 15, 16, 17, 18, 19, 20, 21, 22, 23, 24, 25, 26, 27, 28, 29, 30, 31, 32, 33, 34, 35, 36, 37, 38, 39, 40, 41, 42, 43, 44, 45, 46, 47, 48, 49, 50, 51, 52, 53, 54, 55, 56, 57, 58, 59, 60, 61, 62, 63, 64, 65, 66, 67, 68, 69, 70, 71, 72, 73, 74, 75, 76, 77, 78, 79, 80, 81, 82, 83, 84, 85, 86, 87, 88, 89, 90, 91, 92, 93, 94, 95, 96, 97, 98, 99, 100, 101, 102, 103, 104, 105, 106, 107, 108, 109, 110, 6, 111, 112, 113, 114, 115, 116, 117, 118, 119, 120, 121, 122, 123, 124, 125, 126, 127, 128, 129, 130, 131, 132, 133, 134, 135, 136, 137, 138, 139, 140, 141, 142, 143, 144, 151, 152, 153, 154, 155, 156, 157, 158, 159, 160, 161, 162, 163, 164, 165, 166, 167, 168, 169, 170, 171, 172, 173, 174, 175, 176] rfl (by decide +kernel)
set_option maxRecDepth 100000 in
theorem gX6_cuts_X2_makeReady : GoodIn wsX6_cuts (wsV RX6 100 RX2 yX2_makeReady wsX2_makeReady) := goodIn_app (goodIn_of _ (by decide +kernel)) ggX6_cuts_X2_makeReady
theorem dX6_cuts_0 : decode cX6_cuts 0 = .ok (.aload_n 0, 1) := by decide +kernel
theorem dX6_cuts_1 : decode cX6_cuts 1 = .ok (.getfield 40, 3) := by decide +kernel
theorem dX6_cuts_4 : decode cX6_cuts 4 = .ok (.invokevirtual 100, 3) := by decide +kernel
theorem dX6_cuts_7 : decode cX6_cuts 7 = .ok (.aload_n 0, 1) := by decide +kernel
theorem dX6_cuts_8 : decode cX6_cuts 8 = .ok (.getfield 40, 3) := by decide +kernel
theorem dX6_cuts_11 : decode cX6_cuts 11 = .ok (.getfield 107, 3) := by decide +kernel
theorem dX6_cuts_14 : decode cX6_cuts 14 = .ok (.ireturn, 1) := by decide +kernel
set_option maxRecDepth 100000 in
theorem ggX6_cut_X6_within : GoodIn wsX6_cut wsX6_within := goodIn_r _ [7] rfl (by decide +kernel)
set_option maxRecDepth 100000 in
theorem gX6_cut_X6_within : GoodIn wsX6_cut (va_wsS RX6 57 yX6_within wsX6_within) := goodIn_app (goodIn_of _ (by decide +kernel)) ggX6_cut_X6_within
set_option maxRecDepth 100000 in
theorem ggX6_cut_X2_makeReady : GoodIn wsX6_cut wsX2_makeReady := goodIn_r _ [12, 13, 14, 15, 16, 17, 18, 19, 20, 21, 22, 23, 24, 25, 26, 27, 28, 29, 30, 31, 32, 33, 34, 35, 36, 37, 38, 39, 5, 6, 7, 40, 41, 42, 43, 44, 45, 46, 47, 48, 49, 50, 51, 52, 53, 54, 55, 56, 57, 58, 59, 60, 61, 62, 63, 64, 65, 66, 67, 68, 69, 70, 71, 72, 73, 74, 75, 76, 77, 78, 79, 80, 81, 82, 83, 84, 85, 86, 87, 88, 89, 90, 91, 92, 93, 94, 95, 96, 97, 98, 99, 100, 101, 102, 103, 104, 105, 106, 107, 108, 109, 110, 111, 112, 11, 113, 114, 115, 116, 117, 118, 119, 120, 121, 122, 123, 124, 125, 126, 127, 128, 129, 130, 131, 132, 133, 134, 135, 136, 137, 138, 139, 140, 141, 142, 143, 144, 145, 146, 153, 154, 155, 156, 157, 158, 159, 160, 161, 162, 163, 164, 165, 166, 167, 168, 169, 170, 171, 172, 173, 174, 175, 176, 177, 178] rfl (by decide +kernel)
set_option maxRecDepth 100000 in
theorem gX6_cut_X2_makeReady : GoodIn wsX6_cut (wsV RX6 100 RX2 yX2_makeReady wsX2_makeReady) := goodIn_app (goodIn_of _ (by decide +kernel)) ggX6_cut_X2_makeReady
theorem dX6_cut_0 : decode cX6_cut 0 = .ok (.iload_n 2, 1) := by decide +kernel
theorem dX6_cut_1 : decode cX6_cut 1 = .ok (.iconst 0, 1) := by decide +kernel
theorem dX6_cut_2 : decode cX6_cut 2 = .ok (.bipush 6, 2) := by decide +kernel
theorem dX6_cut_4 : decode cX6_cut 4 = .ok (.invokestatic 57, 3) := by decide +kernel
theorem dX6_cut_7 : decode cX6_cut 7 = .ok (.ifCond .ne 6, 3) := by decide +kernel
theorem dX6_cut_10 : decode cX6_cut 10 = .ok (.bipush (-3), 2) := by decide +kernel
theorem dX6_cut_12 : decode cX6_cut 12 = .ok (.ireturn, 1) := by decide +kernel
theorem dX6_cut_13 : decode cX6_cut 13 = .ok (.aload_n 0, 1) := by decide +kernel
theorem dX6_cut_14 : decode cX6_cut 14 = .ok (.getfield 40, 3) := by decide +kernel
theorem dX6_cut_17 : decode cX6_cut 17 = .ok (.invokevirtual 100, 3) := by decide +kernel
theorem dX6_cut_20 : decode cX6_cut 20 = .ok (.iload_n 1, 1) := by decide +kernel
theorem dX6_cut_21 : decode cX6_cut 21 = .ok (.iconst 0, 1) := by decide +kernel
theorem dX6_cut_22 : decode cX6_cut 22 = .ok (.aload_n 0, 1) := by decide +kernel
theorem dX6_cut_23 : decode cX6_cut 23 = .ok (.getfield 40, 3) := by decide +kernel
theorem dX6_cut_26 : decode cX6_cut 26 = .ok (.getfield 107, 3) := by decide +kernel
theorem dX6_cut_29 : decode cX6_cut 29 = .ok (.iconst 1, 1) := by decide +kernel
theorem dX6_cut_30 : decode cX6_cut 30 = .ok (.isub, 1) := by decide +kernel
theorem dX6_cut_31 : decode cX6_cut 31 = .ok (.invokestatic 57, 3) := by decide +kernel
theorem dX6_cut_34 : decode cX6_cut 34 = .ok (.ifCond .eq 20, 3) := by decide +kernel
theorem dX6_cut_37 : decode cX6_cut 37 = .ok (.aload_n 0, 1) := by decide +kernel
theorem dX6_cut_38 : decode cX6_cut 38 = .ok (.getfield 40, 3) := by decide +kernel
theorem dX6_cut_41 : decode cX6_cut 41 = .ok (.getfield 110, 3) := by decide +kernel
theorem dX6_cut_44 : decode cX6_cut 44 = .ok (.iload_n 1, 1) := by decide +kernel
theorem dX6_cut_45 : decode cX6_cut 45 = .ok (.bipush 7, 2) := by decide +kernel
theorem dX6_cut_47 : decode cX6_cut 47 = .ok (.imul, 1) := by decide +kernel
theorem dX6_cut_48 : decode cX6_cut 48 = .ok (.iload_n 2, 1) := by decide +kernel
theorem dX6_cut_49 : decode cX6_cut 49 = .ok (.iadd, 1) := by decide +kernel
theorem dX6_cut_50 : decode cX6_cut 50 = .ok (.iaload, 1) := by decide +kernel
theorem dX6_cut_51 : decode cX6_cut 51 = .ok (.goto 4, 3) := by decide +kernel
theorem dX6_cut_54 : decode cX6_cut 54 = .ok (.iconst (-1), 1) := by decide +kernel
theorem dX6_cut_55 : decode cX6_cut 55 = .ok (.ireturn, 1) := by decide +kernel
set_option maxRecDepth 100000 in
theorem ggX6_waste_X2_makeReady : GoodIn wsX6_waste wsX2_makeReady := goodIn_r _ [7, 8, 9, 10, 11, 12, 13, 14, 15, 16, 17, 18, 19, 20, 21, 22, 23, 24, 25, 26, 27, 28, 29, 30, 31, 32, 33, 34, 35, 36, 37, 38, 39, 40, 41, 42, 43, 44, 45, 46, 47, 48, 49, 50, 51, 52, 53, 54, 55, 56, 57, 58, 59, 60, 61, 62, 63, 64, 65, 66, 67, 68, 69, 70, 71, 72, 73, 74, 75, 76, 77, 78, 79, 80, 81, 82, 83, 84, 85, 86, 87, 88, 89, 90, 91, 92, 93, 94, 95, 96, 97, 98, 99, 100, 101, 102, 103, 104, 105, 106, 107, 108, 109, 110, 6, 111, 112, 113, 114, 115, 116, 117, 118, 119, 120, 121, 122, 123, 124, 125, 126, 127, 128, 129, 130, 131, 132, 133, 134, 135, 136, 137, 138, 139, 140, 141, 142, 143, 144, 151, 152, 153, 154, 155, 156, 157, 158, 159, 160, 161, 162, 163, 164, 165, 166, 167, 168, 169, 170, 171, 172, 173, 174, 175, 176] rfl (by decide +kernel)
set_option maxRecDepth 100000 in
theorem gX6_waste_X2_makeReady : GoodIn wsX6_waste (wsV RX6 100 RX2 yX2_makeReady wsX2_makeReady) := goodIn_app (goodIn_of _ (by decide +kernel)) ggX6_waste_X2_makeReady
theorem dX6_waste_0 : decode cX6_waste 0 = .ok (.aload_n 0, 1) := by decide +kernel
theorem dX6_waste_1 : decode cX6_waste 1 = .ok (.getfield 40, 3) := by decide +kernel
theorem dX6_waste_4 : decode cX6_waste 4 = .ok (.invokevirtual 100, 3) := by decide +kernel
theorem dX6_waste_7 : decode cX6_waste 7 = .ok (.aload_n 0, 1) := by decide +kernel
theorem dX6_waste_8 : decode cX6_waste 8 = .ok (.getfield 40, 3) := by decide +kernel
theorem dX6_waste_11 : decode cX6_waste 11 = .ok (.getfield 113, 3) := by decide +kernel
theorem dX6_waste_14 : decode cX6_waste 14 = .ok (.ireturn, 1) := by decide +kernel
set_option maxRecDepth 100000 in
theorem ggX6_stock_X6_within : GoodIn wsX6_stock wsX6_within := goodIn_r _ [6] rfl (by decide +kernel)
set_option maxRecDepth 100000 in
theorem gX6_stock_X6_within : GoodIn wsX6_stock (va_wsS RX6 57 yX6_within wsX6_within) := goodIn_app (goodIn_of _ (by decide +kernel)) ggX6_stock_X6_within
set_option maxRecDepth 100000 in
theorem ggX6_stock_X3_addStock : GoodIn wsX6_stock wsX3_addStock := goodIn_r _ [11, 12, 13, 14, 28, 29, 30, 31, 32, 33, 34] rfl (by decide +kernel)
set_option maxRecDepth 100000 in
theorem gX6_stock_X3_addStock : GoodIn wsX6_stock (wsV RX6 116 RX3 yX3_addStock wsX3_addStock) := goodIn_app (goodIn_of _ (by decide +kernel)) ggX6_stock_X3_addStock
set_option maxRecDepth 100000 in
theorem ggX6_stock_X0_forgetCosts : GoodIn wsX6_stock wsX0_forgetCosts := goodIn_r _ [19, 20, 21, 35, 36, 37, 38, 39, 40, 41, 42, 43, 44] rfl (by decide +kernel)
set_option maxRecDepth 100000 in
theorem gX6_stock_X0_forgetCosts : GoodIn wsX6_stock (wsV RX6 120 RX0 yX0_forgetCosts wsX0_forgetCosts) := goodIn_app (goodIn_of _ (by decide +kernel)) ggX6_stock_X0_forgetCosts
theorem dX6_stock_0 : decode cX6_stock 0 = .ok (.iload_n 1, 1) := by decide +kernel
theorem dX6_stock_1 : decode cX6_stock 1 = .ok (.iconst 1, 1) := by decide +kernel
theorem dX6_stock_2 : decode cX6_stock 2 = .ok (.bipush 99, 2) := by decide +kernel
theorem dX6_stock_4 : decode cX6_stock 4 = .ok (.invokestatic 57, 3) := by decide +kernel
theorem dX6_stock_7 : decode cX6_stock 7 = .ok (.ifCond .eq 13, 3) := by decide +kernel
theorem dX6_stock_10 : decode cX6_stock 10 = .ok (.iload_n 2, 1) := by decide +kernel
theorem dX6_stock_11 : decode cX6_stock 11 = .ok (.iconst 1, 1) := by decide +kernel
theorem dX6_stock_12 : decode cX6_stock 12 = .ok (.bipush 100, 2) := by decide +kernel
theorem dX6_stock_14 : decode cX6_stock 14 = .ok (.invokestatic 57, 3) := by decide +kernel
theorem dX6_stock_17 : decode cX6_stock 17 = .ok (.ifCond .ne 6, 3) := by decide +kernel
theorem dX6_stock_20 : decode cX6_stock 20 = .ok (.bipush (-3), 2) := by decide +kernel
theorem dX6_stock_22 : decode cX6_stock 22 = .ok (.ireturn, 1) := by decide +kernel
theorem dX6_stock_23 : decode cX6_stock 23 = .ok (.aload_n 0, 1) := by decide +kernel
theorem dX6_stock_24 : decode cX6_stock 24 = .ok (.getfield 44, 3) := by decide +kernel
theorem dX6_stock_27 : decode cX6_stock 27 = .ok (.iload_n 1, 1) := by decide +kernel
theorem dX6_stock_28 : decode cX6_stock 28 = .ok (.iload_n 2, 1) := by decide +kernel
theorem dX6_stock_29 : decode cX6_stock 29 = .ok (.invokevirtual 116, 3) := by decide +kernel
theorem dX6_stock_32 : decode cX6_stock 32 = .ok (.istore_n 3, 1) := by decide +kernel
theorem dX6_stock_33 : decode cX6_stock 33 = .ok (.iload_n 3, 1) := by decide +kernel
theorem dX6_stock_34 : decode cX6_stock 34 = .ok (.bipush (-4), 2) := by decide +kernel
theorem dX6_stock_36 : decode cX6_stock 36 = .ok (.if_icmp .eq 10, 3) := by decide +kernel
theorem dX6_stock_39 : decode cX6_stock 39 = .ok (.aload_n 0, 1) := by decide +kernel
theorem dX6_stock_40 : decode cX6_stock 40 = .ok (.getfield 53, 3) := by decide +kernel
theorem dX6_stock_43 : decode cX6_stock 43 = .ok (.invokevirtual 120, 3) := by decide +kernel
theorem dX6_stock_46 : decode cX6_stock 46 = .ok (.iload_n 3, 1) := by decide +kernel
theorem dX6_stock_47 : decode cX6_stock 47 = .ok (.ireturn, 1) := by decide +kernel
set_option maxRecDepth 100000 in
theorem ggX6_order_X6_within : GoodIn wsX6_order wsX6_within := goodIn_r _ [6] rfl (by decide +kernel)
set_option maxRecDepth 100000 in
theorem gX6_order_X6_within : GoodIn wsX6_order (va_wsS RX6 57 yX6_within wsX6_within) := goodIn_app (goodIn_of _ (by decide +kernel)) ggX6_order_X6_within
set_option maxRecDepth 100000 in
theorem ggX6_order_X3_addOrder : GoodIn wsX6_order wsX3_addOrder := goodIn_r _ [11, 12, 13, 14, 28, 29, 30, 31, 32, 33, 34] rfl (by decide +kernel)
set_option maxRecDepth 100000 in
theorem gX6_order_X3_addOrder : GoodIn wsX6_order (wsV RX6 123 RX3 yX3_addOrder wsX3_addOrder) := goodIn_app (goodIn_of _ (by decide +kernel)) ggX6_order_X3_addOrder
set_option maxRecDepth 100000 in
theorem ggX6_order_X0_forgetCosts : GoodIn wsX6_order wsX0_forgetCosts := goodIn_r _ [19, 20, 21, 35, 36, 37, 38, 39, 40, 41, 42, 43, 44] rfl (by decide +kernel)
set_option maxRecDepth 100000 in
theorem gX6_order_X0_forgetCosts : GoodIn wsX6_order (wsV RX6 120 RX0 yX0_forgetCosts wsX0_forgetCosts) := goodIn_app (goodIn_of _ (by decide +kernel)) ggX6_order_X0_forgetCosts
theorem dX6_order_0 : decode cX6_order 0 = .ok (.iload_n 1, 1) := by decide +kernel
theorem dX6_order_1 : decode cX6_order 1 = .ok (.iconst 1, 1) := by decide +kernel
theorem dX6_order_2 : decode cX6_order 2 = .ok (.bipush 99, 2) := by decide +kernel
theorem dX6_order_4 : decode cX6_order 4 = .ok (.invokestatic 57, 3) := by decide +kernel
theorem dX6_order_7 : decode cX6_order 7 = .ok (.ifCond .eq 12, 3) := by decide +kernel
theorem dX6_order_10 : decode cX6_order 10 = .ok (.iload_n 2, 1) := by decide +kernel
theorem dX6_order_11 : decode cX6_order 11 = .ok (.iconst 0, 1) := by decide +kernel
theorem dX6_order_12 : decode cX6_order 12 = .ok (.iconst 5, 1) := by decide +kernel
theorem dX6_order_13 : decode cX6_order 13 = .ok (.invokestatic 57, 3) := by decide +kernel
theorem dX6_order_16 : decode cX6_order 16 = .ok (.ifCond .ne 6, 3) := by decide +kernel
theorem dX6_order_19 : decode cX6_order 19 = .ok (.bipush (-3), 2) := by decide +kernel
theorem dX6_order_21 : decode cX6_order 21 = .ok (.ireturn, 1) := by decide +kernel
theorem dX6_order_22 : decode cX6_order 22 = .ok (.aload_n 0, 1) := by decide +kernel
theorem dX6_order_23 : decode cX6_order 23 = .ok (.getfield 44, 3) := by decide +kernel
theorem dX6_order_26 : decode cX6_order 26 = .ok (.iload_n 1, 1) := by decide +kernel
theorem dX6_order_27 : decode cX6_order 27 = .ok (.iload_n 2, 1) := by decide +kernel
theorem dX6_order_28 : decode cX6_order 28 = .ok (.invokevirtual 123, 3) := by decide +kernel
theorem dX6_order_31 : decode cX6_order 31 = .ok (.istore_n 3, 1) := by decide +kernel
theorem dX6_order_32 : decode cX6_order 32 = .ok (.iload_n 3, 1) := by decide +kernel
theorem dX6_order_33 : decode cX6_order 33 = .ok (.bipush (-4), 2) := by decide +kernel
theorem dX6_order_35 : decode cX6_order 35 = .ok (.if_icmp .eq 10, 3) := by decide +kernel
theorem dX6_order_38 : decode cX6_order 38 = .ok (.aload_n 0, 1) := by decide +kernel
theorem dX6_order_39 : decode cX6_order 39 = .ok (.getfield 53, 3) := by decide +kernel
theorem dX6_order_42 : decode cX6_order 42 = .ok (.invokevirtual 120, 3) := by decide +kernel
theorem dX6_order_45 : decode cX6_order 45 = .ok (.iload_n 3, 1) := by decide +kernel
theorem dX6_order_46 : decode cX6_order 46 = .ok (.ireturn, 1) := by decide +kernel
set_option maxRecDepth 100000 in
theorem ggX6_demand_X6_within : GoodIn wsX6_demand wsX6_within := goodIn_r _ [8] rfl (by decide +kernel)
set_option maxRecDepth 100000 in
theorem gX6_demand_X6_within : GoodIn wsX6_demand (va_wsS RX6 57 yX6_within wsX6_within) := goodIn_app (goodIn_of _ (by decide +kernel)) ggX6_demand_X6_within
set_option maxRecDepth 100000 in
theorem ggX6_demand_X0_forgetBars : GoodIn wsX6_demand wsX0_forgetBars := goodIn_r _ [13, 14, 28, 29, 30, 31, 32, 33, 34, 35, 36, 37] rfl (by decide +kernel)
set_option maxRecDepth 100000 in
theorem gX6_demand_X0_forgetBars : GoodIn wsX6_demand (wsV RX6 132 RX0 yX0_forgetBars wsX0_forgetBars) := goodIn_app (goodIn_of _ (by decide +kernel)) ggX6_demand_X0_forgetBars
theorem dX6_demand_0 : decode cX6_demand 0 = .ok (.iload_n 1, 1) := by decide +kernel
theorem dX6_demand_1 : decode cX6_demand 1 = .ok (.iconst 0, 1) := by decide +kernel
theorem dX6_demand_2 : decode cX6_demand 2 = .ok (.aload_n 0, 1) := by decide +kernel
theorem dX6_demand_3 : decode cX6_demand 3 = .ok (.getfield 44, 3) := by decide +kernel
theorem dX6_demand_6 : decode cX6_demand 6 = .ok (.getfield 126, 3) := by decide +kernel
theorem dX6_demand_9 : decode cX6_demand 9 = .ok (.iconst 1, 1) := by decide +kernel
theorem dX6_demand_10 : decode cX6_demand 10 = .ok (.isub, 1) := by decide +kernel
theorem dX6_demand_11 : decode cX6_demand 11 = .ok (.invokestatic 57, 3) := by decide +kernel
theorem dX6_demand_14 : decode cX6_demand 14 = .ok (.ifCond .ne 6, 3) := by decide +kernel
theorem dX6_demand_17 : decode cX6_demand 17 = .ok (.bipush (-2), 2) := by decide +kernel
theorem dX6_demand_19 : decode cX6_demand 19 = .ok (.ireturn, 1) := by decide +kernel
theorem dX6_demand_20 : decode cX6_demand 20 = .ok (.iload_n 2, 1) := by decide +kernel
theorem dX6_demand_21 : decode cX6_demand 21 = .ok (.iconst 0, 1) := by decide +kernel
theorem dX6_demand_22 : decode cX6_demand 22 = .ok (.iconst 5, 1) := by decide +kernel
theorem dX6_demand_23 : decode cX6_demand 23 = .ok (.invokestatic 57, 3) := by decide +kernel
theorem dX6_demand_26 : decode cX6_demand 26 = .ok (.ifCond .ne 6, 3) := by decide +kernel
theorem dX6_demand_29 : decode cX6_demand 29 = .ok (.bipush (-3), 2) := by decide +kernel
theorem dX6_demand_31 : decode cX6_demand 31 = .ok (.ireturn, 1) := by decide +kernel
theorem dX6_demand_32 : decode cX6_demand 32 = .ok (.aload_n 0, 1) := by decide +kernel
theorem dX6_demand_33 : decode cX6_demand 33 = .ok (.getfield 44, 3) := by decide +kernel
theorem dX6_demand_36 : decode cX6_demand 36 = .ok (.getfield 129, 3) := by decide +kernel
theorem dX6_demand_39 : decode cX6_demand 39 = .ok (.iload_n 1, 1) := by decide +kernel
theorem dX6_demand_40 : decode cX6_demand 40 = .ok (.iaload, 1) := by decide +kernel
theorem dX6_demand_41 : decode cX6_demand 41 = .ok (.istore_n 3, 1) := by decide +kernel
theorem dX6_demand_42 : decode cX6_demand 42 = .ok (.aload_n 0, 1) := by decide +kernel
theorem dX6_demand_43 : decode cX6_demand 43 = .ok (.getfield 44, 3) := by decide +kernel
theorem dX6_demand_46 : decode cX6_demand 46 = .ok (.getfield 129, 3) := by decide +kernel
theorem dX6_demand_49 : decode cX6_demand 49 = .ok (.iload_n 1, 1) := by decide +kernel
theorem dX6_demand_50 : decode cX6_demand 50 = .ok (.iload_n 2, 1) := by decide +kernel
theorem dX6_demand_51 : decode cX6_demand 51 = .ok (.iastore, 1) := by decide +kernel
theorem dX6_demand_52 : decode cX6_demand 52 = .ok (.aload_n 0, 1) := by decide +kernel
theorem dX6_demand_53 : decode cX6_demand 53 = .ok (.getfield 53, 3) := by decide +kernel
theorem dX6_demand_56 : decode cX6_demand 56 = .ok (.invokevirtual 132, 3) := by decide +kernel
theorem dX6_demand_59 : decode cX6_demand 59 = .ok (.iload_n 3, 1) := by decide +kernel
theorem dX6_demand_60 : decode cX6_demand 60 = .ok (.ireturn, 1) := by decide +kernel
set_option maxRecDepth 100000 in
theorem ggX6_blade_X6_within : GoodIn wsX6_blade wsX6_within := goodIn_r _ [7] rfl (by decide +kernel)
set_option maxRecDepth 100000 in
theorem gX6_blade_X6_within : GoodIn wsX6_blade (va_wsS RX6 57 yX6_within wsX6_within) := goodIn_app (goodIn_of _ (by decide +kernel)) ggX6_blade_X6_within
set_option maxRecDepth 100000 in
theorem ggX6_blade_X0_forgetCosts : GoodIn wsX6_blade wsX0_forgetCosts := goodIn_r _ [12, 13, 14, 28, 29, 30, 31, 32, 33, 34, 35, 36, 37] rfl (by decide +kernel)
set_option maxRecDepth 100000 in
theorem gX6_blade_X0_forgetCosts : GoodIn wsX6_blade (wsV RX6 120 RX0 yX0_forgetCosts wsX0_forgetCosts) := goodIn_app (goodIn_of _ (by decide +kernel)) ggX6_blade_X0_forgetCosts
theorem dX6_blade_0 : decode cX6_blade 0 = .ok (.iload_n 1, 1) := by decide +kernel
theorem dX6_blade_1 : decode cX6_blade 1 = .ok (.iconst 0, 1) := by decide +kernel
theorem dX6_blade_2 : decode cX6_blade 2 = .ok (.iconst 3, 1) := by decide +kernel
theorem dX6_blade_3 : decode cX6_blade 3 = .ok (.invokestatic 57, 3) := by decide +kernel
theorem dX6_blade_6 : decode cX6_blade 6 = .ok (.ifCond .ne 6, 3) := by decide +kernel
theorem dX6_blade_9 : decode cX6_blade 9 = .ok (.bipush (-3), 2) := by decide +kernel
theorem dX6_blade_11 : decode cX6_blade 11 = .ok (.ireturn, 1) := by decide +kernel
theorem dX6_blade_12 : decode cX6_blade 12 = .ok (.aload_n 0, 1) := by decide +kernel
theorem dX6_blade_13 : decode cX6_blade 13 = .ok (.getfield 44, 3) := by decide +kernel
theorem dX6_blade_16 : decode cX6_blade 16 = .ok (.getfield 135, 3) := by decide +kernel
theorem dX6_blade_19 : decode cX6_blade 19 = .ok (.istore_n 2, 1) := by decide +kernel
theorem dX6_blade_20 : decode cX6_blade 20 = .ok (.aload_n 0, 1) := by decide +kernel
theorem dX6_blade_21 : decode cX6_blade 21 = .ok (.getfield 44, 3) := by decide +kernel
theorem dX6_blade_24 : decode cX6_blade 24 = .ok (.iload_n 1, 1) := by decide +kernel
theorem dX6_blade_25 : decode cX6_blade 25 = .ok (.putfield 135, 3) := by decide +kernel
theorem dX6_blade_28 : decode cX6_blade 28 = .ok (.aload_n 0, 1) := by decide +kernel
theorem dX6_blade_29 : decode cX6_blade 29 = .ok (.getfield 53, 3) := by decide +kernel
theorem dX6_blade_32 : decode cX6_blade 32 = .ok (.invokevirtual 120, 3) := by decide +kernel
theorem dX6_blade_35 : decode cX6_blade 35 = .ok (.iload_n 2, 1) := by decide +kernel
theorem dX6_blade_36 : decode cX6_blade 36 = .ok (.ireturn, 1) := by decide +kernel
set_option maxRecDepth 100000 in
theorem ggX6_price_X0_makeReady : GoodIn wsX6_price wsX0_makeReady := goodIn_r _ [8, 9, 10, 11, 12, 13, 14, 15, 16, 17, 18, 19, 7, 20, 21, 22, 23, 24, 25, 26, 27, 28, 29, 30, 31, 32, 33, 34, 35, 36, 37, 38, 39, 40, 41, 42, 43, 44, 45, 46, 47, 48, 49, 50, 51, 52, 53, 54, 55, 56, 57, 58, 59, 60, 61, 62, 63, 64, 65, 66, 67, 68, 69, 70, 71, 72, 73, 74, 75, 76, 77, 78, 85, 86, 87, 88, 89, 90, 91, 92, 93, 94, 95, 96, 97, 98, 99, 100, 101] rfl (by decide +kernel)
set_option maxRecDepth 100000 in
theorem gX6_price_X0_makeReady : GoodIn wsX6_price (wsV RX6 138 RX0 yX0_makeReady wsX0_makeReady) := goodIn_app (goodIn_of _ (by decide +kernel)) ggX6_price_X0_makeReady
theorem dX6_price_0 : decode cX6_price 0 = .ok (.aload_n 0, 1) := by decide +kernel
theorem dX6_price_1 : decode cX6_price 1 = .ok (.getfield 53, 3) := by decide +kernel
theorem dX6_price_4 : decode cX6_price 4 = .ok (.invokevirtual 138, 3) := by decide +kernel
theorem dX6_price_7 : decode cX6_price 7 = .ok (.aload_n 0, 1) := by decide +kernel
theorem dX6_price_8 : decode cX6_price 8 = .ok (.getfield 53, 3) := by decide +kernel
theorem dX6_price_11 : decode cX6_price 11 = .ok (.getfield 139, 3) := by decide +kernel
theorem dX6_price_14 : decode cX6_price 14 = .ok (.ifCond .eq 7, 3) := by decide +kernel
theorem dX6_price_17 : decode cX6_price 17 = .ok (.iconst (-1), 1) := by decide +kernel
theorem dX6_price_18 : decode cX6_price 18 = .ok (.goto 10, 3) := by decide +kernel
theorem dX6_price_21 : decode cX6_price 21 = .ok (.aload_n 0, 1) := by decide +kernel
theorem dX6_price_22 : decode cX6_price 22 = .ok (.getfield 53, 3) := by decide +kernel
theorem dX6_price_25 : decode cX6_price 25 = .ok (.getfield 143, 3) := by decide +kernel
theorem dX6_price_28 : decode cX6_price 28 = .ok (.ireturn, 1) := by decide +kernel
set_option maxRecDepth 100000 in
theorem ggX6_bars_X0_makeReady : GoodIn wsX6_bars wsX0_makeReady := goodIn_r _ [8, 9, 10, 11, 12, 13, 14, 15, 16, 17, 18, 19, 7, 20, 21, 22, 23, 24, 25, 26, 27, 28, 29, 30, 31, 32, 33, 34, 35, 36, 37, 38, 39, 40, 41, 42, 43, 44, 45, 46, 47, 48, 49, 50, 51, 52, 53, 54, 55, 56, 57, 58, 59, 60, 61, 62, 63, 64, 65, 66, 67, 68, 69, 70, 71, 72, 73, 74, 75, 76, 77, 78, 85, 86, 87, 88, 89, 90, 91, 92, 93, 94, 95, 96, 97, 98, 99, 100, 101] rfl (by decide +kernel)
set_option maxRecDepth 100000 in
theorem gX6_bars_X0_makeReady : GoodIn wsX6_bars (wsV RX6 138 RX0 yX0_makeReady wsX0_makeReady) := goodIn_app (goodIn_of _ (by decide +kernel)) ggX6_bars_X0_makeReady
theorem dX6_bars_0 : decode cX6_bars 0 = .ok (.aload_n 0, 1) := by decide +kernel
theorem dX6_bars_1 : decode cX6_bars 1 = .ok (.getfield 53, 3) := by decide +kernel
theorem dX6_bars_4 : decode cX6_bars 4 = .ok (.invokevirtual 138, 3) := by decide +kernel
theorem dX6_bars_7 : decode cX6_bars 7 = .ok (.aload_n 0, 1) := by decide +kernel
theorem dX6_bars_8 : decode cX6_bars 8 = .ok (.getfield 53, 3) := by decide +kernel
theorem dX6_bars_11 : decode cX6_bars 11 = .ok (.getfield 139, 3) := by decide +kernel
theorem dX6_bars_14 : decode cX6_bars 14 = .ok (.ifCond .eq 7, 3) := by decide +kernel
theorem dX6_bars_17 : decode cX6_bars 17 = .ok (.iconst (-1), 1) := by decide +kernel
theorem dX6_bars_18 : decode cX6_bars 18 = .ok (.goto 10, 3) := by decide +kernel
theorem dX6_bars_21 : decode cX6_bars 21 = .ok (.aload_n 0, 1) := by decide +kernel
theorem dX6_bars_22 : decode cX6_bars 22 = .ok (.getfield 53, 3) := by decide +kernel
theorem dX6_bars_25 : decode cX6_bars 25 = .ok (.getfield 146, 3) := by decide +kernel
theorem dX6_bars_28 : decode cX6_bars 28 = .ok (.ireturn, 1) := by decide +kernel
set_option maxRecDepth 100000 in
theorem ggX6_bar_X6_within : GoodIn wsX6_bar wsX6_within := goodIn_r _ [7] rfl (by decide +kernel)
set_option maxRecDepth 100000 in
theorem gX6_bar_X6_within : GoodIn wsX6_bar (va_wsS RX6 57 yX6_within wsX6_within) := goodIn_app (goodIn_of _ (by decide +kernel)) ggX6_bar_X6_within
set_option maxRecDepth 100000 in
theorem ggX6_bar_X0_makeReady : GoodIn wsX6_bar wsX0_makeReady := goodIn_r _ [12, 13, 14, 15, 16, 17, 18, 19, 20, 21, 22, 23, 11, 24, 25, 26, 27, 28, 29, 30, 31, 32, 33, 34, 35, 36, 37, 38, 39, 40, 5, 6, 7, 41, 42, 43, 44, 45, 46, 47, 48, 49, 50, 51, 52, 53, 54, 55, 56, 57, 58, 59, 60, 61, 62, 63, 64, 65, 66, 67, 68, 69, 70, 71, 72, 73, 74, 75, 76, 77, 78, 79, 91, 92, 93, 94, 95, 96, 97, 98, 99, 100, 101, 102, 103, 104, 105, 106, 107] rfl (by decide +kernel)
set_option maxRecDepth 100000 in
theorem gX6_bar_X0_makeReady : GoodIn wsX6_bar (wsV RX6 138 RX0 yX0_makeReady wsX0_makeReady) := goodIn_app (goodIn_of _ (by decide +kernel)) ggX6_bar_X0_makeReady
set_option maxRecDepth 100000 in
theorem ggX6_bar_X0_fact : GoodIn wsX6_bar wsX0_fact := goodIn_r _ [83, 16, 84, 53, 54, 11, 55, 46, 47, 48, 49, 50, 51, 52, 56, 57, 58, 28, 59, 60, 61, 62, 91, 92, 93, 94, 95, 96, 97, 98, 99, 100, 101, 102, 103, 104, 105, 106, 107] rfl (by decide +kernel)
set_option maxRecDepth 100000 in
theorem gX6_bar_X0_fact : GoodIn wsX6_bar (wsV RX6 150 RX0 yX0_fact wsX0_fact) := goodIn_app (goodIn_of _ (by decide +kernel)) ggX6_bar_X0_fact
theorem dX6_bar_0 : decode cX6_bar 0 = .ok (.iload_n 2, 1) := by decide +kernel
theorem dX6_bar_1 : decode cX6_bar 1 = .ok (.iconst 0, 1) := by decide +kernel
theorem dX6_bar_2 : decode cX6_bar 2 = .ok (.iconst 5, 1) := by decide +kernel
theorem dX6_bar_3 : decode cX6_bar 3 = .ok (.invokestatic 57, 3) := by decide +kernel
theorem dX6_bar_6 : decode cX6_bar 6 = .ok (.ifCond .ne 6, 3) := by decide +kernel
theorem dX6_bar_9 : decode cX6_bar 9 = .ok (.bipush (-3), 2) := by decide +kernel
theorem dX6_bar_11 : decode cX6_bar 11 = .ok (.ireturn, 1) := by decide +kernel
theorem dX6_bar_12 : decode cX6_bar 12 = .ok (.aload_n 0, 1) := by decide +kernel
theorem dX6_bar_13 : decode cX6_bar 13 = .ok (.getfield 53, 3) := by decide +kernel
theorem dX6_bar_16 : decode cX6_bar 16 = .ok (.invokevirtual 138, 3) := by decide +kernel
theorem dX6_bar_19 : decode cX6_bar 19 = .ok (.iload_n 1, 1) := by decide +kernel
theorem dX6_bar_20 : decode cX6_bar 20 = .ok (.iconst 0, 1) := by decide +kernel
theorem dX6_bar_21 : decode cX6_bar 21 = .ok (.aload_n 0, 1) := by decide +kernel
theorem dX6_bar_22 : decode cX6_bar 22 = .ok (.getfield 53, 3) := by decide +kernel
theorem dX6_bar_25 : decode cX6_bar 25 = .ok (.getfield 146, 3) := by decide +kernel
theorem dX6_bar_28 : decode cX6_bar 28 = .ok (.iconst 1, 1) := by decide +kernel
theorem dX6_bar_29 : decode cX6_bar 29 = .ok (.isub, 1) := by decide +kernel
theorem dX6_bar_30 : decode cX6_bar 30 = .ok (.invokestatic 57, 3) := by decide +kernel
theorem dX6_bar_33 : decode cX6_bar 33 = .ok (.ifCond .eq 23, 3) := by decide +kernel
theorem dX6_bar_36 : decode cX6_bar 36 = .ok (.aload_n 0, 1) := by decide +kernel
theorem dX6_bar_37 : decode cX6_bar 37 = .ok (.getfield 53, 3) := by decide +kernel
theorem dX6_bar_40 : decode cX6_bar 40 = .ok (.aload_n 0, 1) := by decide +kernel
theorem dX6_bar_41 : decode cX6_bar 41 = .ok (.getfield 53, 3) := by decide +kernel
theorem dX6_bar_44 : decode cX6_bar 44 = .ok (.getfield 147, 3) := by decide +kernel
theorem dX6_bar_47 : decode cX6_bar 47 = .ok (.iload_n 1, 1) := by decide +kernel
theorem dX6_bar_48 : decode cX6_bar 48 = .ok (.iaload, 1) := by decide +kernel
theorem dX6_bar_49 : decode cX6_bar 49 = .ok (.iload_n 2, 1) := by decide +kernel
theorem dX6_bar_50 : decode cX6_bar 50 = .ok (.invokevirtual 150, 3) := by decide +kernel
theorem dX6_bar_53 : decode cX6_bar 53 = .ok (.goto 4, 3) := by decide +kernel
theorem dX6_bar_56 : decode cX6_bar 56 = .ok (.iconst (-1), 1) := by decide +kernel
theorem dX6_bar_57 : decode cX6_bar 57 = .ok (.ireturn, 1) := by decide +kernel
theorem dX6_told_0 : decode cX6_told 0 = .ok (.iload_n 1, 1) := by decide +kernel
theorem dX6_told_1 : decode cX6_told 1 = .ok (.tableswitch 135 0 9 #[55, 63, 71, 79, 87, 95, 103, 111, 119, 127], 55) := by decide +kernel
theorem dX6_told_56 : decode cX6_told 56 = .ok (.aload_n 0, 1) := by decide +kernel
theorem dX6_told_57 : decode cX6_told 57 = .ok (.getfield 23, 3) := by decide +kernel
theorem dX6_told_60 : decode cX6_told 60 = .ok (.getfield 153, 3) := by decide +kernel
theorem dX6_told_63 : decode cX6_told 63 = .ok (.ireturn, 1) := by decide +kernel
theorem dX6_told_64 : decode cX6_told 64 = .ok (.aload_n 0, 1) := by decide +kernel
theorem dX6_told_65 : decode cX6_told 65 = .ok (.getfield 23, 3) := by decide +kernel
theorem dX6_told_68 : decode cX6_told 68 = .ok (.getfield 156, 3) := by decide +kernel
theorem dX6_told_71 : decode cX6_told 71 = .ok (.ireturn, 1) := by decide +kernel
theorem dX6_told_72 : decode cX6_told 72 = .ok (.aload_n 0, 1) := by decide +kernel
theorem dX6_told_73 : decode cX6_told 73 = .ok (.getfield 23, 3) := by decide +kernel
theorem dX6_told_76 : decode cX6_told 76 = .ok (.getfield 159, 3) := by decide +kernel
theorem dX6_told_79 : decode cX6_told 79 = .ok (.ireturn, 1) := by decide +kernel
theorem dX6_told_80 : decode cX6_told 80 = .ok (.aload_n 0, 1) := by decide +kernel
theorem dX6_told_81 : decode cX6_told 81 = .ok (.getfield 23, 3) := by decide +kernel
theorem dX6_told_84 : decode cX6_told 84 = .ok (.getfield 90, 3) := by decide +kernel
theorem dX6_told_87 : decode cX6_told 87 = .ok (.ireturn, 1) := by decide +kernel
theorem dX6_told_88 : decode cX6_told 88 = .ok (.aload_n 0, 1) := by decide +kernel
theorem dX6_told_89 : decode cX6_told 89 = .ok (.getfield 23, 3) := by decide +kernel
theorem dX6_told_92 : decode cX6_told 92 = .ok (.getfield 162, 3) := by decide +kernel
theorem dX6_told_95 : decode cX6_told 95 = .ok (.ireturn, 1) := by decide +kernel
theorem dX6_told_96 : decode cX6_told 96 = .ok (.aload_n 0, 1) := by decide +kernel
theorem dX6_told_97 : decode cX6_told 97 = .ok (.getfield 23, 3) := by decide +kernel
theorem dX6_told_100 : decode cX6_told 100 = .ok (.getfield 75, 3) := by decide +kernel
theorem dX6_told_103 : decode cX6_told 103 = .ok (.ireturn, 1) := by decide +kernel
theorem dX6_told_104 : decode cX6_told 104 = .ok (.aload_n 0, 1) := by decide +kernel
theorem dX6_told_105 : decode cX6_told 105 = .ok (.getfield 27, 3) := by decide +kernel
theorem dX6_told_108 : decode cX6_told 108 = .ok (.getfield 83, 3) := by decide +kernel
theorem dX6_told_111 : decode cX6_told 111 = .ok (.ireturn, 1) := by decide +kernel
theorem dX6_told_112 : decode cX6_told 112 = .ok (.aload_n 0, 1) := by decide +kernel
theorem dX6_told_113 : decode cX6_told 113 = .ok (.getfield 44, 3) := by decide +kernel
theorem dX6_told_116 : decode cX6_told 116 = .ok (.getfield 165, 3) := by decide +kernel
theorem dX6_told_119 : decode cX6_told 119 = .ok (.ireturn, 1) := by decide +kernel
theorem dX6_told_120 : decode cX6_told 120 = .ok (.aload_n 0, 1) := by decide +kernel
theorem dX6_told_121 : decode cX6_told 121 = .ok (.getfield 44, 3) := by decide +kernel
theorem dX6_told_124 : decode cX6_told 124 = .ok (.getfield 126, 3) := by decide +kernel
theorem dX6_told_127 : decode cX6_told 127 = .ok (.ireturn, 1) := by decide +kernel
theorem dX6_told_128 : decode cX6_told 128 = .ok (.aload_n 0, 1) := by decide +kernel
theorem dX6_told_129 : decode cX6_told 129 = .ok (.getfield 44, 3) := by decide +kernel
theorem dX6_told_132 : decode cX6_told 132 = .ok (.getfield 135, 3) := by decide +kernel
theorem dX6_told_135 : decode cX6_told 135 = .ok (.ireturn, 1) := by decide +kernel
theorem dX6_told_136 : decode cX6_told 136 = .ok (.bipush (-3), 2) := by decide +kernel
theorem dX6_told_138 : decode cX6_told 138 = .ok (.ireturn, 1) := by decide +kernel
set_option maxRecDepth 100000 in
theorem ggX6_noKinds_X2_forget : GoodIn wsX6_noKinds wsX2_forget := goodIn_r _ [8, 9, 10, 11, 12, 13, 14, 15, 16, 28, 29, 30, 31, 32, 33, 34, 35, 36, 37, 38, 39, 40, 41] rfl (by decide +kernel)
set_option maxRecDepth 100000 in
theorem gX6_noKinds_X2_forget : GoodIn wsX6_noKinds (wsV RX6 65 RX2 yX2_forget wsX2_forget) := goodIn_app (goodIn_of _ (by decide +kernel)) ggX6_noKinds_X2_forget
theorem dX6_noKinds_0 : decode cX6_noKinds 0 = .ok (.aload_n 0, 1) := by decide +kernel
theorem dX6_noKinds_1 : decode cX6_noKinds 1 = .ok (.getfield 27, 3) := by decide +kernel
theorem dX6_noKinds_4 : decode cX6_noKinds 4 = .ok (.getfield 83, 3) := by decide +kernel
theorem dX6_noKinds_7 : decode cX6_noKinds 7 = .ok (.istore_n 1, 1) := by decide +kernel
theorem dX6_noKinds_8 : decode cX6_noKinds 8 = .ok (.aload_n 0, 1) := by decide +kernel
theorem dX6_noKinds_9 : decode cX6_noKinds 9 = .ok (.getfield 27, 3) := by decide +kernel
theorem dX6_noKinds_12 : decode cX6_noKinds 12 = .ok (.iconst 0, 1) := by decide +kernel
theorem dX6_noKinds_13 : decode cX6_noKinds 13 = .ok (.putfield 83, 3) := by decide +kernel
theorem dX6_noKinds_16 : decode cX6_noKinds 16 = .ok (.aload_n 0, 1) := by decide +kernel
theorem dX6_noKinds_17 : decode cX6_noKinds 17 = .ok (.getfield 40, 3) := by decide +kernel
theorem dX6_noKinds_20 : decode cX6_noKinds 20 = .ok (.invokevirtual 65, 3) := by decide +kernel
theorem dX6_noKinds_23 : decode cX6_noKinds 23 = .ok (.iload_n 1, 1) := by decide +kernel
theorem dX6_noKinds_24 : decode cX6_noKinds 24 = .ok (.ireturn, 1) := by decide +kernel
set_option maxRecDepth 100000 in
theorem ggX6_noBars_X0_forgetCosts : GoodIn wsX6_noBars wsX0_forgetCosts := goodIn_r _ [9, 10, 11, 25, 26, 27, 28, 29, 30, 31, 32, 33, 34] rfl (by decide +kernel)
set_option maxRecDepth 100000 in
theorem gX6_noBars_X0_forgetCosts : GoodIn wsX6_noBars (wsV RX6 120 RX0 yX0_forgetCosts wsX0_forgetCosts) := goodIn_app (goodIn_of _ (by decide +kernel)) ggX6_noBars_X0_forgetCosts
theorem dX6_noBars_0 : decode cX6_noBars 0 = .ok (.aload_n 0, 1) := by decide +kernel
theorem dX6_noBars_1 : decode cX6_noBars 1 = .ok (.getfield 44, 3) := by decide +kernel
theorem dX6_noBars_4 : decode cX6_noBars 4 = .ok (.getfield 165, 3) := by decide +kernel
theorem dX6_noBars_7 : decode cX6_noBars 7 = .ok (.aload_n 0, 1) := by decide +kernel
theorem dX6_noBars_8 : decode cX6_noBars 8 = .ok (.getfield 44, 3) := by decide +kernel
theorem dX6_noBars_11 : decode cX6_noBars 11 = .ok (.getfield 126, 3) := by decide +kernel
theorem dX6_noBars_14 : decode cX6_noBars 14 = .ok (.iadd, 1) := by decide +kernel
theorem dX6_noBars_15 : decode cX6_noBars 15 = .ok (.istore_n 1, 1) := by decide +kernel
theorem dX6_noBars_16 : decode cX6_noBars 16 = .ok (.aload_n 0, 1) := by decide +kernel
theorem dX6_noBars_17 : decode cX6_noBars 17 = .ok (.getfield 44, 3) := by decide +kernel
theorem dX6_noBars_20 : decode cX6_noBars 20 = .ok (.iconst 0, 1) := by decide +kernel
theorem dX6_noBars_21 : decode cX6_noBars 21 = .ok (.putfield 165, 3) := by decide +kernel
theorem dX6_noBars_24 : decode cX6_noBars 24 = .ok (.aload_n 0, 1) := by decide +kernel
theorem dX6_noBars_25 : decode cX6_noBars 25 = .ok (.getfield 44, 3) := by decide +kernel
theorem dX6_noBars_28 : decode cX6_noBars 28 = .ok (.iconst 0, 1) := by decide +kernel
theorem dX6_noBars_29 : decode cX6_noBars 29 = .ok (.putfield 126, 3) := by decide +kernel
theorem dX6_noBars_32 : decode cX6_noBars 32 = .ok (.aload_n 0, 1) := by decide +kernel
theorem dX6_noBars_33 : decode cX6_noBars 33 = .ok (.getfield 53, 3) := by decide +kernel
theorem dX6_noBars_36 : decode cX6_noBars 36 = .ok (.invokevirtual 120, 3) := by decide +kernel
theorem dX6_noBars_39 : decode cX6_noBars 39 = .ok (.iload_n 1, 1) := by decide +kernel
theorem dX6_noBars_40 : decode cX6_noBars 40 = .ok (.ireturn, 1) := by decide +kernel
theorem dX6_within_0 : decode cX6_within 0 = .ok (.iload_n 0, 1) := by decide +kernel
theorem dX6_within_1 : decode cX6_within 1 = .ok (.iload_n 1, 1) := by decide +kernel
theorem dX6_within_2 : decode cX6_within 2 = .ok (.if_icmp .lt 12, 3) := by decide +kernel
theorem dX6_within_5 : decode cX6_within 5 = .ok (.iload_n 0, 1) := by decide +kernel
theorem dX6_within_6 : decode cX6_within 6 = .ok (.iload_n 2, 1) := by decide +kernel
theorem dX6_within_7 : decode cX6_within 7 = .ok (.if_icmp .gt 7, 3) := by decide +kernel
theorem dX6_within_10 : decode cX6_within 10 = .ok (.iconst 1, 1) := by decide +kernel
theorem dX6_within_11 : decode cX6_within 11 = .ok (.goto 4, 3) := by decide +kernel
theorem dX6_within_14 : decode cX6_within 14 = .ok (.iconst 0, 1) := by decide +kernel
theorem dX6_within_15 : decode cX6_within 15 = .ok (.ireturn, 1) := by decide +kernel
theorem dX7_init_0 : decode cX7_init 0 = .ok (.aload_n 0, 1) := by decide +kernel
theorem dX7_init_1 : decode cX7_init 1 = .ok (.invokespecial 1, 3) := by decide +kernel
theorem dX7_init_4 : decode cX7_init 4 = .ok (.aload_n 0, 1) := by decide +kernel
theorem dX7_init_5 : decode cX7_init 5 = .ok (.iconst 1, 1) := by decide +kernel
theorem dX7_init_6 : decode cX7_init 6 = .ok (.putfield 7, 3) := by decide +kernel
theorem dX7_init_9 : decode cX7_init 9 = .ok (.aload_n 0, 1) := by decide +kernel
theorem dX7_init_10 : decode cX7_init 10 = .ok (.iconst 1, 1) := by decide +kernel
theorem dX7_init_11 : decode cX7_init 11 = .ok (.putfield 13, 3) := by decide +kernel
theorem dX7_init_14 : decode cX7_init 14 = .ok (.aload_n 0, 1) := by decide +kernel
theorem dX7_init_15 : decode cX7_init 15 = .ok (.iconst 1, 1) := by decide +kernel
theorem dX7_init_16 : decode cX7_init 16 = .ok (.putfield 16, 3) := by decide +kernel
theorem dX7_init_19 : decode cX7_init 19 = .ok (.aload_n 0, 1) := by decide +kernel
theorem dX7_init_20 : decode cX7_init 20 = .ok (.bipush 6, 2) := by decide +kernel
theorem dX7_init_22 : decode cX7_init 22 = .ok (.newarray .int, 2) := by decide +kernel
theorem dX7_init_24 : decode cX7_init 24 = .ok (.putfield 19, 3) := by decide +kernel
theorem dX7_init_27 : decode cX7_init 27 = .ok (.aload_n 0, 1) := by decide +kernel
theorem dX7_init_28 : decode cX7_init 28 = .ok (.bipush 6, 2) := by decide +kernel
theorem dX7_init_30 : decode cX7_init 30 = .ok (.newarray .int, 2) := by decide +kernel
theorem dX7_init_32 : decode cX7_init 32 = .ok (.putfield 23, 3) := by decide +kernel
theorem dX7_init_35 : decode cX7_init 35 = .ok (.aload_n 0, 1) := by decide +kernel
theorem dX7_init_36 : decode cX7_init 36 = .ok (.bipush 6, 2) := by decide +kernel
theorem dX7_init_38 : decode cX7_init 38 = .ok (.newarray .int, 2) := by decide +kernel
theorem dX7_init_40 : decode cX7_init 40 = .ok (.putfield 26, 3) := by decide +kernel
theorem dX7_init_43 : decode cX7_init 43 = .ok (.aload_n 0, 1) := by decide +kernel
theorem dX7_init_44 : decode cX7_init 44 = .ok (.bipush 6, 2) := by decide +kernel
theorem dX7_init_46 : decode cX7_init 46 = .ok (.newarray .int, 2) := by decide +kernel
theorem dX7_init_48 : decode cX7_init 48 = .ok (.putfield 29, 3) := by decide +kernel
theorem dX7_init_51 : decode cX7_init 51 = .ok (.aload_n 0, 1) := by decide +kernel
theorem dX7_init_52 : decode cX7_init 52 = .ok (.bipush 8, 2) := by decide +kernel
theorem dX7_init_54 : decode cX7_init 54 = .ok (.newarray .int, 2) := by decide +kernel
theorem dX7_init_56 : decode cX7_init 56 = .ok (.putfield 32, 3) := by decide +kernel
theorem dX7_init_59 : decode cX7_init 59 = .ok (.aload_n 0, 1) := by decide +kernel
theorem dX7_init_60 : decode cX7_init 60 = .ok (.bipush 8, 2) := by decide +kernel
theorem dX7_init_62 : decode cX7_init 62 = .ok (.newarray .int, 2) := by decide +kernel
theorem dX7_init_64 : decode cX7_init 64 = .ok (.putfield 35, 3) := by decide +kernel
theorem dX7_init_67 : decode cX7_init 67 = .ok (.aload_n 0, 1) := by decide +kernel
theorem dX7_init_68 : decode cX7_init 68 = .ok (.bipush 8, 2) := by decide +kernel
theorem dX7_init_70 : decode cX7_init 70 = .ok (.newarray .int, 2) := by decide +kernel
theorem dX7_init_72 : decode cX7_init 72 = .ok (.putfield 38, 3) := by decide +kernel
theorem dX7_init_75 : decode cX7_init 75 = .ok (.aload_n 0, 1) := by decide +kernel
theorem dX7_init_76 : decode cX7_init 76 = .ok (.bipush 8, 2) := by decide +kernel
theorem dX7_init_78 : decode cX7_init 78 = .ok (.newarray .boolean, 2) := by decide +kernel
theorem dX7_init_80 : decode cX7_init 80 = .ok (.putfield 41, 3) := by decide +kernel
theorem dX7_init_83 : decode cX7_init 83 = .ok (.aload_n 0, 1) := by decide +kernel
theorem dX7_init_84 : decode cX7_init 84 = .ok (.sipush 256, 3) := by decide +kernel
theorem dX7_init_87 : decode cX7_init 87 = .ok (.newarray .int, 2) := by decide +kernel
theorem dX7_init_89 : decode cX7_init 89 = .ok (.putfield 45, 3) := by decide +kernel
theorem dX7_init_92 : decode cX7_init 92 = .ok (.aload_n 0, 1) := by decide +kernel
theorem dX7_init_93 : decode cX7_init 93 = .ok (.ldc 48, 2) := by decide +kernel
theorem dX7_init_95 : decode cX7_init 95 = .ok (.newarray .int, 2) := by decide +kernel
theorem dX7_init_97 : decode cX7_init 97 = .ok (.putfield 49, 3) := by decide +kernel
theorem dX7_init_100 : decode cX7_init 100 = .ok (.aload_n 0, 1) := by decide +kernel
theorem dX7_init_101 : decode cX7_init 101 = .ok (.sipush 256, 3) := by decide +kernel
theorem dX7_init_104 : decode cX7_init 104 = .ok (.newarray .int, 2) := by decide +kernel
theorem dX7_init_106 : decode cX7_init 106 = .ok (.putfield 52, 3) := by decide +kernel
theorem dX7_init_109 : decode cX7_init 109 = .ok (.aload_n 0, 1) := by decide +kernel
theorem dX7_init_110 : decode cX7_init 110 = .ok (.sipush 256, 3) := by decide +kernel
theorem dX7_init_113 : decode cX7_init 113 = .ok (.newarray .int, 2) := by decide +kernel
theorem dX7_init_115 : decode cX7_init 115 = .ok (.putfield 55, 3) := by decide +kernel
theorem dX7_init_118 : decode cX7_init 118 = .ok (.aload_n 0, 1) := by decide +kernel
theorem dX7_init_119 : decode cX7_init 119 = .ok (.sipush 256, 3) := by decide +kernel
theorem dX7_init_122 : decode cX7_init 122 = .ok (.newarray .int, 2) := by decide +kernel
theorem dX7_init_124 : decode cX7_init 124 = .ok (.putfield 58, 3) := by decide +kernel
theorem dX7_init_127 : decode cX7_init 127 = .ok (.aload_n 0, 1) := by decide +kernel
theorem dX7_init_128 : decode cX7_init 128 = .ok (.sipush 256, 3) := by decide +kernel
theorem dX7_init_131 : decode cX7_init 131 = .ok (.newarray .int, 2) := by decide +kernel
theorem dX7_init_133 : decode cX7_init 133 = .ok (.putfield 61, 3) := by decide +kernel
theorem dX7_init_136 : decode cX7_init 136 = .ok (.aload_n 0, 1) := by decide +kernel
theorem dX7_init_137 : decode cX7_init 137 = .ok (.sipush 256, 3) := by decide +kernel
theorem dX7_init_140 : decode cX7_init 140 = .ok (.newarray .int, 2) := by decide +kernel
theorem dX7_init_142 : decode cX7_init 142 = .ok (.putfield 64, 3) := by decide +kernel
theorem dX7_init_145 : decode cX7_init 145 = .ok (.aload_n 0, 1) := by decide +kernel
theorem dX7_init_146 : decode cX7_init 146 = .ok (.sipush 256, 3) := by decide +kernel
theorem dX7_init_149 : decode cX7_init 149 = .ok (.newarray .int, 2) := by decide +kernel
theorem dX7_init_151 : decode cX7_init 151 = .ok (.putfield 67, 3) := by decide +kernel
theorem dX7_init_154 : decode cX7_init 154 = .ok (.aload_n 0, 1) := by decide +kernel
theorem dX7_init_155 : decode cX7_init 155 = .ok (.sipush 256, 3) := by decide +kernel
theorem dX7_init_158 : decode cX7_init 158 = .ok (.newarray .int, 2) := by decide +kernel
theorem dX7_init_160 : decode cX7_init 160 = .ok (.putfield 70, 3) := by decide +kernel
theorem dX7_init_163 : decode cX7_init 163 = .ok (.aload_n 0, 1) := by decide +kernel
theorem dX7_init_164 : decode cX7_init 164 = .ok (.sipush 256, 3) := by decide +kernel
theorem dX7_init_167 : decode cX7_init 167 = .ok (.newarray .int, 2) := by decide +kernel
theorem dX7_init_169 : decode cX7_init 169 = .ok (.putfield 73, 3) := by decide +kernel
theorem dX7_init_172 : decode cX7_init 172 = .ok (.aload_n 0, 1) := by decide +kernel
theorem dX7_init_173 : decode cX7_init 173 = .ok (.sipush 256, 3) := by decide +kernel
theorem dX7_init_176 : decode cX7_init 176 = .ok (.newarray .int, 2) := by decide +kernel
theorem dX7_init_178 : decode cX7_init 178 = .ok (.putfield 76, 3) := by decide +kernel
theorem dX7_init_181 : decode cX7_init 181 = .ok (.aload_n 0, 1) := by decide +kernel
theorem dX7_init_182 : decode cX7_init 182 = .ok (.sipush 256, 3) := by decide +kernel
theorem dX7_init_185 : decode cX7_init 185 = .ok (.newarray .int, 2) := by decide +kernel
theorem dX7_init_187 : decode cX7_init 187 = .ok (.putfield 79, 3) := by decide +kernel
theorem dX7_init_190 : decode cX7_init 190 = .ok (.aload_n 0, 1) := by decide +kernel
theorem dX7_init_191 : decode cX7_init 191 = .ok (.sipush 1300, 3) := by decide +kernel
theorem dX7_init_194 : decode cX7_init 194 = .ok (.newarray .int, 2) := by decide +kernel
theorem dX7_init_196 : decode cX7_init 196 = .ok (.putfield 82, 3) := by decide +kernel
theorem dX7_init_199 : decode cX7_init 199 = .ok (.aload_n 0, 1) := by decide +kernel
theorem dX7_init_200 : decode cX7_init 200 = .ok (.iconst 3, 1) := by decide +kernel
theorem dX7_init_201 : decode cX7_init 201 = .ok (.newarray .int, 2) := by decide +kernel
theorem dX7_init_203 : decode cX7_init 203 = .ok (.putfield 85, 3) := by decide +kernel
theorem dX7_init_206 : decode cX7_init 206 = .ok (.aload_n 0, 1) := by decide +kernel
theorem dX7_init_207 : decode cX7_init 207 = .ok (.iconst 3, 1) := by decide +kernel
theorem dX7_init_208 : decode cX7_init 208 = .ok (.newarray .int, 2) := by decide +kernel
theorem dX7_init_210 : decode cX7_init 210 = .ok (.putfield 88, 3) := by decide +kernel
theorem dX7_init_213 : decode cX7_init 213 = .ok (.aload_n 0, 1) := by decide +kernel
theorem dX7_init_214 : decode cX7_init 214 = .ok (.iconst 4, 1) := by decide +kernel
theorem dX7_init_215 : decode cX7_init 215 = .ok (.newarray .int, 2) := by decide +kernel
theorem dX7_init_217 : decode cX7_init 217 = .ok (.putfield 91, 3) := by decide +kernel
theorem dX7_init_220 : decode cX7_init 220 = .ok (.aload_n 0, 1) := by decide +kernel
theorem dX7_init_221 : decode cX7_init 221 = .ok (.iconst 4, 1) := by decide +kernel
theorem dX7_init_222 : decode cX7_init 222 = .ok (.newarray .int, 2) := by decide +kernel
theorem dX7_init_224 : decode cX7_init 224 = .ok (.putfield 94, 3) := by decide +kernel
theorem dX7_init_227 : decode cX7_init 227 = .ok (.aload_n 0, 1) := by decide +kernel
theorem dX7_init_228 : decode cX7_init 228 = .ok (.sipush 1296, 3) := by decide +kernel
