theorem dX1_mostValue_48 : decode cX1_mostValue 48 = .ok (.iload 4, 2) := by decide +kernel
theorem dX1_mostValue_50 : decode cX1_mostValue 50 = .ok (.iaload, 1) := by decide +kernel
theorem dX1_mostValue_51 : decode cX1_mostValue 51 = .ok (.invokestatic 36, 3) := by decide +kernel
theorem dX1_mostValue_54 : decode cX1_mostValue 54 = .ok (.istore_n 3, 1) := by decide +kernel
theorem dX1_mostValue_55 : decode cX1_mostValue 55 = .ok (.iinc 4 1, 3) := by decide +kernel
theorem dX1_mostValue_58 : decode cX1_mostValue 58 = .ok (.goto (-53), 3) := by decide +kernel
theorem dX1_mostValue_61 : decode cX1_mostValue 61 = .ok (.iload_n 3, 1) := by decide +kernel
theorem dX1_mostValue_62 : decode cX1_mostValue 62 = .ok (.ireturn, 1) := by decide +kernel
set_option maxRecDepth 100000 in
theorem ggX1_firstOfValue_X1_lies : GoodIn wsX1_firstOfValue wsX1_lies := goodIn_r _ [7, 8, 9, 15, 16, 17, 18, 19] rfl (by decide +kernel)
set_option maxRecDepth 100000 in
theorem gX1_firstOfValue_X1_lies : GoodIn wsX1_firstOfValue (wsV RX1 29 RX1 yX1_lies wsX1_lies) := goodIn_app (goodIn_of _ (by decide +kernel)) ggX1_firstOfValue_X1_lies
set_option maxRecDepth 100000 in
theorem ggX1_firstOfValue_X1_liesTurned : GoodIn wsX1_firstOfValue wsX1_liesTurned := goodIn_r _ [13, 14, 8, 9, 15, 16, 17, 18, 19] rfl (by decide +kernel)
set_option maxRecDepth 100000 in
theorem gX1_firstOfValue_X1_liesTurned : GoodIn wsX1_firstOfValue (wsV RX1 33 RX1 yX1_liesTurned wsX1_liesTurned) := goodIn_app (goodIn_of _ (by decide +kernel)) ggX1_firstOfValue_X1_liesTurned
theorem dX1_firstOfValue_0 : decode cX1_firstOfValue 0 = .ok (.iconst 0, 1) := by decide +kernel
theorem dX1_firstOfValue_1 : decode cX1_firstOfValue 1 = .ok (.istore 4, 2) := by decide +kernel
theorem dX1_firstOfValue_3 : decode cX1_firstOfValue 3 = .ok (.iload 4, 2) := by decide +kernel
theorem dX1_firstOfValue_5 : decode cX1_firstOfValue 5 = .ok (.aload_n 0, 1) := by decide +kernel
theorem dX1_firstOfValue_6 : decode cX1_firstOfValue 6 = .ok (.getfield 9, 3) := by decide +kernel
theorem dX1_firstOfValue_9 : decode cX1_firstOfValue 9 = .ok (.if_icmp .ge 52, 3) := by decide +kernel
theorem dX1_firstOfValue_12 : decode cX1_firstOfValue 12 = .ok (.iload 4, 2) := by decide +kernel
theorem dX1_firstOfValue_14 : decode cX1_firstOfValue 14 = .ok (.bipush 8, 2) := by decide +kernel
theorem dX1_firstOfValue_16 : decode cX1_firstOfValue 16 = .ok (.if_icmp .ge 45, 3) := by decide +kernel
theorem dX1_firstOfValue_19 : decode cX1_firstOfValue 19 = .ok (.aload_n 0, 1) := by decide +kernel
theorem dX1_firstOfValue_20 : decode cX1_firstOfValue 20 = .ok (.getfield 22, 3) := by decide +kernel
theorem dX1_firstOfValue_23 : decode cX1_firstOfValue 23 = .ok (.iload 4, 2) := by decide +kernel
theorem dX1_firstOfValue_25 : decode cX1_firstOfValue 25 = .ok (.iaload, 1) := by decide +kernel
theorem dX1_firstOfValue_26 : decode cX1_firstOfValue 26 = .ok (.iload_n 3, 1) := by decide +kernel
theorem dX1_firstOfValue_27 : decode cX1_firstOfValue 27 = .ok (.if_icmp .ne 28, 3) := by decide +kernel
theorem dX1_firstOfValue_30 : decode cX1_firstOfValue 30 = .ok (.aload_n 0, 1) := by decide +kernel
theorem dX1_firstOfValue_31 : decode cX1_firstOfValue 31 = .ok (.iload 4, 2) := by decide +kernel
theorem dX1_firstOfValue_33 : decode cX1_firstOfValue 33 = .ok (.iload_n 1, 1) := by decide +kernel
theorem dX1_firstOfValue_34 : decode cX1_firstOfValue 34 = .ok (.iload_n 2, 1) := by decide +kernel
theorem dX1_firstOfValue_35 : decode cX1_firstOfValue 35 = .ok (.invokevirtual 29, 3) := by decide +kernel
theorem dX1_firstOfValue_38 : decode cX1_firstOfValue 38 = .ok (.ifCond .ne 14, 3) := by decide +kernel
theorem dX1_firstOfValue_41 : decode cX1_firstOfValue 41 = .ok (.aload_n 0, 1) := by decide +kernel
theorem dX1_firstOfValue_42 : decode cX1_firstOfValue 42 = .ok (.iload 4, 2) := by decide +kernel
theorem dX1_firstOfValue_44 : decode cX1_firstOfValue 44 = .ok (.iload_n 1, 1) := by decide +kernel
theorem dX1_firstOfValue_45 : decode cX1_firstOfValue 45 = .ok (.iload_n 2, 1) := by decide +kernel
theorem dX1_firstOfValue_46 : decode cX1_firstOfValue 46 = .ok (.invokevirtual 33, 3) := by decide +kernel
theorem dX1_firstOfValue_49 : decode cX1_firstOfValue 49 = .ok (.ifCond .eq 6, 3) := by decide +kernel
theorem dX1_firstOfValue_52 : decode cX1_firstOfValue 52 = .ok (.iload 4, 2) := by decide +kernel
theorem dX1_firstOfValue_54 : decode cX1_firstOfValue 54 = .ok (.ireturn, 1) := by decide +kernel
theorem dX1_firstOfValue_55 : decode cX1_firstOfValue 55 = .ok (.iinc 4 1, 3) := by decide +kernel
theorem dX1_firstOfValue_58 : decode cX1_firstOfValue 58 = .ok (.goto (-55), 3) := by decide +kernel
theorem dX1_firstOfValue_61 : decode cX1_firstOfValue 61 = .ok (.iconst (-1), 1) := by decide +kernel
theorem dX1_firstOfValue_62 : decode cX1_firstOfValue 62 = .ok (.ireturn, 1) := by decide +kernel
theorem dX2_init_0 : decode cX2_init 0 = .ok (.aload_n 0, 1) := by decide +kernel
theorem dX2_init_1 : decode cX2_init 1 = .ok (.invokespecial 5, 3) := by decide +kernel
theorem dX2_init_4 : decode cX2_init 4 = .ok (.aload_n 0, 1) := by decide +kernel
theorem dX2_init_5 : decode cX2_init 5 = .ok (.sipush 1536, 3) := by decide +kernel
theorem dX2_init_8 : decode cX2_init 8 = .ok (.newarray .int, 2) := by decide +kernel
theorem dX2_init_10 : decode cX2_init 10 = .ok (.putfield 11, 3) := by decide +kernel
theorem dX2_init_13 : decode cX2_init 13 = .ok (.aload_n 0, 1) := by decide +kernel
theorem dX2_init_14 : decode cX2_init 14 = .ok (.sipush 1785, 3) := by decide +kernel
theorem dX2_init_17 : decode cX2_init 17 = .ok (.newarray .int, 2) := by decide +kernel
theorem dX2_init_19 : decode cX2_init 19 = .ok (.putfield 15, 3) := by decide +kernel
theorem dX2_init_22 : decode cX2_init 22 = .ok (.aload_n 0, 1) := by decide +kernel
theorem dX2_init_23 : decode cX2_init 23 = .ok (.iconst 0, 1) := by decide +kernel
theorem dX2_init_24 : decode cX2_init 24 = .ok (.putfield 18, 3) := by decide +kernel
theorem dX2_init_27 : decode cX2_init 27 = .ok (.aload_n 0, 1) := by decide +kernel
theorem dX2_init_28 : decode cX2_init 28 = .ok (.iconst 0, 1) := by decide +kernel
theorem dX2_init_29 : decode cX2_init 29 = .ok (.putfield 22, 3) := by decide +kernel
theorem dX2_init_32 : decode cX2_init 32 = .ok (.aload_n 0, 1) := by decide +kernel
theorem dX2_init_33 : decode cX2_init 33 = .ok (.iconst 0, 1) := by decide +kernel
theorem dX2_init_34 : decode cX2_init 34 = .ok (.putfield 25, 3) := by decide +kernel
theorem dX2_init_37 : decode cX2_init 37 = .ok (.aload_n 0, 1) := by decide +kernel
theorem dX2_init_38 : decode cX2_init 38 = .ok (.iconst 1, 1) := by decide +kernel
theorem dX2_init_39 : decode cX2_init 39 = .ok (.putfield 28, 3) := by decide +kernel
theorem dX2_init_42 : decode cX2_init 42 = .ok (.aload_n 0, 1) := by decide +kernel
theorem dX2_init_43 : decode cX2_init 43 = .ok (.aload_n 1, 1) := by decide +kernel
theorem dX2_init_44 : decode cX2_init 44 = .ok (.putfield 32, 3) := by decide +kernel
theorem dX2_init_47 : decode cX2_init 47 = .ok (.aload_n 0, 1) := by decide +kernel
theorem dX2_init_48 : decode cX2_init 48 = .ok (.aload_n 2, 1) := by decide +kernel
theorem dX2_init_49 : decode cX2_init 49 = .ok (.putfield 36, 3) := by decide +kernel
theorem dX2_init_52 : decode cX2_init 52 = .ok (.aload_n 0, 1) := by decide +kernel
theorem dX2_init_53 : decode cX2_init 53 = .ok (.aload_n 3, 1) := by decide +kernel
theorem dX2_init_54 : decode cX2_init 54 = .ok (.putfield 40, 3) := by decide +kernel
theorem dX2_init_57 : decode cX2_init 57 = .ok (.return_, 1) := by decide +kernel
set_option maxRecDepth 100000 in
theorem ggX2_forget_X5_forget : GoodIn wsX2_forget wsX5_forget := goodIn_r _ [7, 8, 18, 19, 20, 21, 22] rfl (by decide +kernel)
set_option maxRecDepth 100000 in
theorem gX2_forget_X5_forget : GoodIn wsX2_forget (wsV RX2 44 RX5 yX5_forget wsX5_forget) := goodIn_app (goodIn_of _ (by decide +kernel)) ggX2_forget_X5_forget
theorem dX2_forget_0 : decode cX2_forget 0 = .ok (.aload_n 0, 1) := by decide +kernel
theorem dX2_forget_1 : decode cX2_forget 1 = .ok (.iconst 1, 1) := by decide +kernel
theorem dX2_forget_2 : decode cX2_forget 2 = .ok (.putfield 28, 3) := by decide +kernel
theorem dX2_forget_5 : decode cX2_forget 5 = .ok (.aload_n 0, 1) := by decide +kernel
theorem dX2_forget_6 : decode cX2_forget 6 = .ok (.getfield 40, 3) := by decide +kernel
theorem dX2_forget_9 : decode cX2_forget 9 = .ok (.invokevirtual 44, 3) := by decide +kernel
theorem dX2_forget_12 : decode cX2_forget 12 = .ok (.return_, 1) := by decide +kernel
set_option maxRecDepth 100000 in
theorem ggX2_makeReady_X5_makeReady : GoodIn wsX2_makeReady wsX5_makeReady := goodIn_r _ [13, 14, 15, 16, 17, 18, 19, 12, 20, 21, 22, 23, 24, 25, 26, 27, 28, 29, 30, 31, 32, 33, 34, 35, 36, 37, 38, 39, 40, 41, 42, 43, 44, 45, 46, 47, 48, 49, 50, 51, 52, 53, 54, 55, 56, 57, 58, 59, 60, 61, 62, 63, 64, 65, 66, 67, 68, 69, 70, 71, 72, 73, 74, 75, 76, 77, 78, 79, 80, 81, 82, 83, 84, 85, 86, 87, 88, 89, 90, 91, 92, 93, 94, 95, 96, 97, 98, 99, 100, 160, 161, 162, 163, 164, 153, 154, 155, 156, 157, 158, 159, 165, 166, 167, 168, 169] rfl (by decide +kernel)
set_option maxRecDepth 100000 in
theorem gX2_makeReady_X5_makeReady : GoodIn wsX2_makeReady (wsV RX2 49 RX5 yX5_makeReady wsX5_makeReady) := goodIn_app (goodIn_of _ (by decide +kernel)) ggX2_makeReady_X5_makeReady
set_option maxRecDepth 100000 in
theorem ggX2_makeReady_X2_lay : GoodIn wsX2_makeReady wsX2_lay := goodIn_r _ [105, 2, 5, 106, 107, 108, 109, 110, 12, 111, 15, 16, 84, 60, 61, 62, 63, 21, 24, 25, 26, 27, 28, 29, 30, 91, 92, 93, 94, 95, 96, 112, 86, 87, 67, 88, 89, 90, 113, 114, 115, 44, 116, 46, 47, 49, 50, 51, 52, 53, 54, 55, 56, 57, 58, 59, 117, 118, 119, 104, 120, 3, 121, 8, 122, 123, 124, 125, 126, 127, 65, 66, 68, 69, 70, 71, 72, 73, 74, 128, 129, 130, 131, 40, 75, 132, 133, 134, 135, 136, 4, 137, 138, 139, 140, 141, 101, 102, 103, 142, 143, 144, 145, 146, 147, 148, 149, 150, 151, 152, 153, 154, 155, 156, 157, 158, 159, 160, 161, 162, 163, 164, 165, 166, 167, 168, 169] rfl (by decide +kernel)
set_option maxRecDepth 100000 in
theorem gX2_makeReady_X2_lay : GoodIn wsX2_makeReady (wsV RX2 60 RX2 yX2_lay wsX2_lay) := goodIn_app (goodIn_of _ (by decide +kernel)) ggX2_makeReady_X2_lay
theorem dX2_makeReady_0 : decode cX2_makeReady 0 = .ok (.aload_n 0, 1) := by decide +kernel
theorem dX2_makeReady_1 : decode cX2_makeReady 1 = .ok (.getfield 28, 3) := by decide +kernel
theorem dX2_makeReady_4 : decode cX2_makeReady 4 = .ok (.ifCond .ne 4, 3) := by decide +kernel
theorem dX2_makeReady_7 : decode cX2_makeReady 7 = .ok (.return_, 1) := by decide +kernel
theorem dX2_makeReady_8 : decode cX2_makeReady 8 = .ok (.aload_n 0, 1) := by decide +kernel
theorem dX2_makeReady_9 : decode cX2_makeReady 9 = .ok (.getfield 40, 3) := by decide +kernel
theorem dX2_makeReady_12 : decode cX2_makeReady 12 = .ok (.invokevirtual 49, 3) := by decide +kernel
theorem dX2_makeReady_15 : decode cX2_makeReady 15 = .ok (.aload_n 0, 1) := by decide +kernel
theorem dX2_makeReady_16 : decode cX2_makeReady 16 = .ok (.iconst 0, 1) := by decide +kernel
theorem dX2_makeReady_17 : decode cX2_makeReady 17 = .ok (.putfield 18, 3) := by decide +kernel
theorem dX2_makeReady_20 : decode cX2_makeReady 20 = .ok (.aload_n 0, 1) := by decide +kernel
theorem dX2_makeReady_21 : decode cX2_makeReady 21 = .ok (.iconst 0, 1) := by decide +kernel
theorem dX2_makeReady_22 : decode cX2_makeReady 22 = .ok (.putfield 22, 3) := by decide +kernel
theorem dX2_makeReady_25 : decode cX2_makeReady 25 = .ok (.aload_n 0, 1) := by decide +kernel
theorem dX2_makeReady_26 : decode cX2_makeReady 26 = .ok (.aload_n 0, 1) := by decide +kernel
theorem dX2_makeReady_27 : decode cX2_makeReady 27 = .ok (.getfield 32, 3) := by decide +kernel
theorem dX2_makeReady_30 : decode cX2_makeReady 30 = .ok (.getfield 52, 3) := by decide +kernel
theorem dX2_makeReady_33 : decode cX2_makeReady 33 = .ok (.aload_n 0, 1) := by decide +kernel
theorem dX2_makeReady_34 : decode cX2_makeReady 34 = .ok (.getfield 32, 3) := by decide +kernel
theorem dX2_makeReady_37 : decode cX2_makeReady 37 = .ok (.getfield 57, 3) := by decide +kernel
theorem dX2_makeReady_40 : decode cX2_makeReady 40 = .ok (.imul, 1) := by decide +kernel
theorem dX2_makeReady_41 : decode cX2_makeReady 41 = .ok (.putfield 25, 3) := by decide +kernel
theorem dX2_makeReady_44 : decode cX2_makeReady 44 = .ok (.aload_n 0, 1) := by decide +kernel
theorem dX2_makeReady_45 : decode cX2_makeReady 45 = .ok (.iconst 0, 1) := by decide +kernel
theorem dX2_makeReady_46 : decode cX2_makeReady 46 = .ok (.iconst 0, 1) := by decide +kernel
theorem dX2_makeReady_47 : decode cX2_makeReady 47 = .ok (.aload_n 0, 1) := by decide +kernel
theorem dX2_makeReady_48 : decode cX2_makeReady 48 = .ok (.getfield 32, 3) := by decide +kernel
theorem dX2_makeReady_51 : decode cX2_makeReady 51 = .ok (.getfield 52, 3) := by decide +kernel
theorem dX2_makeReady_54 : decode cX2_makeReady 54 = .ok (.aload_n 0, 1) := by decide +kernel
theorem dX2_makeReady_55 : decode cX2_makeReady 55 = .ok (.getfield 32, 3) := by decide +kernel
theorem dX2_makeReady_58 : decode cX2_makeReady 58 = .ok (.getfield 57, 3) := by decide +kernel
theorem dX2_makeReady_61 : decode cX2_makeReady 61 = .ok (.iconst 1, 1) := by decide +kernel
theorem dX2_makeReady_62 : decode cX2_makeReady 62 = .ok (.invokevirtual 60, 3) := by decide +kernel
theorem dX2_makeReady_65 : decode cX2_makeReady 65 = .ok (.aload_n 0, 1) := by decide +kernel
theorem dX2_makeReady_66 : decode cX2_makeReady 66 = .ok (.iconst 0, 1) := by decide +kernel
theorem dX2_makeReady_67 : decode cX2_makeReady 67 = .ok (.putfield 28, 3) := by decide +kernel
theorem dX2_makeReady_70 : decode cX2_makeReady 70 = .ok (.return_, 1) := by decide +kernel
set_option maxRecDepth 100000 in
theorem ggX2_lay_X5_of : GoodIn wsX2_lay wsX5_of := goodIn_r _ [9, 10, 11, 12, 13, 14, 15, 8, 16, 17, 18, 19, 20, 21, 22, 23, 24, 25, 26, 27, 28, 29, 30, 117, 118, 119, 120, 121, 110, 111, 112, 113, 114, 115, 116] rfl (by decide +kernel)
set_option maxRecDepth 100000 in
theorem gX2_lay_X5_of : GoodIn wsX2_lay (wsV RX2 64 RX5 yX5_of wsX5_of) := goodIn_app (goodIn_of _ (by decide +kernel)) ggX2_lay_X5_of
set_option maxRecDepth 100000 in
theorem ggX2_lay_X4_isClean : GoodIn wsX2_lay wsX4_isClean := goodIn_r _ [35, 36, 37, 110, 111, 112, 113, 114, 115, 116] rfl (by decide +kernel)
set_option maxRecDepth 100000 in
theorem gX2_lay_X4_isClean : GoodIn wsX2_lay (wsV RX2 68 RX4 yX4_isClean wsX4_isClean) := goodIn_app (goodIn_of _ (by decide +kernel)) ggX2_lay_X4_isClean
set_option maxRecDepth 100000 in
theorem ggX2_lay_X1_firstOfValue : GoodIn wsX2_lay wsX1_firstOfValue := goodIn_r _ [42, 43, 44, 45, 46, 47, 41, 48, 49, 50, 51, 52, 53, 54, 55, 122, 123, 124, 125, 126] rfl (by decide +kernel)
set_option maxRecDepth 100000 in
theorem gX2_lay_X1_firstOfValue : GoodIn wsX2_lay (wsV RX2 72 RX1 yX1_firstOfValue wsX1_firstOfValue) := goodIn_app (goodIn_of _ (by decide +kernel)) ggX2_lay_X1_firstOfValue
set_option maxRecDepth 100000 in
theorem ggX2_lay_X2_addPiece : GoodIn wsX2_lay wsX2_addPiece := goodIn_r _ [60, 61, 62, 3, 63, 64, 46, 47, 41, 48, 49, 50, 101, 102, 103, 104, 105, 106, 107, 108, 109, 122, 123, 124, 125, 126] rfl (by decide +kernel)
set_option maxRecDepth 100000 in
theorem gX2_lay_X2_addPiece : GoodIn wsX2_lay (wsV RX2 78 RX2 yX2_addPiece wsX2_addPiece) := goodIn_app (goodIn_of _ (by decide +kernel)) ggX2_lay_X2_addPiece
set_option maxRecDepth 100000 in
theorem ggX2_lay_X2_firstCut : GoodIn wsX2_lay wsX2_firstCut := goodIn_r _ [68, 2, 1, 69, 70, 71, 34, 72, 73, 74, 75, 76, 77, 78, 79, 80, 81, 8, 82, 10, 83, 84, 85, 6, 7, 9, 11, 12, 13, 14, 15, 16, 17, 18, 19, 20, 21, 22, 23, 24, 25, 26, 27, 28, 29, 30, 101, 102, 103, 104, 105, 106, 107, 108, 109, 110, 111, 112, 113, 114, 115, 116, 117, 118, 119, 120, 121] rfl (by decide +kernel)
set_option maxRecDepth 100000 in
theorem gX2_lay_X2_firstCut : GoodIn wsX2_lay (wsV RX2 81 RX2 yX2_firstCut wsX2_firstCut) := goodIn_app (goodIn_of _ (by decide +kernel)) ggX2_lay_X2_firstCut
set_option maxRecDepth 100000 in
theorem ggX2_lay_X2_addCut : GoodIn wsX2_lay wsX2_addCut := goodIn_r _ [89, 90, 2, 91, 92, 75, 76, 34, 77, 78, 101, 102, 103, 104, 105, 106, 107, 108, 109, 110, 111, 112, 113, 114, 115, 116] rfl (by decide +kernel)
set_option maxRecDepth 100000 in
theorem gX2_lay_X2_addCut : GoodIn wsX2_lay (wsV RX2 85 RX2 yX2_addCut wsX2_addCut) := goodIn_app (goodIn_of _ (by decide +kernel)) ggX2_lay_X2_addCut
set_option maxRecDepth 100000 in
theorem ggX2_lay_X2_layBoth : GoodIn wsX2_lay wsX2_layBoth := goodIn_r _ [99, 2, 100, 92, 75, 76, 34, 77, 78, 96, 97, 98, 59, 0, 1, 3, 4, 5, 6, 7, 8, 9, 10, 11, 12, 13, 14, 15, 16, 17, 18, 19, 20, 21, 22, 23, 24, 25, 26, 27, 28, 29, 30, 31, 32, 33, 35, 36, 37, 38, 39, 40, 41, 42, 43, 44, 45, 46, 47, 48, 49, 50, 51, 52, 53, 54, 55, 56, 57, 58, 60, 61, 62, 63, 64, 65, 66, 67, 68, 69, 70, 71, 72, 73, 74, 79, 80, 81, 82, 83, 84, 85, 86, 87, 88, 89, 90, 91, 93, 94, 95, 101, 102, 103, 104, 105, 106, 107, 108, 109, 110, 111, 112, 113, 114, 115, 116, 117, 118, 119, 120, 121, 122, 123, 124, 125, 126] rfl (by decide +kernel)
set_option maxRecDepth 100000 in
theorem gX2_lay_X2_layBoth : GoodIn wsX2_lay (wsV RX2 89 RX2 yX2_layBoth wsX2_layBoth) := goodIn_app (goodIn_of _ (by decide +kernel)) ggX2_lay_X2_layBoth
set_option maxRecDepth 100000 in
theorem ggX2_lay_X2_lay : GoodIn wsX2_lay wsX2_lay := goodIn_r _ [0, 1, 2, 3, 4, 5, 6, 7, 8, 9, 10, 11, 12, 13, 14, 15, 16, 17, 18, 19, 20, 21, 22, 23, 24, 25, 26, 27, 28, 29, 30, 31, 32, 33, 34, 35, 36, 37, 38, 39, 40, 41, 42, 43, 44, 45, 46, 47, 48, 49, 50, 51, 52, 53, 54, 55, 56, 57, 58, 59, 60, 61, 62, 63, 64, 65, 66, 67, 68, 69, 70, 71, 72, 73, 74, 75, 76, 77, 78, 79, 80, 81, 82, 83, 84, 85, 86, 87, 88, 89, 90, 91, 92, 93, 94, 95, 96, 97, 98, 99, 100, 101, 102, 103, 104, 105, 106, 107, 108, 109, 110, 111, 112, 113, 114, 115, 116, 117, 118, 119, 120, 121, 122, 123, 124, 125, 126] rfl (by decide +kernel)
set_option maxRecDepth 100000 in
theorem gX2_lay_X2_lay : GoodIn wsX2_lay (wsV RX2 60 RX2 yX2_lay wsX2_lay) := goodIn_app (goodIn_of _ (by decide +kernel)) ggX2_lay_X2_lay
theorem dX2_lay_0 : decode cX2_lay 0 = .ok (.aload_n 0, 1) := by decide +kernel
theorem dX2_lay_1 : decode cX2_lay 1 = .ok (.getfield 40, 3) := by decide +kernel
theorem dX2_lay_4 : decode cX2_lay 4 = .ok (.iload_n 1, 1) := by decide +kernel
theorem dX2_lay_5 : decode cX2_lay 5 = .ok (.iload_n 2, 1) := by decide +kernel
theorem dX2_lay_6 : decode cX2_lay 6 = .ok (.iload_n 3, 1) := by decide +kernel
theorem dX2_lay_7 : decode cX2_lay 7 = .ok (.iload 4, 2) := by decide +kernel
theorem dX2_lay_9 : decode cX2_lay 9 = .ok (.iload 5, 2) := by decide +kernel
theorem dX2_lay_11 : decode cX2_lay 11 = .ok (.invokevirtual 64, 3) := by decide +kernel
theorem dX2_lay_14 : decode cX2_lay 14 = .ok (.istore 6, 2) := by decide +kernel
theorem dX2_lay_16 : decode cX2_lay 16 = .ok (.iload 6, 2) := by decide +kernel
theorem dX2_lay_18 : decode cX2_lay 18 = .ok (.ifCond .ne 4, 3) := by decide +kernel
theorem dX2_lay_21 : decode cX2_lay 21 = .ok (.return_, 1) := by decide +kernel
theorem dX2_lay_22 : decode cX2_lay 22 = .ok (.aload_n 0, 1) := by decide +kernel
theorem dX2_lay_23 : decode cX2_lay 23 = .ok (.getfield 32, 3) := by decide +kernel
theorem dX2_lay_26 : decode cX2_lay 26 = .ok (.iload_n 1, 1) := by decide +kernel
theorem dX2_lay_27 : decode cX2_lay 27 = .ok (.iload_n 2, 1) := by decide +kernel
theorem dX2_lay_28 : decode cX2_lay 28 = .ok (.iload_n 3, 1) := by decide +kernel
theorem dX2_lay_29 : decode cX2_lay 29 = .ok (.iload 4, 2) := by decide +kernel
theorem dX2_lay_31 : decode cX2_lay 31 = .ok (.invokevirtual 68, 3) := by decide +kernel
theorem dX2_lay_34 : decode cX2_lay 34 = .ok (.ifCond .eq 18, 3) := by decide +kernel
theorem dX2_lay_37 : decode cX2_lay 37 = .ok (.aload_n 0, 1) := by decide +kernel
theorem dX2_lay_38 : decode cX2_lay 38 = .ok (.getfield 36, 3) := by decide +kernel
theorem dX2_lay_41 : decode cX2_lay 41 = .ok (.iload_n 3, 1) := by decide +kernel
theorem dX2_lay_42 : decode cX2_lay 42 = .ok (.iload 4, 2) := by decide +kernel
theorem dX2_lay_44 : decode cX2_lay 44 = .ok (.iload 6, 2) := by decide +kernel
theorem dX2_lay_46 : decode cX2_lay 46 = .ok (.invokevirtual 72, 3) := by decide +kernel
theorem dX2_lay_49 : decode cX2_lay 49 = .ok (.goto 4, 3) := by decide +kernel
theorem dX2_lay_52 : decode cX2_lay 52 = .ok (.iconst (-1), 1) := by decide +kernel
theorem dX2_lay_53 : decode cX2_lay 53 = .ok (.istore 7, 2) := by decide +kernel
theorem dX2_lay_55 : decode cX2_lay 55 = .ok (.iload 7, 2) := by decide +kernel
theorem dX2_lay_57 : decode cX2_lay 57 = .ok (.iconst (-1), 1) := by decide +kernel
theorem dX2_lay_58 : decode cX2_lay 58 = .ok (.if_icmp .eq 15, 3) := by decide +kernel
theorem dX2_lay_61 : decode cX2_lay 61 = .ok (.aload_n 0, 1) := by decide +kernel
theorem dX2_lay_62 : decode cX2_lay 62 = .ok (.iload 7, 2) := by decide +kernel
theorem dX2_lay_64 : decode cX2_lay 64 = .ok (.iload_n 1, 1) := by decide +kernel
theorem dX2_lay_65 : decode cX2_lay 65 = .ok (.iload_n 2, 1) := by decide +kernel
theorem dX2_lay_66 : decode cX2_lay 66 = .ok (.iload_n 3, 1) := by decide +kernel
theorem dX2_lay_67 : decode cX2_lay 67 = .ok (.iload 4, 2) := by decide +kernel
theorem dX2_lay_69 : decode cX2_lay 69 = .ok (.invokevirtual 78, 3) := by decide +kernel
theorem dX2_lay_72 : decode cX2_lay 72 = .ok (.return_, 1) := by decide +kernel
theorem dX2_lay_73 : decode cX2_lay 73 = .ok (.aload_n 0, 1) := by decide +kernel
theorem dX2_lay_74 : decode cX2_lay 74 = .ok (.iload_n 1, 1) := by decide +kernel
theorem dX2_lay_75 : decode cX2_lay 75 = .ok (.iload_n 2, 1) := by decide +kernel
theorem dX2_lay_76 : decode cX2_lay 76 = .ok (.iload_n 3, 1) := by decide +kernel
theorem dX2_lay_77 : decode cX2_lay 77 = .ok (.iload 4, 2) := by decide +kernel
theorem dX2_lay_79 : decode cX2_lay 79 = .ok (.iload 5, 2) := by decide +kernel
theorem dX2_lay_81 : decode cX2_lay 81 = .ok (.iload 6, 2) := by decide +kernel
theorem dX2_lay_83 : decode cX2_lay 83 = .ok (.invokevirtual 81, 3) := by decide +kernel
theorem dX2_lay_86 : decode cX2_lay 86 = .ok (.istore 8, 2) := by decide +kernel
theorem dX2_lay_88 : decode cX2_lay 88 = .ok (.iload 8, 2) := by decide +kernel
theorem dX2_lay_90 : decode cX2_lay 90 = .ok (.iconst (-1), 1) := by decide +kernel
theorem dX2_lay_91 : decode cX2_lay 91 = .ok (.if_icmp .eq 32, 3) := by decide +kernel
theorem dX2_lay_94 : decode cX2_lay 94 = .ok (.aload_n 0, 1) := by decide +kernel
theorem dX2_lay_95 : decode cX2_lay 95 = .ok (.iload_n 1, 1) := by decide +kernel
theorem dX2_lay_96 : decode cX2_lay 96 = .ok (.iload_n 2, 1) := by decide +kernel
theorem dX2_lay_97 : decode cX2_lay 97 = .ok (.iload_n 3, 1) := by decide +kernel
theorem dX2_lay_98 : decode cX2_lay 98 = .ok (.iload 4, 2) := by decide +kernel
theorem dX2_lay_100 : decode cX2_lay 100 = .ok (.iload 5, 2) := by decide +kernel
theorem dX2_lay_102 : decode cX2_lay 102 = .ok (.iload 8, 2) := by decide +kernel
theorem dX2_lay_104 : decode cX2_lay 104 = .ok (.invokevirtual 85, 3) := by decide +kernel
theorem dX2_lay_107 : decode cX2_lay 107 = .ok (.aload_n 0, 1) := by decide +kernel
theorem dX2_lay_108 : decode cX2_lay 108 = .ok (.iload_n 1, 1) := by decide +kernel
theorem dX2_lay_109 : decode cX2_lay 109 = .ok (.iload_n 2, 1) := by decide +kernel
theorem dX2_lay_110 : decode cX2_lay 110 = .ok (.iload_n 3, 1) := by decide +kernel
theorem dX2_lay_111 : decode cX2_lay 111 = .ok (.iload 4, 2) := by decide +kernel
theorem dX2_lay_113 : decode cX2_lay 113 = .ok (.iload 5, 2) := by decide +kernel
theorem dX2_lay_115 : decode cX2_lay 115 = .ok (.iload 8, 2) := by decide +kernel
theorem dX2_lay_117 : decode cX2_lay 117 = .ok (.invokevirtual 89, 3) := by decide +kernel
theorem dX2_lay_120 : decode cX2_lay 120 = .ok (.goto 28, 3) := by decide +kernel
theorem dX2_lay_123 : decode cX2_lay 123 = .ok (.iload 5, 2) := by decide +kernel
theorem dX2_lay_125 : decode cX2_lay 125 = .ok (.aload_n 0, 1) := by decide +kernel
theorem dX2_lay_126 : decode cX2_lay 126 = .ok (.getfield 32, 3) := by decide +kernel
theorem dX2_lay_129 : decode cX2_lay 129 = .ok (.getfield 92, 3) := by decide +kernel
theorem dX2_lay_132 : decode cX2_lay 132 = .ok (.if_icmp .ge 16, 3) := by decide +kernel
theorem dX2_lay_135 : decode cX2_lay 135 = .ok (.aload_n 0, 1) := by decide +kernel
theorem dX2_lay_136 : decode cX2_lay 136 = .ok (.iload_n 1, 1) := by decide +kernel
theorem dX2_lay_137 : decode cX2_lay 137 = .ok (.iload_n 2, 1) := by decide +kernel
theorem dX2_lay_138 : decode cX2_lay 138 = .ok (.iload_n 3, 1) := by decide +kernel
theorem dX2_lay_139 : decode cX2_lay 139 = .ok (.iload 4, 2) := by decide +kernel
theorem dX2_lay_141 : decode cX2_lay 141 = .ok (.iload 5, 2) := by decide +kernel
theorem dX2_lay_143 : decode cX2_lay 143 = .ok (.iconst 1, 1) := by decide +kernel
theorem dX2_lay_144 : decode cX2_lay 144 = .ok (.iadd, 1) := by decide +kernel
theorem dX2_lay_145 : decode cX2_lay 145 = .ok (.invokevirtual 60, 3) := by decide +kernel
theorem dX2_lay_148 : decode cX2_lay 148 = .ok (.return_, 1) := by decide +kernel
set_option maxRecDepth 100000 in
theorem ggX2_layBoth_X4_partsWidth : GoodIn wsX2_layBoth wsX4_partsWidth := goodIn_r _ [7, 8, 110, 111, 112, 113, 114, 115, 116] rfl (by decide +kernel)
set_option maxRecDepth 100000 in
theorem gX2_layBoth_X4_partsWidth : GoodIn wsX2_layBoth (wsV RX2 98 RX4 yX4_partsWidth wsX4_partsWidth) := goodIn_app (goodIn_of _ (by decide +kernel)) ggX2_layBoth_X4_partsWidth
set_option maxRecDepth 100000 in
theorem ggX2_layBoth_X2_lay : GoodIn wsX2_layBoth wsX2_lay := goodIn_r _ [13, 14, 1, 15, 16, 17, 18, 19, 20, 21, 22, 23, 24, 25, 26, 27, 28, 29, 30, 31, 32, 33, 34, 35, 36, 37, 38, 39, 40, 41, 42, 43, 44, 45, 6, 46, 47, 48, 49, 50, 51, 52, 53, 54, 55, 56, 57, 58, 59, 60, 61, 62, 63, 64, 65, 66, 67, 68, 69, 12, 70, 71, 72, 73, 74, 75, 76, 77, 78, 79, 80, 81, 82, 83, 84, 4, 5, 7, 8, 85, 86, 87, 88, 89, 90, 91, 92, 93, 94, 95, 96, 97, 3, 98, 99, 100, 9, 10, 11, 0, 2, 101, 102, 103, 104, 105, 106, 107, 108, 109, 110, 111, 112, 113, 114, 115, 116, 117, 118, 119, 120, 121, 122, 123, 124, 125, 126] rfl (by decide +kernel)
set_option maxRecDepth 100000 in
theorem gX2_layBoth_X2_lay : GoodIn wsX2_layBoth (wsV RX2 60 RX2 yX2_lay wsX2_lay) := goodIn_app (goodIn_of _ (by decide +kernel)) ggX2_layBoth_X2_lay
theorem dX2_layBoth_0 : decode cX2_layBoth 0 = .ok (.iload 6, 2) := by decide +kernel
theorem dX2_layBoth_2 : decode cX2_layBoth 2 = .ok (.aload_n 0, 1) := by decide +kernel
theorem dX2_layBoth_3 : decode cX2_layBoth 3 = .ok (.getfield 32, 3) := by decide +kernel
theorem dX2_layBoth_6 : decode cX2_layBoth 6 = .ok (.getfield 95, 3) := by decide +kernel
theorem dX2_layBoth_9 : decode cX2_layBoth 9 = .ok (.iadd, 1) := by decide +kernel
theorem dX2_layBoth_10 : decode cX2_layBoth 10 = .ok (.istore 7, 2) := by decide +kernel
theorem dX2_layBoth_12 : decode cX2_layBoth 12 = .ok (.aload_n 0, 1) := by decide +kernel
theorem dX2_layBoth_13 : decode cX2_layBoth 13 = .ok (.getfield 32, 3) := by decide +kernel
theorem dX2_layBoth_16 : decode cX2_layBoth 16 = .ok (.iload 5, 2) := by decide +kernel
theorem dX2_layBoth_18 : decode cX2_layBoth 18 = .ok (.invokevirtual 98, 3) := by decide +kernel
theorem dX2_layBoth_21 : decode cX2_layBoth 21 = .ok (.ifCond .eq 35, 3) := by decide +kernel
theorem dX2_layBoth_24 : decode cX2_layBoth 24 = .ok (.aload_n 0, 1) := by decide +kernel
theorem dX2_layBoth_25 : decode cX2_layBoth 25 = .ok (.iload_n 1, 1) := by decide +kernel
theorem dX2_layBoth_26 : decode cX2_layBoth 26 = .ok (.iload_n 2, 1) := by decide +kernel
theorem dX2_layBoth_27 : decode cX2_layBoth 27 = .ok (.iload 6, 2) := by decide +kernel
theorem dX2_layBoth_29 : decode cX2_layBoth 29 = .ok (.iload 4, 2) := by decide +kernel
theorem dX2_layBoth_31 : decode cX2_layBoth 31 = .ok (.iload 5, 2) := by decide +kernel
theorem dX2_layBoth_33 : decode cX2_layBoth 33 = .ok (.invokevirtual 60, 3) := by decide +kernel
theorem dX2_layBoth_36 : decode cX2_layBoth 36 = .ok (.aload_n 0, 1) := by decide +kernel
theorem dX2_layBoth_37 : decode cX2_layBoth 37 = .ok (.iload_n 1, 1) := by decide +kernel
theorem dX2_layBoth_38 : decode cX2_layBoth 38 = .ok (.iload 7, 2) := by decide +kernel
theorem dX2_layBoth_40 : decode cX2_layBoth 40 = .ok (.iadd, 1) := by decide +kernel
theorem dX2_layBoth_41 : decode cX2_layBoth 41 = .ok (.iload_n 2, 1) := by decide +kernel
theorem dX2_layBoth_42 : decode cX2_layBoth 42 = .ok (.iload_n 3, 1) := by decide +kernel
theorem dX2_layBoth_43 : decode cX2_layBoth 43 = .ok (.iload 7, 2) := by decide +kernel
theorem dX2_layBoth_45 : decode cX2_layBoth 45 = .ok (.isub, 1) := by decide +kernel
theorem dX2_layBoth_46 : decode cX2_layBoth 46 = .ok (.iload 4, 2) := by decide +kernel
theorem dX2_layBoth_48 : decode cX2_layBoth 48 = .ok (.iload 5, 2) := by decide +kernel
theorem dX2_layBoth_50 : decode cX2_layBoth 50 = .ok (.invokevirtual 60, 3) := by decide +kernel
theorem dX2_layBoth_53 : decode cX2_layBoth 53 = .ok (.goto 31, 3) := by decide +kernel
theorem dX2_layBoth_56 : decode cX2_layBoth 56 = .ok (.aload_n 0, 1) := by decide +kernel
theorem dX2_layBoth_57 : decode cX2_layBoth 57 = .ok (.iload_n 1, 1) := by decide +kernel
theorem dX2_layBoth_58 : decode cX2_layBoth 58 = .ok (.iload_n 2, 1) := by decide +kernel
theorem dX2_layBoth_59 : decode cX2_layBoth 59 = .ok (.iload_n 3, 1) := by decide +kernel
theorem dX2_layBoth_60 : decode cX2_layBoth 60 = .ok (.iload 6, 2) := by decide +kernel
theorem dX2_layBoth_62 : decode cX2_layBoth 62 = .ok (.iload 5, 2) := by decide +kernel
theorem dX2_layBoth_64 : decode cX2_layBoth 64 = .ok (.invokevirtual 60, 3) := by decide +kernel
theorem dX2_layBoth_67 : decode cX2_layBoth 67 = .ok (.aload_n 0, 1) := by decide +kernel
theorem dX2_layBoth_68 : decode cX2_layBoth 68 = .ok (.iload_n 1, 1) := by decide +kernel
theorem dX2_layBoth_69 : decode cX2_layBoth 69 = .ok (.iload_n 2, 1) := by decide +kernel
theorem dX2_layBoth_70 : decode cX2_layBoth 70 = .ok (.iload 7, 2) := by decide +kernel
theorem dX2_layBoth_72 : decode cX2_layBoth 72 = .ok (.iadd, 1) := by decide +kernel
theorem dX2_layBoth_73 : decode cX2_layBoth 73 = .ok (.iload_n 3, 1) := by decide +kernel
theorem dX2_layBoth_74 : decode cX2_layBoth 74 = .ok (.iload 4, 2) := by decide +kernel
theorem dX2_layBoth_76 : decode cX2_layBoth 76 = .ok (.iload 7, 2) := by decide +kernel
theorem dX2_layBoth_78 : decode cX2_layBoth 78 = .ok (.isub, 1) := by decide +kernel
theorem dX2_layBoth_79 : decode cX2_layBoth 79 = .ok (.iload 5, 2) := by decide +kernel
theorem dX2_layBoth_81 : decode cX2_layBoth 81 = .ok (.invokevirtual 60, 3) := by decide +kernel
theorem dX2_layBoth_84 : decode cX2_layBoth 84 = .ok (.return_, 1) := by decide +kernel
set_option maxRecDepth 100000 in
theorem ggX2_firstCut_X4_lastCut : GoodIn wsX2_firstCut wsX4_lastCut := goodIn_r _ [7, 8, 9, 10, 11, 6, 12, 13, 55, 56, 57, 58, 59, 60, 61] rfl (by decide +kernel)
set_option maxRecDepth 100000 in
theorem gX2_firstCut_X4_lastCut : GoodIn wsX2_firstCut (wsV RX2 102 RX4 yX4_lastCut wsX4_lastCut) := goodIn_app (goodIn_of _ (by decide +kernel)) ggX2_firstCut_X4_lastCut
set_option maxRecDepth 100000 in
theorem ggX2_firstCut_X5_ofCut : GoodIn wsX2_firstCut wsX5_ofCut := goodIn_r _ [18, 19, 20, 21, 10, 11, 6, 12, 13, 22, 23, 24, 17, 25, 26, 27, 28, 29, 30, 31, 32, 33, 34, 35, 36, 37, 38, 39, 40, 41, 42, 43, 44, 45, 62, 63, 64, 65, 66, 55, 56, 57, 58, 59, 60, 61] rfl (by decide +kernel)
set_option maxRecDepth 100000 in
theorem gX2_firstCut_X5_ofCut : GoodIn wsX2_firstCut (wsV RX2 105 RX5 yX5_ofCut wsX5_ofCut) := goodIn_app (goodIn_of _ (by decide +kernel)) ggX2_firstCut_X5_ofCut
theorem dX2_firstCut_0 : decode cX2_firstCut 0 = .ok (.aload_n 0, 1) := by decide +kernel
theorem dX2_firstCut_1 : decode cX2_firstCut 1 = .ok (.getfield 32, 3) := by decide +kernel
theorem dX2_firstCut_4 : decode cX2_firstCut 4 = .ok (.iload_n 3, 1) := by decide +kernel
theorem dX2_firstCut_5 : decode cX2_firstCut 5 = .ok (.iload 4, 2) := by decide +kernel
theorem dX2_firstCut_7 : decode cX2_firstCut 7 = .ok (.iload 5, 2) := by decide +kernel
theorem dX2_firstCut_9 : decode cX2_firstCut 9 = .ok (.invokevirtual 102, 3) := by decide +kernel
theorem dX2_firstCut_12 : decode cX2_firstCut 12 = .ok (.istore 7, 2) := by decide +kernel
theorem dX2_firstCut_14 : decode cX2_firstCut 14 = .ok (.iconst 1, 1) := by decide +kernel
theorem dX2_firstCut_15 : decode cX2_firstCut 15 = .ok (.istore 8, 2) := by decide +kernel
theorem dX2_firstCut_17 : decode cX2_firstCut 17 = .ok (.iload 8, 2) := by decide +kernel
theorem dX2_firstCut_19 : decode cX2_firstCut 19 = .ok (.iload 7, 2) := by decide +kernel
theorem dX2_firstCut_21 : decode cX2_firstCut 21 = .ok (.if_icmp .gt 33, 3) := by decide +kernel
theorem dX2_firstCut_24 : decode cX2_firstCut 24 = .ok (.aload_n 0, 1) := by decide +kernel
theorem dX2_firstCut_25 : decode cX2_firstCut 25 = .ok (.getfield 40, 3) := by decide +kernel
theorem dX2_firstCut_28 : decode cX2_firstCut 28 = .ok (.iload_n 1, 1) := by decide +kernel
theorem dX2_firstCut_29 : decode cX2_firstCut 29 = .ok (.iload_n 2, 1) := by decide +kernel
theorem dX2_firstCut_30 : decode cX2_firstCut 30 = .ok (.iload_n 3, 1) := by decide +kernel
theorem dX2_firstCut_31 : decode cX2_firstCut 31 = .ok (.iload 4, 2) := by decide +kernel
theorem dX2_firstCut_33 : decode cX2_firstCut 33 = .ok (.iload 5, 2) := by decide +kernel
theorem dX2_firstCut_35 : decode cX2_firstCut 35 = .ok (.iload 8, 2) := by decide +kernel
theorem dX2_firstCut_37 : decode cX2_firstCut 37 = .ok (.invokevirtual 105, 3) := by decide +kernel
theorem dX2_firstCut_40 : decode cX2_firstCut 40 = .ok (.iload 6, 2) := by decide +kernel
theorem dX2_firstCut_42 : decode cX2_firstCut 42 = .ok (.if_icmp .ne 6, 3) := by decide +kernel
theorem dX2_firstCut_45 : decode cX2_firstCut 45 = .ok (.iload 8, 2) := by decide +kernel
theorem dX2_firstCut_47 : decode cX2_firstCut 47 = .ok (.ireturn, 1) := by decide +kernel
theorem dX2_firstCut_48 : decode cX2_firstCut 48 = .ok (.iinc 8 1, 3) := by decide +kernel
theorem dX2_firstCut_51 : decode cX2_firstCut 51 = .ok (.goto (-34), 3) := by decide +kernel
theorem dX2_firstCut_54 : decode cX2_firstCut 54 = .ok (.iconst (-1), 1) := by decide +kernel
theorem dX2_firstCut_55 : decode cX2_firstCut 55 = .ok (.ireturn, 1) := by decide +kernel
set_option maxRecDepth 100000 in
theorem ggX2_addPiece_X1_lies : GoodIn wsX2_addPiece wsX1_lies := goodIn_r _ [9, 10, 11, 21, 22, 23, 24, 25] rfl (by decide +kernel)
set_option maxRecDepth 100000 in
theorem gX2_addPiece_X1_lies : GoodIn wsX2_addPiece (wsV RX2 108 RX1 yX1_lies wsX1_lies) := goodIn_app (goodIn_of _ (by decide +kernel)) ggX2_addPiece_X1_lies
theorem dX2_addPiece_0 : decode cX2_addPiece 0 = .ok (.aload_n 0, 1) := by decide +kernel
theorem dX2_addPiece_1 : decode cX2_addPiece 1 = .ok (.getfield 18, 3) := by decide +kernel
theorem dX2_addPiece_4 : decode cX2_addPiece 4 = .ok (.sipush 256, 3) := by decide +kernel
theorem dX2_addPiece_7 : decode cX2_addPiece 7 = .ok (.if_icmp .lt 4, 3) := by decide +kernel
theorem dX2_addPiece_10 : decode cX2_addPiece 10 = .ok (.return_, 1) := by decide +kernel
theorem dX2_addPiece_11 : decode cX2_addPiece 11 = .ok (.aload_n 0, 1) := by decide +kernel
theorem dX2_addPiece_12 : decode cX2_addPiece 12 = .ok (.getfield 18, 3) := by decide +kernel
theorem dX2_addPiece_15 : decode cX2_addPiece 15 = .ok (.bipush 6, 2) := by decide +kernel
theorem dX2_addPiece_17 : decode cX2_addPiece 17 = .ok (.imul, 1) := by decide +kernel
theorem dX2_addPiece_18 : decode cX2_addPiece 18 = .ok (.istore 6, 2) := by decide +kernel
theorem dX2_addPiece_20 : decode cX2_addPiece 20 = .ok (.aload_n 0, 1) := by decide +kernel
theorem dX2_addPiece_21 : decode cX2_addPiece 21 = .ok (.getfield 11, 3) := by decide +kernel
theorem dX2_addPiece_24 : decode cX2_addPiece 24 = .ok (.iload 6, 2) := by decide +kernel
theorem dX2_addPiece_26 : decode cX2_addPiece 26 = .ok (.iload_n 1, 1) := by decide +kernel
theorem dX2_addPiece_27 : decode cX2_addPiece 27 = .ok (.iastore, 1) := by decide +kernel
theorem dX2_addPiece_28 : decode cX2_addPiece 28 = .ok (.aload_n 0, 1) := by decide +kernel
theorem dX2_addPiece_29 : decode cX2_addPiece 29 = .ok (.getfield 11, 3) := by decide +kernel
theorem dX2_addPiece_32 : decode cX2_addPiece 32 = .ok (.iload 6, 2) := by decide +kernel
theorem dX2_addPiece_34 : decode cX2_addPiece 34 = .ok (.iconst 1, 1) := by decide +kernel
theorem dX2_addPiece_35 : decode cX2_addPiece 35 = .ok (.iadd, 1) := by decide +kernel
theorem dX2_addPiece_36 : decode cX2_addPiece 36 = .ok (.iload_n 2, 1) := by decide +kernel
theorem dX2_addPiece_37 : decode cX2_addPiece 37 = .ok (.iastore, 1) := by decide +kernel
theorem dX2_addPiece_38 : decode cX2_addPiece 38 = .ok (.aload_n 0, 1) := by decide +kernel
theorem dX2_addPiece_39 : decode cX2_addPiece 39 = .ok (.getfield 11, 3) := by decide +kernel
theorem dX2_addPiece_42 : decode cX2_addPiece 42 = .ok (.iload 6, 2) := by decide +kernel
theorem dX2_addPiece_44 : decode cX2_addPiece 44 = .ok (.iconst 2, 1) := by decide +kernel
theorem dX2_addPiece_45 : decode cX2_addPiece 45 = .ok (.iadd, 1) := by decide +kernel
theorem dX2_addPiece_46 : decode cX2_addPiece 46 = .ok (.iload_n 3, 1) := by decide +kernel
theorem dX2_addPiece_47 : decode cX2_addPiece 47 = .ok (.iastore, 1) := by decide +kernel
theorem dX2_addPiece_48 : decode cX2_addPiece 48 = .ok (.aload_n 0, 1) := by decide +kernel
theorem dX2_addPiece_49 : decode cX2_addPiece 49 = .ok (.getfield 11, 3) := by decide +kernel
theorem dX2_addPiece_52 : decode cX2_addPiece 52 = .ok (.iload 6, 2) := by decide +kernel
theorem dX2_addPiece_54 : decode cX2_addPiece 54 = .ok (.iconst 3, 1) := by decide +kernel
theorem dX2_addPiece_55 : decode cX2_addPiece 55 = .ok (.iadd, 1) := by decide +kernel
theorem dX2_addPiece_56 : decode cX2_addPiece 56 = .ok (.iload 4, 2) := by decide +kernel
theorem dX2_addPiece_58 : decode cX2_addPiece 58 = .ok (.iastore, 1) := by decide +kernel
theorem dX2_addPiece_59 : decode cX2_addPiece 59 = .ok (.aload_n 0, 1) := by decide +kernel
theorem dX2_addPiece_60 : decode cX2_addPiece 60 = .ok (.getfield 11, 3) := by decide +kernel
theorem dX2_addPiece_63 : decode cX2_addPiece 63 = .ok (.iload 6, 2) := by decide +kernel
theorem dX2_addPiece_65 : decode cX2_addPiece 65 = .ok (.iconst 4, 1) := by decide +kernel
theorem dX2_addPiece_66 : decode cX2_addPiece 66 = .ok (.iadd, 1) := by decide +kernel
theorem dX2_addPiece_67 : decode cX2_addPiece 67 = .ok (.iload 5, 2) := by decide +kernel
theorem dX2_addPiece_69 : decode cX2_addPiece 69 = .ok (.iastore, 1) := by decide +kernel
theorem dX2_addPiece_70 : decode cX2_addPiece 70 = .ok (.aload_n 0, 1) := by decide +kernel
theorem dX2_addPiece_71 : decode cX2_addPiece 71 = .ok (.getfield 11, 3) := by decide +kernel
theorem dX2_addPiece_74 : decode cX2_addPiece 74 = .ok (.iload 6, 2) := by decide +kernel
theorem dX2_addPiece_76 : decode cX2_addPiece 76 = .ok (.iconst 5, 1) := by decide +kernel
theorem dX2_addPiece_77 : decode cX2_addPiece 77 = .ok (.iadd, 1) := by decide +kernel
theorem dX2_addPiece_78 : decode cX2_addPiece 78 = .ok (.aload_n 0, 1) := by decide +kernel
theorem dX2_addPiece_79 : decode cX2_addPiece 79 = .ok (.getfield 36, 3) := by decide +kernel
theorem dX2_addPiece_82 : decode cX2_addPiece 82 = .ok (.iload_n 1, 1) := by decide +kernel
theorem dX2_addPiece_83 : decode cX2_addPiece 83 = .ok (.iload 4, 2) := by decide +kernel
theorem dX2_addPiece_85 : decode cX2_addPiece 85 = .ok (.iload 5, 2) := by decide +kernel
theorem dX2_addPiece_87 : decode cX2_addPiece 87 = .ok (.invokevirtual 108, 3) := by decide +kernel
theorem dX2_addPiece_90 : decode cX2_addPiece 90 = .ok (.ifCond .eq 7, 3) := by decide +kernel
theorem dX2_addPiece_93 : decode cX2_addPiece 93 = .ok (.iconst 0, 1) := by decide +kernel
theorem dX2_addPiece_94 : decode cX2_addPiece 94 = .ok (.goto 4, 3) := by decide +kernel
theorem dX2_addPiece_97 : decode cX2_addPiece 97 = .ok (.iconst 1, 1) := by decide +kernel
theorem dX2_addPiece_98 : decode cX2_addPiece 98 = .ok (.iastore, 1) := by decide +kernel
theorem dX2_addPiece_99 : decode cX2_addPiece 99 = .ok (.aload_n 0, 1) := by decide +kernel
theorem dX2_addPiece_100 : decode cX2_addPiece 100 = .ok (.dup, 1) := by decide +kernel
theorem dX2_addPiece_101 : decode cX2_addPiece 101 = .ok (.getfield 18, 3) := by decide +kernel
theorem dX2_addPiece_104 : decode cX2_addPiece 104 = .ok (.iconst 1, 1) := by decide +kernel
theorem dX2_addPiece_105 : decode cX2_addPiece 105 = .ok (.iadd, 1) := by decide +kernel
theorem dX2_addPiece_106 : decode cX2_addPiece 106 = .ok (.putfield 18, 3) := by decide +kernel
theorem dX2_addPiece_109 : decode cX2_addPiece 109 = .ok (.aload_n 0, 1) := by decide +kernel
theorem dX2_addPiece_110 : decode cX2_addPiece 110 = .ok (.dup, 1) := by decide +kernel
theorem dX2_addPiece_111 : decode cX2_addPiece 111 = .ok (.getfield 25, 3) := by decide +kernel
theorem dX2_addPiece_114 : decode cX2_addPiece 114 = .ok (.iload 4, 2) := by decide +kernel
theorem dX2_addPiece_116 : decode cX2_addPiece 116 = .ok (.iload 5, 2) := by decide +kernel
theorem dX2_addPiece_118 : decode cX2_addPiece 118 = .ok (.imul, 1) := by decide +kernel
theorem dX2_addPiece_119 : decode cX2_addPiece 119 = .ok (.isub, 1) := by decide +kernel
theorem dX2_addPiece_120 : decode cX2_addPiece 120 = .ok (.putfield 25, 3) := by decide +kernel
theorem dX2_addPiece_123 : decode cX2_addPiece 123 = .ok (.return_, 1) := by decide +kernel
set_option maxRecDepth 100000 in
theorem ggX2_addCut_X4_partsWidth : GoodIn wsX2_addCut wsX4_partsWidth := goodIn_r _ [8, 9, 19, 20, 21, 22, 23, 24, 25] rfl (by decide +kernel)
set_option maxRecDepth 100000 in
theorem gX2_addCut_X4_partsWidth : GoodIn wsX2_addCut (wsV RX2 98 RX4 yX4_partsWidth wsX4_partsWidth) := goodIn_app (goodIn_of _ (by decide +kernel)) ggX2_addCut_X4_partsWidth
theorem dX2_addCut_0 : decode cX2_addCut 0 = .ok (.aload_n 0, 1) := by decide +kernel
theorem dX2_addCut_1 : decode cX2_addCut 1 = .ok (.getfield 22, 3) := by decide +kernel
theorem dX2_addCut_4 : decode cX2_addCut 4 = .ok (.sipush 255, 3) := by decide +kernel
theorem dX2_addCut_7 : decode cX2_addCut 7 = .ok (.if_icmp .lt 4, 3) := by decide +kernel
theorem dX2_addCut_10 : decode cX2_addCut 10 = .ok (.return_, 1) := by decide +kernel
theorem dX2_addCut_11 : decode cX2_addCut 11 = .ok (.aload_n 0, 1) := by decide +kernel
theorem dX2_addCut_12 : decode cX2_addCut 12 = .ok (.getfield 32, 3) := by decide +kernel
theorem dX2_addCut_15 : decode cX2_addCut 15 = .ok (.iload 5, 2) := by decide +kernel
theorem dX2_addCut_17 : decode cX2_addCut 17 = .ok (.invokevirtual 98, 3) := by decide +kernel
theorem dX2_addCut_20 : decode cX2_addCut 20 = .ok (.istore 7, 2) := by decide +kernel
theorem dX2_addCut_22 : decode cX2_addCut 22 = .ok (.aload_n 0, 1) := by decide +kernel
theorem dX2_addCut_23 : decode cX2_addCut 23 = .ok (.getfield 22, 3) := by decide +kernel
theorem dX2_addCut_26 : decode cX2_addCut 26 = .ok (.bipush 7, 2) := by decide +kernel
theorem dX2_addCut_28 : decode cX2_addCut 28 = .ok (.imul, 1) := by decide +kernel
theorem dX2_addCut_29 : decode cX2_addCut 29 = .ok (.istore 8, 2) := by decide +kernel
theorem dX2_addCut_31 : decode cX2_addCut 31 = .ok (.aload_n 0, 1) := by decide +kernel
theorem dX2_addCut_32 : decode cX2_addCut 32 = .ok (.getfield 15, 3) := by decide +kernel
theorem dX2_addCut_35 : decode cX2_addCut 35 = .ok (.iload 8, 2) := by decide +kernel
theorem dX2_addCut_37 : decode cX2_addCut 37 = .ok (.iload 5, 2) := by decide +kernel
theorem dX2_addCut_39 : decode cX2_addCut 39 = .ok (.iastore, 1) := by decide +kernel
theorem dX2_addCut_40 : decode cX2_addCut 40 = .ok (.aload_n 0, 1) := by decide +kernel
theorem dX2_addCut_41 : decode cX2_addCut 41 = .ok (.getfield 15, 3) := by decide +kernel
theorem dX2_addCut_44 : decode cX2_addCut 44 = .ok (.iload 8, 2) := by decide +kernel
theorem dX2_addCut_46 : decode cX2_addCut 46 = .ok (.iconst 1, 1) := by decide +kernel
theorem dX2_addCut_47 : decode cX2_addCut 47 = .ok (.iadd, 1) := by decide +kernel
theorem dX2_addCut_48 : decode cX2_addCut 48 = .ok (.iload 7, 2) := by decide +kernel
theorem dX2_addCut_50 : decode cX2_addCut 50 = .ok (.ifCond .eq 7, 3) := by decide +kernel
theorem dX2_addCut_53 : decode cX2_addCut 53 = .ok (.iconst 0, 1) := by decide +kernel
theorem dX2_addCut_54 : decode cX2_addCut 54 = .ok (.goto 4, 3) := by decide +kernel
theorem dX2_addCut_57 : decode cX2_addCut 57 = .ok (.iconst 1, 1) := by decide +kernel
theorem dX2_addCut_58 : decode cX2_addCut 58 = .ok (.iastore, 1) := by decide +kernel
theorem dX2_addCut_59 : decode cX2_addCut 59 = .ok (.aload_n 0, 1) := by decide +kernel
theorem dX2_addCut_60 : decode cX2_addCut 60 = .ok (.getfield 15, 3) := by decide +kernel
theorem dX2_addCut_63 : decode cX2_addCut 63 = .ok (.iload 8, 2) := by decide +kernel
theorem dX2_addCut_65 : decode cX2_addCut 65 = .ok (.iconst 2, 1) := by decide +kernel
theorem dX2_addCut_66 : decode cX2_addCut 66 = .ok (.iadd, 1) := by decide +kernel
theorem dX2_addCut_67 : decode cX2_addCut 67 = .ok (.iload 7, 2) := by decide +kernel
theorem dX2_addCut_69 : decode cX2_addCut 69 = .ok (.ifCond .eq 7, 3) := by decide +kernel
theorem dX2_addCut_72 : decode cX2_addCut 72 = .ok (.iload_n 1, 1) := by decide +kernel
theorem dX2_addCut_73 : decode cX2_addCut 73 = .ok (.goto 4, 3) := by decide +kernel
theorem dX2_addCut_76 : decode cX2_addCut 76 = .ok (.iload_n 2, 1) := by decide +kernel
theorem dX2_addCut_77 : decode cX2_addCut 77 = .ok (.iload 6, 2) := by decide +kernel
theorem dX2_addCut_79 : decode cX2_addCut 79 = .ok (.iadd, 1) := by decide +kernel
theorem dX2_addCut_80 : decode cX2_addCut 80 = .ok (.iastore, 1) := by decide +kernel
theorem dX2_addCut_81 : decode cX2_addCut 81 = .ok (.aload_n 0, 1) := by decide +kernel
theorem dX2_addCut_82 : decode cX2_addCut 82 = .ok (.getfield 15, 3) := by decide +kernel
theorem dX2_addCut_85 : decode cX2_addCut 85 = .ok (.iload 8, 2) := by decide +kernel
theorem dX2_addCut_87 : decode cX2_addCut 87 = .ok (.iconst 3, 1) := by decide +kernel
theorem dX2_addCut_88 : decode cX2_addCut 88 = .ok (.iadd, 1) := by decide +kernel
theorem dX2_addCut_89 : decode cX2_addCut 89 = .ok (.iload_n 1, 1) := by decide +kernel
theorem dX2_addCut_90 : decode cX2_addCut 90 = .ok (.iastore, 1) := by decide +kernel
theorem dX2_addCut_91 : decode cX2_addCut 91 = .ok (.aload_n 0, 1) := by decide +kernel
theorem dX2_addCut_92 : decode cX2_addCut 92 = .ok (.getfield 15, 3) := by decide +kernel
theorem dX2_addCut_95 : decode cX2_addCut 95 = .ok (.iload 8, 2) := by decide +kernel
theorem dX2_addCut_97 : decode cX2_addCut 97 = .ok (.iconst 4, 1) := by decide +kernel
theorem dX2_addCut_98 : decode cX2_addCut 98 = .ok (.iadd, 1) := by decide +kernel
theorem dX2_addCut_99 : decode cX2_addCut 99 = .ok (.iload_n 2, 1) := by decide +kernel
theorem dX2_addCut_100 : decode cX2_addCut 100 = .ok (.iastore, 1) := by decide +kernel
theorem dX2_addCut_101 : decode cX2_addCut 101 = .ok (.aload_n 0, 1) := by decide +kernel
theorem dX2_addCut_102 : decode cX2_addCut 102 = .ok (.getfield 15, 3) := by decide +kernel
theorem dX2_addCut_105 : decode cX2_addCut 105 = .ok (.iload 8, 2) := by decide +kernel
theorem dX2_addCut_107 : decode cX2_addCut 107 = .ok (.iconst 5, 1) := by decide +kernel
theorem dX2_addCut_108 : decode cX2_addCut 108 = .ok (.iadd, 1) := by decide +kernel
theorem dX2_addCut_109 : decode cX2_addCut 109 = .ok (.iload_n 3, 1) := by decide +kernel
theorem dX2_addCut_110 : decode cX2_addCut 110 = .ok (.iastore, 1) := by decide +kernel
theorem dX2_addCut_111 : decode cX2_addCut 111 = .ok (.aload_n 0, 1) := by decide +kernel
theorem dX2_addCut_112 : decode cX2_addCut 112 = .ok (.getfield 15, 3) := by decide +kernel
theorem dX2_addCut_115 : decode cX2_addCut 115 = .ok (.iload 8, 2) := by decide +kernel
theorem dX2_addCut_117 : decode cX2_addCut 117 = .ok (.bipush 6, 2) := by decide +kernel
theorem dX2_addCut_119 : decode cX2_addCut 119 = .ok (.iadd, 1) := by decide +kernel
theorem dX2_addCut_120 : decode cX2_addCut 120 = .ok (.iload 4, 2) := by decide +kernel
theorem dX2_addCut_122 : decode cX2_addCut 122 = .ok (.iastore, 1) := by decide +kernel
theorem dX2_addCut_123 : decode cX2_addCut 123 = .ok (.aload_n 0, 1) := by decide +kernel
theorem dX2_addCut_124 : decode cX2_addCut 124 = .ok (.dup, 1) := by decide +kernel
theorem dX2_addCut_125 : decode cX2_addCut 125 = .ok (.getfield 22, 3) := by decide +kernel
theorem dX2_addCut_128 : decode cX2_addCut 128 = .ok (.iconst 1, 1) := by decide +kernel
theorem dX2_addCut_129 : decode cX2_addCut 129 = .ok (.iadd, 1) := by decide +kernel
theorem dX2_addCut_130 : decode cX2_addCut 130 = .ok (.putfield 22, 3) := by decide +kernel
theorem dX2_addCut_133 : decode cX2_addCut 133 = .ok (.return_, 1) := by decide +kernel
theorem dX3_init_0 : decode cX3_init 0 = .ok (.aload_n 0, 1) := by decide +kernel
theorem dX3_init_1 : decode cX3_init 1 = .ok (.invokespecial 3, 3) := by decide +kernel
theorem dX3_init_4 : decode cX3_init 4 = .ok (.aload_n 0, 1) := by decide +kernel
theorem dX3_init_5 : decode cX3_init 5 = .ok (.iconst 0, 1) := by decide +kernel
theorem dX3_init_6 : decode cX3_init 6 = .ok (.putfield 9, 3) := by decide +kernel
theorem dX3_init_9 : decode cX3_init 9 = .ok (.aload_n 0, 1) := by decide +kernel
theorem dX3_init_10 : decode cX3_init 10 = .ok (.iconst 0, 1) := by decide +kernel
theorem dX3_init_11 : decode cX3_init 11 = .ok (.putfield 15, 3) := by decide +kernel
theorem dX3_init_14 : decode cX3_init 14 = .ok (.aload_n 0, 1) := by decide +kernel
theorem dX3_init_15 : decode cX3_init 15 = .ok (.iconst 0, 1) := by decide +kernel
theorem dX3_init_16 : decode cX3_init 16 = .ok (.putfield 18, 3) := by decide +kernel
theorem dX3_init_19 : decode cX3_init 19 = .ok (.aload_n 0, 1) := by decide +kernel
theorem dX3_init_20 : decode cX3_init 20 = .ok (.iconst 3, 1) := by decide +kernel
theorem dX3_init_21 : decode cX3_init 21 = .ok (.newarray .int, 2) := by decide +kernel
theorem dX3_init_23 : decode cX3_init 23 = .ok (.putfield 21, 3) := by decide +kernel
theorem dX3_init_26 : decode cX3_init 26 = .ok (.aload_n 0, 1) := by decide +kernel
theorem dX3_init_27 : decode cX3_init 27 = .ok (.iconst 3, 1) := by decide +kernel
theorem dX3_init_28 : decode cX3_init 28 = .ok (.newarray .int, 2) := by decide +kernel
theorem dX3_init_30 : decode cX3_init 30 = .ok (.putfield 25, 3) := by decide +kernel
theorem dX3_init_33 : decode cX3_init 33 = .ok (.aload_n 0, 1) := by decide +kernel
theorem dX3_init_34 : decode cX3_init 34 = .ok (.iconst 4, 1) := by decide +kernel
theorem dX3_init_35 : decode cX3_init 35 = .ok (.newarray .int, 2) := by decide +kernel
theorem dX3_init_37 : decode cX3_init 37 = .ok (.putfield 28, 3) := by decide +kernel
theorem dX3_init_40 : decode cX3_init 40 = .ok (.aload_n 0, 1) := by decide +kernel
theorem dX3_init_41 : decode cX3_init 41 = .ok (.iconst 4, 1) := by decide +kernel
theorem dX3_init_42 : decode cX3_init 42 = .ok (.newarray .int, 2) := by decide +kernel
theorem dX3_init_44 : decode cX3_init 44 = .ok (.putfield 31, 3) := by decide +kernel
theorem dX3_init_47 : decode cX3_init 47 = .ok (.return_, 1) := by decide +kernel
theorem dX3_addStock_0 : decode cX3_addStock 0 = .ok (.aload_n 0, 1) := by decide +kernel
theorem dX3_addStock_1 : decode cX3_addStock 1 = .ok (.getfield 9, 3) := by decide +kernel
theorem dX3_addStock_4 : decode cX3_addStock 4 = .ok (.iconst 3, 1) := by decide +kernel
theorem dX3_addStock_5 : decode cX3_addStock 5 = .ok (.if_icmp .lt 6, 3) := by decide +kernel
theorem dX3_addStock_8 : decode cX3_addStock 8 = .ok (.bipush (-4), 2) := by decide +kernel
theorem dX3_addStock_10 : decode cX3_addStock 10 = .ok (.ireturn, 1) := by decide +kernel
theorem dX3_addStock_11 : decode cX3_addStock 11 = .ok (.aload_n 0, 1) := by decide +kernel
theorem dX3_addStock_12 : decode cX3_addStock 12 = .ok (.getfield 21, 3) := by decide +kernel
theorem dX3_addStock_15 : decode cX3_addStock 15 = .ok (.aload_n 0, 1) := by decide +kernel
theorem dX3_addStock_16 : decode cX3_addStock 16 = .ok (.getfield 9, 3) := by decide +kernel
theorem dX3_addStock_19 : decode cX3_addStock 19 = .ok (.iload_n 1, 1) := by decide +kernel
theorem dX3_addStock_20 : decode cX3_addStock 20 = .ok (.iastore, 1) := by decide +kernel
theorem dX3_addStock_21 : decode cX3_addStock 21 = .ok (.aload_n 0, 1) := by decide +kernel
theorem dX3_addStock_22 : decode cX3_addStock 22 = .ok (.getfield 25, 3) := by decide +kernel
theorem dX3_addStock_25 : decode cX3_addStock 25 = .ok (.aload_n 0, 1) := by decide +kernel
theorem dX3_addStock_26 : decode cX3_addStock 26 = .ok (.getfield 9, 3) := by decide +kernel
theorem dX3_addStock_29 : decode cX3_addStock 29 = .ok (.iload_n 2, 1) := by decide +kernel
theorem dX3_addStock_30 : decode cX3_addStock 30 = .ok (.iastore, 1) := by decide +kernel
theorem dX3_addStock_31 : decode cX3_addStock 31 = .ok (.aload_n 0, 1) := by decide +kernel
theorem dX3_addStock_32 : decode cX3_addStock 32 = .ok (.dup, 1) := by decide +kernel
theorem dX3_addStock_33 : decode cX3_addStock 33 = .ok (.getfield 9, 3) := by decide +kernel
theorem dX3_addStock_36 : decode cX3_addStock 36 = .ok (.iconst 1, 1) := by decide +kernel
theorem dX3_addStock_37 : decode cX3_addStock 37 = .ok (.iadd, 1) := by decide +kernel
theorem dX3_addStock_38 : decode cX3_addStock 38 = .ok (.putfield 9, 3) := by decide +kernel
theorem dX3_addStock_41 : decode cX3_addStock 41 = .ok (.aload_n 0, 1) := by decide +kernel
theorem dX3_addStock_42 : decode cX3_addStock 42 = .ok (.getfield 9, 3) := by decide +kernel
theorem dX3_addStock_45 : decode cX3_addStock 45 = .ok (.iconst 1, 1) := by decide +kernel
theorem dX3_addStock_46 : decode cX3_addStock 46 = .ok (.isub, 1) := by decide +kernel
theorem dX3_addStock_47 : decode cX3_addStock 47 = .ok (.ireturn, 1) := by decide +kernel
theorem dX3_addOrder_0 : decode cX3_addOrder 0 = .ok (.aload_n 0, 1) := by decide +kernel
theorem dX3_addOrder_1 : decode cX3_addOrder 1 = .ok (.getfield 15, 3) := by decide +kernel
theorem dX3_addOrder_4 : decode cX3_addOrder 4 = .ok (.iconst 4, 1) := by decide +kernel
theorem dX3_addOrder_5 : decode cX3_addOrder 5 = .ok (.if_icmp .lt 6, 3) := by decide +kernel
theorem dX3_addOrder_8 : decode cX3_addOrder 8 = .ok (.bipush (-4), 2) := by decide +kernel
theorem dX3_addOrder_10 : decode cX3_addOrder 10 = .ok (.ireturn, 1) := by decide +kernel
theorem dX3_addOrder_11 : decode cX3_addOrder 11 = .ok (.aload_n 0, 1) := by decide +kernel
theorem dX3_addOrder_12 : decode cX3_addOrder 12 = .ok (.getfield 28, 3) := by decide +kernel
theorem dX3_addOrder_15 : decode cX3_addOrder 15 = .ok (.aload_n 0, 1) := by decide +kernel
theorem dX3_addOrder_16 : decode cX3_addOrder 16 = .ok (.getfield 15, 3) := by decide +kernel
theorem dX3_addOrder_19 : decode cX3_addOrder 19 = .ok (.iload_n 1, 1) := by decide +kernel
theorem dX3_addOrder_20 : decode cX3_addOrder 20 = .ok (.iastore, 1) := by decide +kernel
theorem dX3_addOrder_21 : decode cX3_addOrder 21 = .ok (.aload_n 0, 1) := by decide +kernel
theorem dX3_addOrder_22 : decode cX3_addOrder 22 = .ok (.getfield 31, 3) := by decide +kernel
theorem dX3_addOrder_25 : decode cX3_addOrder 25 = .ok (.aload_n 0, 1) := by decide +kernel
theorem dX3_addOrder_26 : decode cX3_addOrder 26 = .ok (.getfield 15, 3) := by decide +kernel
theorem dX3_addOrder_29 : decode cX3_addOrder 29 = .ok (.iload_n 2, 1) := by decide +kernel
theorem dX3_addOrder_30 : decode cX3_addOrder 30 = .ok (.iastore, 1) := by decide +kernel
theorem dX3_addOrder_31 : decode cX3_addOrder 31 = .ok (.aload_n 0, 1) := by decide +kernel
theorem dX3_addOrder_32 : decode cX3_addOrder 32 = .ok (.dup, 1) := by decide +kernel
theorem dX3_addOrder_33 : decode cX3_addOrder 33 = .ok (.getfield 15, 3) := by decide +kernel
theorem dX3_addOrder_36 : decode cX3_addOrder 36 = .ok (.iconst 1, 1) := by decide +kernel
theorem dX3_addOrder_37 : decode cX3_addOrder 37 = .ok (.iadd, 1) := by decide +kernel
theorem dX3_addOrder_38 : decode cX3_addOrder 38 = .ok (.putfield 15, 3) := by decide +kernel
theorem dX3_addOrder_41 : decode cX3_addOrder 41 = .ok (.aload_n 0, 1) := by decide +kernel
theorem dX3_addOrder_42 : decode cX3_addOrder 42 = .ok (.getfield 15, 3) := by decide +kernel
theorem dX3_addOrder_45 : decode cX3_addOrder 45 = .ok (.iconst 1, 1) := by decide +kernel
theorem dX3_addOrder_46 : decode cX3_addOrder 46 = .ok (.isub, 1) := by decide +kernel
theorem dX3_addOrder_47 : decode cX3_addOrder 47 = .ok (.ireturn, 1) := by decide +kernel
theorem dX3_wantedOf_0 : decode cX3_wantedOf 0 = .ok (.iload_n 1, 1) := by decide +kernel
theorem dX3_wantedOf_1 : decode cX3_wantedOf 1 = .ok (.aload_n 0, 1) := by decide +kernel
theorem dX3_wantedOf_2 : decode cX3_wantedOf 2 = .ok (.getfield 15, 3) := by decide +kernel
theorem dX3_wantedOf_5 : decode cX3_wantedOf 5 = .ok (.if_icmp .ge 17, 3) := by decide +kernel
theorem dX3_wantedOf_8 : decode cX3_wantedOf 8 = .ok (.iload_n 1, 1) := by decide +kernel
theorem dX3_wantedOf_9 : decode cX3_wantedOf 9 = .ok (.iconst 4, 1) := by decide +kernel
theorem dX3_wantedOf_10 : decode cX3_wantedOf 10 = .ok (.if_icmp .ge 12, 3) := by decide +kernel
theorem dX3_wantedOf_13 : decode cX3_wantedOf 13 = .ok (.aload_n 0, 1) := by decide +kernel
theorem dX3_wantedOf_14 : decode cX3_wantedOf 14 = .ok (.getfield 31, 3) := by decide +kernel
theorem dX3_wantedOf_17 : decode cX3_wantedOf 17 = .ok (.iload_n 1, 1) := by decide +kernel
theorem dX3_wantedOf_18 : decode cX3_wantedOf 18 = .ok (.iaload, 1) := by decide +kernel
theorem dX3_wantedOf_19 : decode cX3_wantedOf 19 = .ok (.goto 4, 3) := by decide +kernel
theorem dX3_wantedOf_22 : decode cX3_wantedOf 22 = .ok (.iconst 0, 1) := by decide +kernel
theorem dX3_wantedOf_23 : decode cX3_wantedOf 23 = .ok (.ireturn, 1) := by decide +kernel
theorem dX3_stockFor_0 : decode cX3_stockFor 0 = .ok (.iconst (-1), 1) := by decide +kernel
theorem dX3_stockFor_1 : decode cX3_stockFor 1 = .ok (.istore_n 2, 1) := by decide +kernel
theorem dX3_stockFor_2 : decode cX3_stockFor 2 = .ok (.iconst 0, 1) := by decide +kernel
theorem dX3_stockFor_3 : decode cX3_stockFor 3 = .ok (.istore_n 3, 1) := by decide +kernel
theorem dX3_stockFor_4 : decode cX3_stockFor 4 = .ok (.iload_n 3, 1) := by decide +kernel
theorem dX3_stockFor_5 : decode cX3_stockFor 5 = .ok (.aload_n 0, 1) := by decide +kernel
theorem dX3_stockFor_6 : decode cX3_stockFor 6 = .ok (.getfield 9, 3) := by decide +kernel
theorem dX3_stockFor_9 : decode cX3_stockFor 9 = .ok (.if_icmp .ge 46, 3) := by decide +kernel
theorem dX3_stockFor_12 : decode cX3_stockFor 12 = .ok (.iload_n 3, 1) := by decide +kernel
theorem dX3_stockFor_13 : decode cX3_stockFor 13 = .ok (.iconst 3, 1) := by decide +kernel
theorem dX3_stockFor_14 : decode cX3_stockFor 14 = .ok (.if_icmp .ge 41, 3) := by decide +kernel
theorem dX3_stockFor_17 : decode cX3_stockFor 17 = .ok (.aload_n 0, 1) := by decide +kernel
theorem dX3_stockFor_18 : decode cX3_stockFor 18 = .ok (.getfield 21, 3) := by decide +kernel
theorem dX3_stockFor_21 : decode cX3_stockFor 21 = .ok (.iload_n 3, 1) := by decide +kernel
theorem dX3_stockFor_22 : decode cX3_stockFor 22 = .ok (.iaload, 1) := by decide +kernel
theorem dX3_stockFor_23 : decode cX3_stockFor 23 = .ok (.iload_n 1, 1) := by decide +kernel
theorem dX3_stockFor_24 : decode cX3_stockFor 24 = .ok (.if_icmp .lt 25, 3) := by decide +kernel
theorem dX3_stockFor_27 : decode cX3_stockFor 27 = .ok (.iload_n 2, 1) := by decide +kernel
theorem dX3_stockFor_28 : decode cX3_stockFor 28 = .ok (.iconst (-1), 1) := by decide +kernel
theorem dX3_stockFor_29 : decode cX3_stockFor 29 = .ok (.if_icmp .eq 18, 3) := by decide +kernel
theorem dX3_stockFor_32 : decode cX3_stockFor 32 = .ok (.aload_n 0, 1) := by decide +kernel
theorem dX3_stockFor_33 : decode cX3_stockFor 33 = .ok (.getfield 25, 3) := by decide +kernel
theorem dX3_stockFor_36 : decode cX3_stockFor 36 = .ok (.iload_n 3, 1) := by decide +kernel
theorem dX3_stockFor_37 : decode cX3_stockFor 37 = .ok (.iaload, 1) := by decide +kernel
theorem dX3_stockFor_38 : decode cX3_stockFor 38 = .ok (.aload_n 0, 1) := by decide +kernel
theorem dX3_stockFor_39 : decode cX3_stockFor 39 = .ok (.getfield 25, 3) := by decide +kernel
theorem dX3_stockFor_42 : decode cX3_stockFor 42 = .ok (.iload_n 2, 1) := by decide +kernel
theorem dX3_stockFor_43 : decode cX3_stockFor 43 = .ok (.iaload, 1) := by decide +kernel
theorem dX3_stockFor_44 : decode cX3_stockFor 44 = .ok (.if_icmp .ge 5, 3) := by decide +kernel
theorem dX3_stockFor_47 : decode cX3_stockFor 47 = .ok (.iload_n 3, 1) := by decide +kernel
