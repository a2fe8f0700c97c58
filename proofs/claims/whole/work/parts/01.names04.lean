theorem dX5_mostOfSize_91 : decode cX5_mostOfSize 91 = .ok (.goto 22, 3) := by decide +kernel
theorem dX5_mostOfSize_94 : decode cX5_mostOfSize 94 = .ok (.aload_n 0, 1) := by decide +kernel
theorem dX5_mostOfSize_95 : decode cX5_mostOfSize 95 = .ok (.iload_n 1, 1) := by decide +kernel
theorem dX5_mostOfSize_96 : decode cX5_mostOfSize 96 = .ok (.iload 7, 2) := by decide +kernel
theorem dX5_mostOfSize_98 : decode cX5_mostOfSize 98 = .ok (.iload_n 3, 1) := by decide +kernel
theorem dX5_mostOfSize_99 : decode cX5_mostOfSize 99 = .ok (.invokevirtual 43, 3) := by decide +kernel
theorem dX5_mostOfSize_102 : decode cX5_mostOfSize 102 = .ok (.aload_n 0, 1) := by decide +kernel
theorem dX5_mostOfSize_103 : decode cX5_mostOfSize 103 = .ok (.iload_n 1, 1) := by decide +kernel
theorem dX5_mostOfSize_104 : decode cX5_mostOfSize 104 = .ok (.iload_n 2, 1) := by decide +kernel
theorem dX5_mostOfSize_105 : decode cX5_mostOfSize 105 = .ok (.iload 8, 2) := by decide +kernel
theorem dX5_mostOfSize_107 : decode cX5_mostOfSize 107 = .ok (.isub, 1) := by decide +kernel
theorem dX5_mostOfSize_108 : decode cX5_mostOfSize 108 = .ok (.iload_n 3, 1) := by decide +kernel
theorem dX5_mostOfSize_109 : decode cX5_mostOfSize 109 = .ok (.invokevirtual 43, 3) := by decide +kernel
theorem dX5_mostOfSize_112 : decode cX5_mostOfSize 112 = .ok (.iadd, 1) := by decide +kernel
theorem dX5_mostOfSize_113 : decode cX5_mostOfSize 113 = .ok (.istore 9, 2) := by decide +kernel
theorem dX5_mostOfSize_115 : decode cX5_mostOfSize 115 = .ok (.iload 4, 2) := by decide +kernel
theorem dX5_mostOfSize_117 : decode cX5_mostOfSize 117 = .ok (.iload 9, 2) := by decide +kernel
theorem dX5_mostOfSize_119 : decode cX5_mostOfSize 119 = .ok (.invokestatic 78, 3) := by decide +kernel
theorem dX5_mostOfSize_122 : decode cX5_mostOfSize 122 = .ok (.istore 4, 2) := by decide +kernel
theorem dX5_mostOfSize_124 : decode cX5_mostOfSize 124 = .ok (.iinc 7 1, 3) := by decide +kernel
theorem dX5_mostOfSize_127 : decode cX5_mostOfSize 127 = .ok (.goto (-79), 3) := by decide +kernel
theorem dX5_mostOfSize_130 : decode cX5_mostOfSize 130 = .ok (.iload 4, 2) := by decide +kernel
theorem dX5_mostOfSize_132 : decode cX5_mostOfSize 132 = .ok (.ireturn, 1) := by decide +kernel
set_option maxRecDepth 100000 in
theorem ggX5_ofSize_X5_sizeSlot : GoodIn wsX5_ofSize wsX5_sizeSlot := goodIn_r _ [7] rfl (by decide +kernel)
set_option maxRecDepth 100000 in
theorem gX5_ofSize_X5_sizeSlot : GoodIn wsX5_ofSize (va_wsS RX5 67 yX5_sizeSlot wsX5_sizeSlot) := goodIn_app (goodIn_of _ (by decide +kernel)) ggX5_ofSize_X5_sizeSlot
set_option maxRecDepth 100000 in
theorem ggX5_ofSize_X6_within : GoodIn wsX5_ofSize wsX6_within := goodIn_r _ [10] rfl (by decide +kernel)
set_option maxRecDepth 100000 in
theorem gX5_ofSize_X6_within_n54 : GoodIn wsX5_ofSize (wsX6_within) := ggX5_ofSize_X6_within
theorem dX5_ofSize_0 : decode cX5_ofSize 0 = .ok (.iload_n 1, 1) := by decide +kernel
theorem dX5_ofSize_1 : decode cX5_ofSize 1 = .ok (.iload_n 2, 1) := by decide +kernel
theorem dX5_ofSize_2 : decode cX5_ofSize 2 = .ok (.iload_n 3, 1) := by decide +kernel
theorem dX5_ofSize_3 : decode cX5_ofSize 3 = .ok (.invokestatic 67, 3) := by decide +kernel
theorem dX5_ofSize_6 : decode cX5_ofSize 6 = .ok (.istore 4, 2) := by decide +kernel
theorem dX5_ofSize_8 : decode cX5_ofSize 8 = .ok (.iload_n 3, 1) := by decide +kernel
theorem dX5_ofSize_9 : decode cX5_ofSize 9 = .ok (.aload_n 0, 1) := by decide +kernel
theorem dX5_ofSize_10 : decode cX5_ofSize 10 = .ok (.getfield 23, 3) := by decide +kernel
theorem dX5_ofSize_13 : decode cX5_ofSize 13 = .ok (.getfield 58, 3) := by decide +kernel
theorem dX5_ofSize_16 : decode cX5_ofSize 16 = .ok (.if_icmp .gt 29, 3) := by decide +kernel
theorem dX5_ofSize_19 : decode cX5_ofSize 19 = .ok (.iload 4, 2) := by decide +kernel
theorem dX5_ofSize_21 : decode cX5_ofSize 21 = .ok (.iconst 0, 1) := by decide +kernel
theorem dX5_ofSize_22 : decode cX5_ofSize 22 = .ok (.aload_n 0, 1) := by decide +kernel
theorem dX5_ofSize_23 : decode cX5_ofSize 23 = .ok (.getfield 9, 3) := by decide +kernel
theorem dX5_ofSize_26 : decode cX5_ofSize 26 = .ok (.arraylength, 1) := by decide +kernel
theorem dX5_ofSize_27 : decode cX5_ofSize 27 = .ok (.iconst 1, 1) := by decide +kernel
theorem dX5_ofSize_28 : decode cX5_ofSize 28 = .ok (.isub, 1) := by decide +kernel
theorem dX5_ofSize_29 : decode cX5_ofSize 29 = .ok (.invokestatic 54, 3) := by decide +kernel
theorem dX5_ofSize_32 : decode cX5_ofSize 32 = .ok (.ifCond .eq 13, 3) := by decide +kernel
theorem dX5_ofSize_35 : decode cX5_ofSize 35 = .ok (.aload_n 0, 1) := by decide +kernel
theorem dX5_ofSize_36 : decode cX5_ofSize 36 = .ok (.getfield 9, 3) := by decide +kernel
theorem dX5_ofSize_39 : decode cX5_ofSize 39 = .ok (.iload 4, 2) := by decide +kernel
theorem dX5_ofSize_41 : decode cX5_ofSize 41 = .ok (.iaload, 1) := by decide +kernel
theorem dX5_ofSize_42 : decode cX5_ofSize 42 = .ok (.goto 4, 3) := by decide +kernel
theorem dX5_ofSize_45 : decode cX5_ofSize 45 = .ok (.iconst 0, 1) := by decide +kernel
theorem dX5_ofSize_46 : decode cX5_ofSize 46 = .ok (.ireturn, 1) := by decide +kernel
theorem dX5_sizeSlot_0 : decode cX5_sizeSlot 0 = .ok (.iload_n 2, 1) := by decide +kernel
theorem dX5_sizeSlot_1 : decode cX5_sizeSlot 1 = .ok (.iconst 1, 1) := by decide +kernel
theorem dX5_sizeSlot_2 : decode cX5_sizeSlot 2 = .ok (.isub, 1) := by decide +kernel
theorem dX5_sizeSlot_3 : decode cX5_sizeSlot 3 = .ok (.bipush 16, 2) := by decide +kernel
theorem dX5_sizeSlot_5 : decode cX5_sizeSlot 5 = .ok (.imul, 1) := by decide +kernel
theorem dX5_sizeSlot_6 : decode cX5_sizeSlot 6 = .ok (.iload_n 0, 1) := by decide +kernel
theorem dX5_sizeSlot_7 : decode cX5_sizeSlot 7 = .ok (.iadd, 1) := by decide +kernel
theorem dX5_sizeSlot_8 : decode cX5_sizeSlot 8 = .ok (.iconst 1, 1) := by decide +kernel
theorem dX5_sizeSlot_9 : decode cX5_sizeSlot 9 = .ok (.isub, 1) := by decide +kernel
theorem dX5_sizeSlot_10 : decode cX5_sizeSlot 10 = .ok (.bipush 16, 2) := by decide +kernel
theorem dX5_sizeSlot_12 : decode cX5_sizeSlot 12 = .ok (.imul, 1) := by decide +kernel
theorem dX5_sizeSlot_13 : decode cX5_sizeSlot 13 = .ok (.iload_n 1, 1) := by decide +kernel
theorem dX5_sizeSlot_14 : decode cX5_sizeSlot 14 = .ok (.iadd, 1) := by decide +kernel
theorem dX5_sizeSlot_15 : decode cX5_sizeSlot 15 = .ok (.iconst 1, 1) := by decide +kernel
theorem dX5_sizeSlot_16 : decode cX5_sizeSlot 16 = .ok (.isub, 1) := by decide +kernel
theorem dX5_sizeSlot_17 : decode cX5_sizeSlot 17 = .ok (.ireturn, 1) := by decide +kernel
set_option maxRecDepth 100000 in
theorem ggX5_fillParts_X5_fillPart : GoodIn wsX5_fillParts wsX5_fillPart := goodIn_r _ [8, 1, 9, 10, 11, 12, 13, 14, 15, 16, 17, 18, 19, 20, 21, 22, 23, 7, 24, 25, 26, 27, 28, 29, 30, 31, 32, 33, 34, 35, 36, 37, 38, 39, 40, 41, 42, 43, 44, 45, 46, 47, 48, 49, 50, 51, 52, 53, 54, 55, 56, 57, 58, 59, 60] rfl (by decide +kernel)
set_option maxRecDepth 100000 in
theorem gX5_fillParts_X5_fillPart : GoodIn wsX5_fillParts (wsV RX5 93 RX5 yX5_fillPart wsX5_fillPart) := goodIn_app (goodIn_of _ (by decide +kernel)) ggX5_fillParts_X5_fillPart
theorem dX5_fillParts_0 : decode cX5_fillParts 0 = .ok (.iconst 1, 1) := by decide +kernel
theorem dX5_fillParts_1 : decode cX5_fillParts 1 = .ok (.istore_n 1, 1) := by decide +kernel
theorem dX5_fillParts_2 : decode cX5_fillParts 2 = .ok (.iload_n 1, 1) := by decide +kernel
theorem dX5_fillParts_3 : decode cX5_fillParts 3 = .ok (.aload_n 0, 1) := by decide +kernel
theorem dX5_fillParts_4 : decode cX5_fillParts 4 = .ok (.getfield 23, 3) := by decide +kernel
theorem dX5_fillParts_7 : decode cX5_fillParts 7 = .ok (.getfield 61, 3) := by decide +kernel
theorem dX5_fillParts_10 : decode cX5_fillParts 10 = .ok (.if_icmp .gt 72, 3) := by decide +kernel
theorem dX5_fillParts_13 : decode cX5_fillParts 13 = .ok (.iload_n 1, 1) := by decide +kernel
theorem dX5_fillParts_14 : decode cX5_fillParts 14 = .ok (.iconst 1, 1) := by decide +kernel
theorem dX5_fillParts_15 : decode cX5_fillParts 15 = .ok (.isub, 1) := by decide +kernel
theorem dX5_fillParts_16 : decode cX5_fillParts 16 = .ok (.istore_n 2, 1) := by decide +kernel
theorem dX5_fillParts_17 : decode cX5_fillParts 17 = .ok (.iload_n 2, 1) := by decide +kernel
theorem dX5_fillParts_18 : decode cX5_fillParts 18 = .ok (.ifCond .lt 58, 3) := by decide +kernel
theorem dX5_fillParts_21 : decode cX5_fillParts 21 = .ok (.iconst 1, 1) := by decide +kernel
theorem dX5_fillParts_22 : decode cX5_fillParts 22 = .ok (.istore_n 3, 1) := by decide +kernel
theorem dX5_fillParts_23 : decode cX5_fillParts 23 = .ok (.iload_n 3, 1) := by decide +kernel
theorem dX5_fillParts_24 : decode cX5_fillParts 24 = .ok (.aload_n 0, 1) := by decide +kernel
theorem dX5_fillParts_25 : decode cX5_fillParts 25 = .ok (.getfield 23, 3) := by decide +kernel
theorem dX5_fillParts_28 : decode cX5_fillParts 28 = .ok (.getfield 64, 3) := by decide +kernel
theorem dX5_fillParts_31 : decode cX5_fillParts 31 = .ok (.if_icmp .gt 39, 3) := by decide +kernel
theorem dX5_fillParts_34 : decode cX5_fillParts 34 = .ok (.iload_n 3, 1) := by decide +kernel
theorem dX5_fillParts_35 : decode cX5_fillParts 35 = .ok (.iconst 1, 1) := by decide +kernel
theorem dX5_fillParts_36 : decode cX5_fillParts 36 = .ok (.isub, 1) := by decide +kernel
theorem dX5_fillParts_37 : decode cX5_fillParts 37 = .ok (.istore 4, 2) := by decide +kernel
theorem dX5_fillParts_39 : decode cX5_fillParts 39 = .ok (.iload 4, 2) := by decide +kernel
theorem dX5_fillParts_41 : decode cX5_fillParts 41 = .ok (.ifCond .lt 23, 3) := by decide +kernel
theorem dX5_fillParts_44 : decode cX5_fillParts 44 = .ok (.aload_n 0, 1) := by decide +kernel
theorem dX5_fillParts_45 : decode cX5_fillParts 45 = .ok (.iload_n 2, 1) := by decide +kernel
theorem dX5_fillParts_46 : decode cX5_fillParts 46 = .ok (.iload 4, 2) := by decide +kernel
theorem dX5_fillParts_48 : decode cX5_fillParts 48 = .ok (.iload_n 1, 1) := by decide +kernel
theorem dX5_fillParts_49 : decode cX5_fillParts 49 = .ok (.iload_n 2, 1) := by decide +kernel
theorem dX5_fillParts_50 : decode cX5_fillParts 50 = .ok (.isub, 1) := by decide +kernel
theorem dX5_fillParts_51 : decode cX5_fillParts 51 = .ok (.iload_n 3, 1) := by decide +kernel
theorem dX5_fillParts_52 : decode cX5_fillParts 52 = .ok (.iload 4, 2) := by decide +kernel
theorem dX5_fillParts_54 : decode cX5_fillParts 54 = .ok (.isub, 1) := by decide +kernel
theorem dX5_fillParts_55 : decode cX5_fillParts 55 = .ok (.invokevirtual 93, 3) := by decide +kernel
theorem dX5_fillParts_58 : decode cX5_fillParts 58 = .ok (.iinc 4 (-1), 3) := by decide +kernel
theorem dX5_fillParts_61 : decode cX5_fillParts 61 = .ok (.goto (-22), 3) := by decide +kernel
theorem dX5_fillParts_64 : decode cX5_fillParts 64 = .ok (.iinc 3 1, 3) := by decide +kernel
theorem dX5_fillParts_67 : decode cX5_fillParts 67 = .ok (.goto (-44), 3) := by decide +kernel
theorem dX5_fillParts_70 : decode cX5_fillParts 70 = .ok (.iinc 2 (-1), 3) := by decide +kernel
theorem dX5_fillParts_73 : decode cX5_fillParts 73 = .ok (.goto (-56), 3) := by decide +kernel
theorem dX5_fillParts_76 : decode cX5_fillParts 76 = .ok (.iinc 1 1, 3) := by decide +kernel
theorem dX5_fillParts_79 : decode cX5_fillParts 79 = .ok (.goto (-77), 3) := by decide +kernel
theorem dX5_fillParts_82 : decode cX5_fillParts 82 = .ok (.return_, 1) := by decide +kernel
set_option maxRecDepth 100000 in
theorem ggX5_fillPart_X4_isClean : GoodIn wsX5_fillPart wsX4_isClean := goodIn_r _ [12, 13, 14, 48, 49, 50, 51, 52, 53, 54] rfl (by decide +kernel)
set_option maxRecDepth 100000 in
theorem gX5_fillPart_X4_isClean : GoodIn wsX5_fillPart (wsV RX5 97 RX4 yX4_isClean wsX4_isClean) := goodIn_app (goodIn_of _ (by decide +kernel)) ggX5_fillPart_X4_isClean
set_option maxRecDepth 100000 in
theorem ggX5_fillPart_X5_span : GoodIn wsX5_fillPart wsX5_span := goodIn_r _ [18] rfl (by decide +kernel)
set_option maxRecDepth 100000 in
theorem gX5_fillPart_X5_span : GoodIn wsX5_fillPart (va_wsS RX5 47 yX5_span wsX5_span) := goodIn_app (goodIn_of _ (by decide +kernel)) ggX5_fillPart_X5_span
set_option maxRecDepth 100000 in
theorem ggX5_fillPart_X5_ofSize : GoodIn wsX5_fillPart wsX5_ofSize := goodIn_r _ [22, 1, 2, 23, 24, 25, 17, 26, 27, 28, 29, 43, 44, 45, 46, 47, 48, 49, 50, 51, 52, 53, 54] rfl (by decide +kernel)
set_option maxRecDepth 100000 in
theorem gX5_fillPart_X5_ofSize : GoodIn wsX5_fillPart (wsV RX5 43 RX5 yX5_ofSize wsX5_ofSize) := goodIn_app (goodIn_of _ (by decide +kernel)) ggX5_fillPart_X5_ofSize
set_option maxRecDepth 100000 in
theorem ggX5_fillPart_X4_partsWidth : GoodIn wsX5_fillPart wsX4_partsWidth := goodIn_r _ [33, 34, 48, 49, 50, 51, 52, 53, 54] rfl (by decide +kernel)
set_option maxRecDepth 100000 in
theorem gX5_fillPart_X4_partsWidth : GoodIn wsX5_fillPart (wsV RX5 86 RX4 yX4_partsWidth wsX4_partsWidth) := goodIn_app (goodIn_of _ (by decide +kernel)) ggX5_fillPart_X4_partsWidth
set_option maxRecDepth 100000 in
theorem ggX5_fillPart_X5_partSlot : GoodIn wsX5_fillPart wsX5_partSlot := goodIn_r _ [37] rfl (by decide +kernel)
set_option maxRecDepth 100000 in
theorem gX5_fillPart_X5_partSlot : GoodIn wsX5_fillPart (va_wsS RX5 51 yX5_partSlot wsX5_partSlot) := goodIn_app (goodIn_of _ (by decide +kernel)) ggX5_fillPart_X5_partSlot
set_option maxRecDepth 100000 in
theorem ggX5_fillPart_X5_mostOfCuts : GoodIn wsX5_fillPart wsX5_mostOfCuts := goodIn_r _ [41, 7, 1, 42, 15, 16, 17, 18, 43, 44, 45, 46, 47, 48, 49, 50, 51, 52, 53, 54] rfl (by decide +kernel)
set_option maxRecDepth 100000 in
theorem gX5_fillPart_X5_mostOfCuts : GoodIn wsX5_fillPart (wsV RX5 101 RX5 yX5_mostOfCuts wsX5_mostOfCuts) := goodIn_app (goodIn_of _ (by decide +kernel)) ggX5_fillPart_X5_mostOfCuts
set_option maxRecDepth 100000 in
theorem ggX5_fillPart_X6_within : GoodIn wsX5_fillPart wsX6_within := goodIn_r _ [29] rfl (by decide +kernel)
set_option maxRecDepth 100000 in
theorem gX5_fillPart_X6_within_n54 : GoodIn wsX5_fillPart (wsX6_within) := ggX5_fillPart_X6_within
theorem dX5_fillPart_0 : decode cX5_fillPart 0 = .ok (.aload_n 0, 1) := by decide +kernel
theorem dX5_fillPart_1 : decode cX5_fillPart 1 = .ok (.getfield 23, 3) := by decide +kernel
theorem dX5_fillPart_4 : decode cX5_fillPart 4 = .ok (.iload_n 1, 1) := by decide +kernel
theorem dX5_fillPart_5 : decode cX5_fillPart 5 = .ok (.iload_n 2, 1) := by decide +kernel
theorem dX5_fillPart_6 : decode cX5_fillPart 6 = .ok (.iload_n 3, 1) := by decide +kernel
theorem dX5_fillPart_7 : decode cX5_fillPart 7 = .ok (.iload 4, 2) := by decide +kernel
theorem dX5_fillPart_9 : decode cX5_fillPart 9 = .ok (.invokevirtual 97, 3) := by decide +kernel
theorem dX5_fillPart_12 : decode cX5_fillPart 12 = .ok (.istore 5, 2) := by decide +kernel
theorem dX5_fillPart_14 : decode cX5_fillPart 14 = .ok (.iload_n 1, 1) := by decide +kernel
theorem dX5_fillPart_15 : decode cX5_fillPart 15 = .ok (.iload_n 1, 1) := by decide +kernel
theorem dX5_fillPart_16 : decode cX5_fillPart 16 = .ok (.iload_n 3, 1) := by decide +kernel
theorem dX5_fillPart_17 : decode cX5_fillPart 17 = .ok (.iadd, 1) := by decide +kernel
theorem dX5_fillPart_18 : decode cX5_fillPart 18 = .ok (.invokestatic 47, 3) := by decide +kernel
theorem dX5_fillPart_21 : decode cX5_fillPart 21 = .ok (.istore 6, 2) := by decide +kernel
theorem dX5_fillPart_23 : decode cX5_fillPart 23 = .ok (.iload_n 2, 1) := by decide +kernel
theorem dX5_fillPart_24 : decode cX5_fillPart 24 = .ok (.iload_n 2, 1) := by decide +kernel
theorem dX5_fillPart_25 : decode cX5_fillPart 25 = .ok (.iload 4, 2) := by decide +kernel
theorem dX5_fillPart_27 : decode cX5_fillPart 27 = .ok (.iadd, 1) := by decide +kernel
theorem dX5_fillPart_28 : decode cX5_fillPart 28 = .ok (.invokestatic 47, 3) := by decide +kernel
theorem dX5_fillPart_31 : decode cX5_fillPart 31 = .ok (.istore 7, 2) := by decide +kernel
theorem dX5_fillPart_33 : decode cX5_fillPart 33 = .ok (.iconst 0, 1) := by decide +kernel
theorem dX5_fillPart_34 : decode cX5_fillPart 34 = .ok (.istore 8, 2) := by decide +kernel
theorem dX5_fillPart_36 : decode cX5_fillPart 36 = .ok (.aload_n 0, 1) := by decide +kernel
theorem dX5_fillPart_37 : decode cX5_fillPart 37 = .ok (.getfield 23, 3) := by decide +kernel
theorem dX5_fillPart_40 : decode cX5_fillPart 40 = .ok (.getfield 58, 3) := by decide +kernel
theorem dX5_fillPart_43 : decode cX5_fillPart 43 = .ok (.istore 9, 2) := by decide +kernel
theorem dX5_fillPart_45 : decode cX5_fillPart 45 = .ok (.iload 9, 2) := by decide +kernel
theorem dX5_fillPart_47 : decode cX5_fillPart 47 = .ok (.iconst 1, 1) := by decide +kernel
theorem dX5_fillPart_48 : decode cX5_fillPart 48 = .ok (.if_icmp .lt 139, 3) := by decide +kernel
theorem dX5_fillPart_51 : decode cX5_fillPart 51 = .ok (.aload_n 0, 1) := by decide +kernel
theorem dX5_fillPart_52 : decode cX5_fillPart 52 = .ok (.iload_n 3, 1) := by decide +kernel
theorem dX5_fillPart_53 : decode cX5_fillPart 53 = .ok (.iload 4, 2) := by decide +kernel
theorem dX5_fillPart_55 : decode cX5_fillPart 55 = .ok (.iload 9, 2) := by decide +kernel
theorem dX5_fillPart_57 : decode cX5_fillPart 57 = .ok (.invokevirtual 43, 3) := by decide +kernel
theorem dX5_fillPart_60 : decode cX5_fillPart 60 = .ok (.istore 10, 2) := by decide +kernel
theorem dX5_fillPart_62 : decode cX5_fillPart 62 = .ok (.iload 5, 2) := by decide +kernel
theorem dX5_fillPart_64 : decode cX5_fillPart 64 = .ok (.ifCond .ne 77, 3) := by decide +kernel
theorem dX5_fillPart_67 : decode cX5_fillPart 67 = .ok (.iload 10, 2) := by decide +kernel
theorem dX5_fillPart_69 : decode cX5_fillPart 69 = .ok (.iload 8, 2) := by decide +kernel
theorem dX5_fillPart_71 : decode cX5_fillPart 71 = .ok (.if_icmp .le 70, 3) := by decide +kernel
theorem dX5_fillPart_74 : decode cX5_fillPart 74 = .ok (.aload_n 0, 1) := by decide +kernel
theorem dX5_fillPart_75 : decode cX5_fillPart 75 = .ok (.getfield 23, 3) := by decide +kernel
theorem dX5_fillPart_78 : decode cX5_fillPart 78 = .ok (.iload 9, 2) := by decide +kernel
theorem dX5_fillPart_80 : decode cX5_fillPart 80 = .ok (.invokevirtual 86, 3) := by decide +kernel
theorem dX5_fillPart_83 : decode cX5_fillPart 83 = .ok (.ifCond .eq 27, 3) := by decide +kernel
theorem dX5_fillPart_86 : decode cX5_fillPart 86 = .ok (.aload_n 0, 1) := by decide +kernel
theorem dX5_fillPart_87 : decode cX5_fillPart 87 = .ok (.iload 9, 2) := by decide +kernel
theorem dX5_fillPart_89 : decode cX5_fillPart 89 = .ok (.iconst 0, 1) := by decide +kernel
theorem dX5_fillPart_90 : decode cX5_fillPart 90 = .ok (.iload 7, 2) := by decide +kernel
theorem dX5_fillPart_92 : decode cX5_fillPart 92 = .ok (.invokestatic 51, 3) := by decide +kernel
theorem dX5_fillPart_95 : decode cX5_fillPart 95 = .ok (.sipush 136, 3) := by decide +kernel
theorem dX5_fillPart_98 : decode cX5_fillPart 98 = .ok (.iload_n 1, 1) := by decide +kernel
theorem dX5_fillPart_99 : decode cX5_fillPart 99 = .ok (.iload_n 1, 1) := by decide +kernel
theorem dX5_fillPart_100 : decode cX5_fillPart 100 = .ok (.iload_n 3, 1) := by decide +kernel
theorem dX5_fillPart_101 : decode cX5_fillPart 101 = .ok (.iadd, 1) := by decide +kernel
theorem dX5_fillPart_102 : decode cX5_fillPart 102 = .ok (.iload 10, 2) := by decide +kernel
theorem dX5_fillPart_104 : decode cX5_fillPart 104 = .ok (.invokevirtual 101, 3) := by decide +kernel
theorem dX5_fillPart_107 : decode cX5_fillPart 107 = .ok (.goto 23, 3) := by decide +kernel
theorem dX5_fillPart_110 : decode cX5_fillPart 110 = .ok (.aload_n 0, 1) := by decide +kernel
theorem dX5_fillPart_111 : decode cX5_fillPart 111 = .ok (.iload 9, 2) := by decide +kernel
theorem dX5_fillPart_113 : decode cX5_fillPart 113 = .ok (.iload 6, 2) := by decide +kernel
theorem dX5_fillPart_115 : decode cX5_fillPart 115 = .ok (.iconst 0, 1) := by decide +kernel
theorem dX5_fillPart_116 : decode cX5_fillPart 116 = .ok (.invokestatic 51, 3) := by decide +kernel
theorem dX5_fillPart_119 : decode cX5_fillPart 119 = .ok (.iconst 1, 1) := by decide +kernel
theorem dX5_fillPart_120 : decode cX5_fillPart 120 = .ok (.iload_n 2, 1) := by decide +kernel
theorem dX5_fillPart_121 : decode cX5_fillPart 121 = .ok (.iload_n 2, 1) := by decide +kernel
theorem dX5_fillPart_122 : decode cX5_fillPart 122 = .ok (.iload 4, 2) := by decide +kernel
theorem dX5_fillPart_124 : decode cX5_fillPart 124 = .ok (.iadd, 1) := by decide +kernel
theorem dX5_fillPart_125 : decode cX5_fillPart 125 = .ok (.iload 10, 2) := by decide +kernel
theorem dX5_fillPart_127 : decode cX5_fillPart 127 = .ok (.invokevirtual 101, 3) := by decide +kernel
theorem dX5_fillPart_130 : decode cX5_fillPart 130 = .ok (.istore 11, 2) := by decide +kernel
theorem dX5_fillPart_132 : decode cX5_fillPart 132 = .ok (.iload 8, 2) := by decide +kernel
theorem dX5_fillPart_134 : decode cX5_fillPart 134 = .ok (.iload 11, 2) := by decide +kernel
theorem dX5_fillPart_136 : decode cX5_fillPart 136 = .ok (.invokestatic 78, 3) := by decide +kernel
theorem dX5_fillPart_139 : decode cX5_fillPart 139 = .ok (.istore 10, 2) := by decide +kernel
theorem dX5_fillPart_141 : decode cX5_fillPart 141 = .ok (.iload 9, 2) := by decide +kernel
theorem dX5_fillPart_143 : decode cX5_fillPart 143 = .ok (.iload 6, 2) := by decide +kernel
theorem dX5_fillPart_145 : decode cX5_fillPart 145 = .ok (.iload 7, 2) := by decide +kernel
theorem dX5_fillPart_147 : decode cX5_fillPart 147 = .ok (.invokestatic 51, 3) := by decide +kernel
theorem dX5_fillPart_150 : decode cX5_fillPart 150 = .ok (.istore 11, 2) := by decide +kernel
theorem dX5_fillPart_152 : decode cX5_fillPart 152 = .ok (.iload 11, 2) := by decide +kernel
theorem dX5_fillPart_154 : decode cX5_fillPart 154 = .ok (.iconst 0, 1) := by decide +kernel
theorem dX5_fillPart_155 : decode cX5_fillPart 155 = .ok (.aload_n 0, 1) := by decide +kernel
theorem dX5_fillPart_156 : decode cX5_fillPart 156 = .ok (.getfield 16, 3) := by decide +kernel
theorem dX5_fillPart_159 : decode cX5_fillPart 159 = .ok (.arraylength, 1) := by decide +kernel
theorem dX5_fillPart_160 : decode cX5_fillPart 160 = .ok (.iconst 1, 1) := by decide +kernel
theorem dX5_fillPart_161 : decode cX5_fillPart 161 = .ok (.isub, 1) := by decide +kernel
theorem dX5_fillPart_162 : decode cX5_fillPart 162 = .ok (.invokestatic 54, 3) := by decide +kernel
theorem dX5_fillPart_165 : decode cX5_fillPart 165 = .ok (.ifCond .eq 12, 3) := by decide +kernel
theorem dX5_fillPart_168 : decode cX5_fillPart 168 = .ok (.aload_n 0, 1) := by decide +kernel
theorem dX5_fillPart_169 : decode cX5_fillPart 169 = .ok (.getfield 16, 3) := by decide +kernel
theorem dX5_fillPart_172 : decode cX5_fillPart 172 = .ok (.iload 11, 2) := by decide +kernel
theorem dX5_fillPart_174 : decode cX5_fillPart 174 = .ok (.iload 10, 2) := by decide +kernel
theorem dX5_fillPart_176 : decode cX5_fillPart 176 = .ok (.iastore, 1) := by decide +kernel
theorem dX5_fillPart_177 : decode cX5_fillPart 177 = .ok (.iload 10, 2) := by decide +kernel
theorem dX5_fillPart_179 : decode cX5_fillPart 179 = .ok (.istore 8, 2) := by decide +kernel
theorem dX5_fillPart_181 : decode cX5_fillPart 181 = .ok (.iinc 9 (-1), 3) := by decide +kernel
theorem dX5_fillPart_184 : decode cX5_fillPart 184 = .ok (.goto (-139), 3) := by decide +kernel
theorem dX5_fillPart_187 : decode cX5_fillPart 187 = .ok (.return_, 1) := by decide +kernel
set_option maxRecDepth 100000 in
theorem ggX5_mostOfCuts_X5_span : GoodIn wsX5_mostOfCuts wsX5_span := goodIn_r _ [7] rfl (by decide +kernel)
set_option maxRecDepth 100000 in
theorem gX5_mostOfCuts_X5_span : GoodIn wsX5_mostOfCuts (va_wsS RX5 47 yX5_span wsX5_span) := goodIn_app (goodIn_of _ (by decide +kernel)) ggX5_mostOfCuts_X5_span
theorem dX5_mostOfCuts_0 : decode cX5_mostOfCuts 0 = .ok (.iload_n 1, 1) := by decide +kernel
theorem dX5_mostOfCuts_1 : decode cX5_mostOfCuts 1 = .ok (.ifCond .lt 24, 3) := by decide +kernel
theorem dX5_mostOfCuts_4 : decode cX5_mostOfCuts 4 = .ok (.iload_n 1, 1) := by decide +kernel
theorem dX5_mostOfCuts_5 : decode cX5_mostOfCuts 5 = .ok (.iload_n 2, 1) := by decide +kernel
theorem dX5_mostOfCuts_6 : decode cX5_mostOfCuts 6 = .ok (.iload 4, 2) := by decide +kernel
theorem dX5_mostOfCuts_8 : decode cX5_mostOfCuts 8 = .ok (.iconst 1, 1) := by decide +kernel
theorem dX5_mostOfCuts_9 : decode cX5_mostOfCuts 9 = .ok (.isub, 1) := by decide +kernel
theorem dX5_mostOfCuts_10 : decode cX5_mostOfCuts 10 = .ok (.iload 4, 2) := by decide +kernel
theorem dX5_mostOfCuts_12 : decode cX5_mostOfCuts 12 = .ok (.invokestatic 47, 3) := by decide +kernel
theorem dX5_mostOfCuts_15 : decode cX5_mostOfCuts 15 = .ok (.imul, 1) := by decide +kernel
theorem dX5_mostOfCuts_16 : decode cX5_mostOfCuts 16 = .ok (.iadd, 1) := by decide +kernel
theorem dX5_mostOfCuts_17 : decode cX5_mostOfCuts 17 = .ok (.aload_n 0, 1) := by decide +kernel
theorem dX5_mostOfCuts_18 : decode cX5_mostOfCuts 18 = .ok (.getfield 16, 3) := by decide +kernel
theorem dX5_mostOfCuts_21 : decode cX5_mostOfCuts 21 = .ok (.arraylength, 1) := by decide +kernel
theorem dX5_mostOfCuts_22 : decode cX5_mostOfCuts 22 = .ok (.if_icmp .lt 5, 3) := by decide +kernel
theorem dX5_mostOfCuts_25 : decode cX5_mostOfCuts 25 = .ok (.iconst 0, 1) := by decide +kernel
theorem dX5_mostOfCuts_26 : decode cX5_mostOfCuts 26 = .ok (.ireturn, 1) := by decide +kernel
theorem dX5_mostOfCuts_27 : decode cX5_mostOfCuts 27 = .ok (.iload_n 1, 1) := by decide +kernel
theorem dX5_mostOfCuts_28 : decode cX5_mostOfCuts 28 = .ok (.iload_n 2, 1) := by decide +kernel
theorem dX5_mostOfCuts_29 : decode cX5_mostOfCuts 29 = .ok (.iload_n 3, 1) := by decide +kernel
theorem dX5_mostOfCuts_30 : decode cX5_mostOfCuts 30 = .ok (.iload_n 3, 1) := by decide +kernel
theorem dX5_mostOfCuts_31 : decode cX5_mostOfCuts 31 = .ok (.iconst 1, 1) := by decide +kernel
theorem dX5_mostOfCuts_32 : decode cX5_mostOfCuts 32 = .ok (.iadd, 1) := by decide +kernel
theorem dX5_mostOfCuts_33 : decode cX5_mostOfCuts 33 = .ok (.invokestatic 47, 3) := by decide +kernel
theorem dX5_mostOfCuts_36 : decode cX5_mostOfCuts 36 = .ok (.imul, 1) := by decide +kernel
theorem dX5_mostOfCuts_37 : decode cX5_mostOfCuts 37 = .ok (.iadd, 1) := by decide +kernel
theorem dX5_mostOfCuts_38 : decode cX5_mostOfCuts 38 = .ok (.istore 6, 2) := by decide +kernel
theorem dX5_mostOfCuts_40 : decode cX5_mostOfCuts 40 = .ok (.iload_n 1, 1) := by decide +kernel
theorem dX5_mostOfCuts_41 : decode cX5_mostOfCuts 41 = .ok (.iload_n 2, 1) := by decide +kernel
theorem dX5_mostOfCuts_42 : decode cX5_mostOfCuts 42 = .ok (.iload_n 3, 1) := by decide +kernel
theorem dX5_mostOfCuts_43 : decode cX5_mostOfCuts 43 = .ok (.iconst 1, 1) := by decide +kernel
theorem dX5_mostOfCuts_44 : decode cX5_mostOfCuts 44 = .ok (.iadd, 1) := by decide +kernel
theorem dX5_mostOfCuts_45 : decode cX5_mostOfCuts 45 = .ok (.aload_n 0, 1) := by decide +kernel
theorem dX5_mostOfCuts_46 : decode cX5_mostOfCuts 46 = .ok (.getfield 23, 3) := by decide +kernel
theorem dX5_mostOfCuts_49 : decode cX5_mostOfCuts 49 = .ok (.getfield 90, 3) := by decide +kernel
theorem dX5_mostOfCuts_52 : decode cX5_mostOfCuts 52 = .ok (.iadd, 1) := by decide +kernel
theorem dX5_mostOfCuts_53 : decode cX5_mostOfCuts 53 = .ok (.iload 4, 2) := by decide +kernel
theorem dX5_mostOfCuts_55 : decode cX5_mostOfCuts 55 = .ok (.invokestatic 47, 3) := by decide +kernel
theorem dX5_mostOfCuts_58 : decode cX5_mostOfCuts 58 = .ok (.imul, 1) := by decide +kernel
theorem dX5_mostOfCuts_59 : decode cX5_mostOfCuts 59 = .ok (.iadd, 1) := by decide +kernel
theorem dX5_mostOfCuts_60 : decode cX5_mostOfCuts 60 = .ok (.istore 7, 2) := by decide +kernel
theorem dX5_mostOfCuts_62 : decode cX5_mostOfCuts 62 = .ok (.iconst 0, 1) := by decide +kernel
theorem dX5_mostOfCuts_63 : decode cX5_mostOfCuts 63 = .ok (.istore 8, 2) := by decide +kernel
theorem dX5_mostOfCuts_65 : decode cX5_mostOfCuts 65 = .ok (.iload_n 3, 1) := by decide +kernel
theorem dX5_mostOfCuts_66 : decode cX5_mostOfCuts 66 = .ok (.iconst 1, 1) := by decide +kernel
theorem dX5_mostOfCuts_67 : decode cX5_mostOfCuts 67 = .ok (.iadd, 1) := by decide +kernel
theorem dX5_mostOfCuts_68 : decode cX5_mostOfCuts 68 = .ok (.istore 9, 2) := by decide +kernel
theorem dX5_mostOfCuts_70 : decode cX5_mostOfCuts 70 = .ok (.iload 9, 2) := by decide +kernel
theorem dX5_mostOfCuts_72 : decode cX5_mostOfCuts 72 = .ok (.aload_n 0, 1) := by decide +kernel
theorem dX5_mostOfCuts_73 : decode cX5_mostOfCuts 73 = .ok (.getfield 23, 3) := by decide +kernel
theorem dX5_mostOfCuts_76 : decode cX5_mostOfCuts 76 = .ok (.getfield 90, 3) := by decide +kernel
theorem dX5_mostOfCuts_79 : decode cX5_mostOfCuts 79 = .ok (.iadd, 1) := by decide +kernel
theorem dX5_mostOfCuts_80 : decode cX5_mostOfCuts 80 = .ok (.iload 4, 2) := by decide +kernel
theorem dX5_mostOfCuts_82 : decode cX5_mostOfCuts 82 = .ok (.if_icmp .ge 59, 3) := by decide +kernel
theorem dX5_mostOfCuts_85 : decode cX5_mostOfCuts 85 = .ok (.iload 8, 2) := by decide +kernel
theorem dX5_mostOfCuts_87 : decode cX5_mostOfCuts 87 = .ok (.iload 5, 2) := by decide +kernel
theorem dX5_mostOfCuts_89 : decode cX5_mostOfCuts 89 = .ok (.if_icmp .ge 52, 3) := by decide +kernel
theorem dX5_mostOfCuts_92 : decode cX5_mostOfCuts 92 = .ok (.aload_n 0, 1) := by decide +kernel
theorem dX5_mostOfCuts_93 : decode cX5_mostOfCuts 93 = .ok (.getfield 16, 3) := by decide +kernel
theorem dX5_mostOfCuts_96 : decode cX5_mostOfCuts 96 = .ok (.iload 6, 2) := by decide +kernel
theorem dX5_mostOfCuts_98 : decode cX5_mostOfCuts 98 = .ok (.iaload, 1) := by decide +kernel
theorem dX5_mostOfCuts_99 : decode cX5_mostOfCuts 99 = .ok (.aload_n 0, 1) := by decide +kernel
theorem dX5_mostOfCuts_100 : decode cX5_mostOfCuts 100 = .ok (.getfield 16, 3) := by decide +kernel
theorem dX5_mostOfCuts_103 : decode cX5_mostOfCuts 103 = .ok (.iload 7, 2) := by decide +kernel
theorem dX5_mostOfCuts_105 : decode cX5_mostOfCuts 105 = .ok (.iaload, 1) := by decide +kernel
theorem dX5_mostOfCuts_106 : decode cX5_mostOfCuts 106 = .ok (.iadd, 1) := by decide +kernel
theorem dX5_mostOfCuts_107 : decode cX5_mostOfCuts 107 = .ok (.istore 10, 2) := by decide +kernel
theorem dX5_mostOfCuts_109 : decode cX5_mostOfCuts 109 = .ok (.iload 10, 2) := by decide +kernel
theorem dX5_mostOfCuts_111 : decode cX5_mostOfCuts 111 = .ok (.iload 8, 2) := by decide +kernel
theorem dX5_mostOfCuts_113 : decode cX5_mostOfCuts 113 = .ok (.if_icmp .le 7, 3) := by decide +kernel
theorem dX5_mostOfCuts_116 : decode cX5_mostOfCuts 116 = .ok (.iload 10, 2) := by decide +kernel
theorem dX5_mostOfCuts_118 : decode cX5_mostOfCuts 118 = .ok (.istore 8, 2) := by decide +kernel
theorem dX5_mostOfCuts_120 : decode cX5_mostOfCuts 120 = .ok (.iload 6, 2) := by decide +kernel
theorem dX5_mostOfCuts_122 : decode cX5_mostOfCuts 122 = .ok (.iload_n 2, 1) := by decide +kernel
theorem dX5_mostOfCuts_123 : decode cX5_mostOfCuts 123 = .ok (.iload 9, 2) := by decide +kernel
theorem dX5_mostOfCuts_125 : decode cX5_mostOfCuts 125 = .ok (.imul, 1) := by decide +kernel
theorem dX5_mostOfCuts_126 : decode cX5_mostOfCuts 126 = .ok (.iadd, 1) := by decide +kernel
theorem dX5_mostOfCuts_127 : decode cX5_mostOfCuts 127 = .ok (.istore 6, 2) := by decide +kernel
theorem dX5_mostOfCuts_129 : decode cX5_mostOfCuts 129 = .ok (.iload 7, 2) := by decide +kernel
theorem dX5_mostOfCuts_131 : decode cX5_mostOfCuts 131 = .ok (.iload_n 2, 1) := by decide +kernel
theorem dX5_mostOfCuts_132 : decode cX5_mostOfCuts 132 = .ok (.iadd, 1) := by decide +kernel
theorem dX5_mostOfCuts_133 : decode cX5_mostOfCuts 133 = .ok (.istore 7, 2) := by decide +kernel
theorem dX5_mostOfCuts_135 : decode cX5_mostOfCuts 135 = .ok (.iinc 9 1, 3) := by decide +kernel
theorem dX5_mostOfCuts_138 : decode cX5_mostOfCuts 138 = .ok (.goto (-68), 3) := by decide +kernel
theorem dX5_mostOfCuts_141 : decode cX5_mostOfCuts 141 = .ok (.iload 8, 2) := by decide +kernel
theorem dX5_mostOfCuts_143 : decode cX5_mostOfCuts 143 = .ok (.ireturn, 1) := by decide +kernel
theorem dX5_span_0 : decode cX5_span 0 = .ok (.iload_n 1, 1) := by decide +kernel
theorem dX5_span_1 : decode cX5_span 1 = .ok (.iload_n 1, 1) := by decide +kernel
theorem dX5_span_2 : decode cX5_span 2 = .ok (.iconst 1, 1) := by decide +kernel
theorem dX5_span_3 : decode cX5_span 3 = .ok (.isub, 1) := by decide +kernel
theorem dX5_span_4 : decode cX5_span 4 = .ok (.imul, 1) := by decide +kernel
theorem dX5_span_5 : decode cX5_span 5 = .ok (.iconst 2, 1) := by decide +kernel
theorem dX5_span_6 : decode cX5_span 6 = .ok (.idiv, 1) := by decide +kernel
theorem dX5_span_7 : decode cX5_span 7 = .ok (.iload_n 0, 1) := by decide +kernel
theorem dX5_span_8 : decode cX5_span 8 = .ok (.iadd, 1) := by decide +kernel
theorem dX5_span_9 : decode cX5_span 9 = .ok (.ireturn, 1) := by decide +kernel
theorem dX5_partSlot_0 : decode cX5_partSlot 0 = .ok (.iload_n 0, 1) := by decide +kernel
theorem dX5_partSlot_1 : decode cX5_partSlot 1 = .ok (.iconst 1, 1) := by decide +kernel
theorem dX5_partSlot_2 : decode cX5_partSlot 2 = .ok (.isub, 1) := by decide +kernel
theorem dX5_partSlot_3 : decode cX5_partSlot 3 = .ok (.sipush 136, 3) := by decide +kernel
theorem dX5_partSlot_6 : decode cX5_partSlot 6 = .ok (.imul, 1) := by decide +kernel
theorem dX5_partSlot_7 : decode cX5_partSlot 7 = .ok (.iload_n 1, 1) := by decide +kernel
theorem dX5_partSlot_8 : decode cX5_partSlot 8 = .ok (.iadd, 1) := by decide +kernel
theorem dX5_partSlot_9 : decode cX5_partSlot 9 = .ok (.sipush 136, 3) := by decide +kernel
theorem dX5_partSlot_12 : decode cX5_partSlot 12 = .ok (.imul, 1) := by decide +kernel
theorem dX5_partSlot_13 : decode cX5_partSlot 13 = .ok (.iload_n 2, 1) := by decide +kernel
theorem dX5_partSlot_14 : decode cX5_partSlot 14 = .ok (.iadd, 1) := by decide +kernel
theorem dX5_partSlot_15 : decode cX5_partSlot 15 = .ok (.ireturn, 1) := by decide +kernel
set_option maxRecDepth 100000 in
theorem ggX6_init_X4_init : GoodIn wsX6_init wsX4_init := goodIn_r _ [29, 30, 2, 3, 31, 32, 33, 34, 35, 36, 37, 38, 95, 96, 97, 98, 99, 100, 101] rfl (by decide +kernel)
set_option maxRecDepth 100000 in
theorem gX6_init_X4_init_n11 : GoodIn wsX6_init (wsX4_init) := ggX6_init_X4_init
set_option maxRecDepth 100000 in
theorem ggX6_init_X1_init : GoodIn wsX6_init wsX1_init := goodIn_r _ [40, 41, 2, 3, 42, 37, 43, 44, 45, 46, 47, 102, 103, 104, 105, 106] rfl (by decide +kernel)
set_option maxRecDepth 100000 in
theorem gX6_init_X1_init_n14 : GoodIn wsX6_init (wsX1_init) := ggX6_init_X1_init
set_option maxRecDepth 100000 in
theorem ggX6_init_X5_init : GoodIn wsX6_init wsX5_init := goodIn_r _ [50, 51, 2, 3, 37, 52, 53, 54, 55, 56, 57, 107, 108, 109, 110, 111] rfl (by decide +kernel)
set_option maxRecDepth 100000 in
theorem gX6_init_X5_init : GoodIn wsX6_init (wsX5_init) := ggX6_init_X5_init
set_option maxRecDepth 100000 in
theorem ggX6_init_X3_init : GoodIn wsX6_init wsX3_init := goodIn_r _ [59, 60, 2, 3, 61, 62, 63, 37, 64, 65, 66, 67, 112, 113, 114, 115, 116, 117, 118] rfl (by decide +kernel)
set_option maxRecDepth 100000 in
theorem gX6_init_X3_init_n22 : GoodIn wsX6_init (wsX3_init) := ggX6_init_X3_init
set_option maxRecDepth 100000 in
theorem ggX6_init_X2_init : GoodIn wsX6_init wsX2_init := goodIn_r _ [70, 71, 2, 3, 37, 72, 73, 74, 75, 76, 77, 78, 79, 80, 125, 126, 127, 128, 129, 130, 131, 132, 133] rfl (by decide +kernel)
set_option maxRecDepth 100000 in
theorem gX6_init_X2_init : GoodIn wsX6_init (wsX2_init) := ggX6_init_X2_init
set_option maxRecDepth 100000 in
theorem ggX6_init_X0_init : GoodIn wsX6_init wsX0_init := goodIn_r _ [83, 84, 2, 3, 37, 85, 86, 87, 88, 89, 90, 91, 92, 93, 94, 134, 135, 136, 137, 138, 139, 140, 141, 142, 143] rfl (by decide +kernel)
set_option maxRecDepth 100000 in
theorem gX6_init_X0_init : GoodIn wsX6_init (wsX0_init) := ggX6_init_X0_init
theorem dX6_init_0 : decode cX6_init 0 = .ok (.aload_n 0, 1) := by decide +kernel
theorem dX6_init_1 : decode cX6_init 1 = .ok (.invokespecial 3, 3) := by decide +kernel
theorem dX6_init_4 : decode cX6_init 4 = .ok (.new 9, 3) := by decide +kernel
theorem dX6_init_7 : decode cX6_init 7 = .ok (.dup, 1) := by decide +kernel
theorem dX6_init_8 : decode cX6_init 8 = .ok (.invokespecial 11, 3) := by decide +kernel
theorem dX6_init_11 : decode cX6_init 11 = .ok (.astore_n 1, 1) := by decide +kernel
theorem dX6_init_12 : decode cX6_init 12 = .ok (.new 12, 3) := by decide +kernel
theorem dX6_init_15 : decode cX6_init 15 = .ok (.dup, 1) := by decide +kernel
theorem dX6_init_16 : decode cX6_init 16 = .ok (.invokespecial 14, 3) := by decide +kernel
theorem dX6_init_19 : decode cX6_init 19 = .ok (.astore_n 2, 1) := by decide +kernel
theorem dX6_init_20 : decode cX6_init 20 = .ok (.new 15, 3) := by decide +kernel
theorem dX6_init_23 : decode cX6_init 23 = .ok (.dup, 1) := by decide +kernel
theorem dX6_init_24 : decode cX6_init 24 = .ok (.aload_n 1, 1) := by decide +kernel
theorem dX6_init_25 : decode cX6_init 25 = .ok (.aload_n 2, 1) := by decide +kernel
theorem dX6_init_26 : decode cX6_init 26 = .ok (.invokespecial 17, 3) := by decide +kernel
theorem dX6_init_29 : decode cX6_init 29 = .ok (.astore_n 3, 1) := by decide +kernel
theorem dX6_init_30 : decode cX6_init 30 = .ok (.new 20, 3) := by decide +kernel
theorem dX6_init_33 : decode cX6_init 33 = .ok (.dup, 1) := by decide +kernel
theorem dX6_init_34 : decode cX6_init 34 = .ok (.invokespecial 22, 3) := by decide +kernel
theorem dX6_init_37 : decode cX6_init 37 = .ok (.astore 4, 2) := by decide +kernel
theorem dX6_init_39 : decode cX6_init 39 = .ok (.aload_n 0, 1) := by decide +kernel
theorem dX6_init_40 : decode cX6_init 40 = .ok (.aload_n 1, 1) := by decide +kernel
theorem dX6_init_41 : decode cX6_init 41 = .ok (.putfield 23, 3) := by decide +kernel
theorem dX6_init_44 : decode cX6_init 44 = .ok (.aload_n 0, 1) := by decide +kernel
theorem dX6_init_45 : decode cX6_init 45 = .ok (.aload_n 2, 1) := by decide +kernel
theorem dX6_init_46 : decode cX6_init 46 = .ok (.putfield 27, 3) := by decide +kernel
theorem dX6_init_49 : decode cX6_init 49 = .ok (.aload_n 0, 1) := by decide +kernel
theorem dX6_init_50 : decode cX6_init 50 = .ok (.aload_n 3, 1) := by decide +kernel
theorem dX6_init_51 : decode cX6_init 51 = .ok (.putfield 31, 3) := by decide +kernel
theorem dX6_init_54 : decode cX6_init 54 = .ok (.aload_n 0, 1) := by decide +kernel
theorem dX6_init_55 : decode cX6_init 55 = .ok (.new 35, 3) := by decide +kernel
theorem dX6_init_58 : decode cX6_init 58 = .ok (.dup, 1) := by decide +kernel
theorem dX6_init_59 : decode cX6_init 59 = .ok (.aload_n 1, 1) := by decide +kernel
theorem dX6_init_60 : decode cX6_init 60 = .ok (.aload_n 2, 1) := by decide +kernel
theorem dX6_init_61 : decode cX6_init 61 = .ok (.aload_n 3, 1) := by decide +kernel
theorem dX6_init_62 : decode cX6_init 62 = .ok (.invokespecial 37, 3) := by decide +kernel
theorem dX6_init_65 : decode cX6_init 65 = .ok (.putfield 40, 3) := by decide +kernel
theorem dX6_init_68 : decode cX6_init 68 = .ok (.aload_n 0, 1) := by decide +kernel
theorem dX6_init_69 : decode cX6_init 69 = .ok (.aload 4, 2) := by decide +kernel
theorem dX6_init_71 : decode cX6_init 71 = .ok (.putfield 44, 3) := by decide +kernel
theorem dX6_init_74 : decode cX6_init 74 = .ok (.aload_n 0, 1) := by decide +kernel
theorem dX6_init_75 : decode cX6_init 75 = .ok (.new 48, 3) := by decide +kernel
theorem dX6_init_78 : decode cX6_init 78 = .ok (.dup, 1) := by decide +kernel
theorem dX6_init_79 : decode cX6_init 79 = .ok (.aload 4, 2) := by decide +kernel
theorem dX6_init_81 : decode cX6_init 81 = .ok (.invokespecial 50, 3) := by decide +kernel
theorem dX6_init_84 : decode cX6_init 84 = .ok (.putfield 53, 3) := by decide +kernel
theorem dX6_init_87 : decode cX6_init 87 = .ok (.return_, 1) := by decide +kernel
set_option maxRecDepth 100000 in
theorem ggX6_plate_X6_within : GoodIn wsX6_plate wsX6_within := goodIn_r _ [6] rfl (by decide +kernel)
set_option maxRecDepth 100000 in
theorem gX6_plate_X6_within : GoodIn wsX6_plate (va_wsS RX6 57 yX6_within wsX6_within) := goodIn_app (goodIn_of _ (by decide +kernel)) ggX6_plate_X6_within
set_option maxRecDepth 100000 in
theorem ggX6_plate_X4_become : GoodIn wsX6_plate wsX4_become := goodIn_r _ [11, 12, 13, 14, 15, 16, 17, 37, 38, 39, 40, 41, 42, 43] rfl (by decide +kernel)
set_option maxRecDepth 100000 in
theorem gX6_plate_X4_become : GoodIn wsX6_plate (wsV RX6 61 RX4 yX4_become wsX4_become) := goodIn_app (goodIn_of _ (by decide +kernel)) ggX6_plate_X4_become
set_option maxRecDepth 100000 in
theorem ggX6_plate_X2_forget : GoodIn wsX6_plate wsX2_forget := goodIn_r _ [22, 23, 24, 25, 26, 27, 28, 29, 30, 44, 45, 46, 47, 48, 49, 50, 51, 52, 53, 54, 55, 56, 57] rfl (by decide +kernel)
set_option maxRecDepth 100000 in
theorem gX6_plate_X2_forget : GoodIn wsX6_plate (wsV RX6 65 RX2 yX2_forget wsX2_forget) := goodIn_app (goodIn_of _ (by decide +kernel)) ggX6_plate_X2_forget
theorem dX6_plate_0 : decode cX6_plate 0 = .ok (.iload_n 1, 1) := by decide +kernel
theorem dX6_plate_1 : decode cX6_plate 1 = .ok (.iconst 1, 1) := by decide +kernel
theorem dX6_plate_2 : decode cX6_plate 2 = .ok (.bipush 16, 2) := by decide +kernel
theorem dX6_plate_4 : decode cX6_plate 4 = .ok (.invokestatic 57, 3) := by decide +kernel
theorem dX6_plate_7 : decode cX6_plate 7 = .ok (.ifCond .eq 42, 3) := by decide +kernel
theorem dX6_plate_10 : decode cX6_plate 10 = .ok (.iload_n 2, 1) := by decide +kernel
theorem dX6_plate_11 : decode cX6_plate 11 = .ok (.iconst 1, 1) := by decide +kernel
theorem dX6_plate_12 : decode cX6_plate 12 = .ok (.bipush 16, 2) := by decide +kernel
theorem dX6_plate_14 : decode cX6_plate 14 = .ok (.invokestatic 57, 3) := by decide +kernel
theorem dX6_plate_17 : decode cX6_plate 17 = .ok (.ifCond .eq 32, 3) := by decide +kernel
theorem dX6_plate_20 : decode cX6_plate 20 = .ok (.iload_n 3, 1) := by decide +kernel
theorem dX6_plate_21 : decode cX6_plate 21 = .ok (.iconst 0, 1) := by decide +kernel
theorem dX6_plate_22 : decode cX6_plate 22 = .ok (.iconst 2, 1) := by decide +kernel
theorem dX6_plate_23 : decode cX6_plate 23 = .ok (.invokestatic 57, 3) := by decide +kernel
theorem dX6_plate_26 : decode cX6_plate 26 = .ok (.ifCond .eq 23, 3) := by decide +kernel
theorem dX6_plate_29 : decode cX6_plate 29 = .ok (.iload 4, 2) := by decide +kernel
theorem dX6_plate_31 : decode cX6_plate 31 = .ok (.iconst 1, 1) := by decide +kernel
theorem dX6_plate_32 : decode cX6_plate 32 = .ok (.iconst 4, 1) := by decide +kernel
theorem dX6_plate_33 : decode cX6_plate 33 = .ok (.invokestatic 57, 3) := by decide +kernel
theorem dX6_plate_36 : decode cX6_plate 36 = .ok (.ifCond .eq 13, 3) := by decide +kernel
theorem dX6_plate_39 : decode cX6_plate 39 = .ok (.iload 5, 2) := by decide +kernel
theorem dX6_plate_41 : decode cX6_plate 41 = .ok (.iconst 0, 1) := by decide +kernel
theorem dX6_plate_42 : decode cX6_plate 42 = .ok (.iconst 1, 1) := by decide +kernel
theorem dX6_plate_43 : decode cX6_plate 43 = .ok (.invokestatic 57, 3) := by decide +kernel
theorem dX6_plate_46 : decode cX6_plate 46 = .ok (.ifCond .ne 6, 3) := by decide +kernel
theorem dX6_plate_49 : decode cX6_plate 49 = .ok (.bipush (-3), 2) := by decide +kernel
theorem dX6_plate_51 : decode cX6_plate 51 = .ok (.ireturn, 1) := by decide +kernel
theorem dX6_plate_52 : decode cX6_plate 52 = .ok (.aload_n 0, 1) := by decide +kernel
theorem dX6_plate_53 : decode cX6_plate 53 = .ok (.getfield 23, 3) := by decide +kernel
theorem dX6_plate_56 : decode cX6_plate 56 = .ok (.iload_n 1, 1) := by decide +kernel
theorem dX6_plate_57 : decode cX6_plate 57 = .ok (.iload_n 2, 1) := by decide +kernel
theorem dX6_plate_58 : decode cX6_plate 58 = .ok (.iload_n 3, 1) := by decide +kernel
theorem dX6_plate_59 : decode cX6_plate 59 = .ok (.iload 4, 2) := by decide +kernel
theorem dX6_plate_61 : decode cX6_plate 61 = .ok (.iload 5, 2) := by decide +kernel
theorem dX6_plate_63 : decode cX6_plate 63 = .ok (.invokevirtual 61, 3) := by decide +kernel
theorem dX6_plate_66 : decode cX6_plate 66 = .ok (.aload_n 0, 1) := by decide +kernel
theorem dX6_plate_67 : decode cX6_plate 67 = .ok (.getfield 40, 3) := by decide +kernel
theorem dX6_plate_70 : decode cX6_plate 70 = .ok (.invokevirtual 65, 3) := by decide +kernel
theorem dX6_plate_73 : decode cX6_plate 73 = .ok (.iconst 1, 1) := by decide +kernel
theorem dX6_plate_74 : decode cX6_plate 74 = .ok (.ireturn, 1) := by decide +kernel
set_option maxRecDepth 100000 in
theorem ggX6_defect_X4_holds : GoodIn wsX6_defect wsX4_holds := goodIn_r _ [8, 9, 10, 11, 12, 13, 39, 40, 41, 42, 43, 44, 45] rfl (by decide +kernel)
set_option maxRecDepth 100000 in
theorem gX6_defect_X4_holds : GoodIn wsX6_defect (wsV RX6 68 RX4 yX4_holds wsX4_holds) := goodIn_app (goodIn_of _ (by decide +kernel)) ggX6_defect_X4_holds
set_option maxRecDepth 100000 in
theorem ggX6_defect_X4_spoil : GoodIn wsX6_defect wsX4_spoil := goodIn_r _ [17, 18, 19, 39, 40, 41, 42, 43, 44, 45] rfl (by decide +kernel)
set_option maxRecDepth 100000 in
theorem gX6_defect_X4_spoil : GoodIn wsX6_defect (wsV RX6 72 RX4 yX4_spoil wsX4_spoil) := goodIn_app (goodIn_of _ (by decide +kernel)) ggX6_defect_X4_spoil
set_option maxRecDepth 100000 in
theorem ggX6_defect_X2_forget : GoodIn wsX6_defect wsX2_forget := goodIn_r _ [24, 25, 26, 27, 28, 29, 30, 31, 32, 46, 47, 48, 49, 50, 51, 52, 53, 54, 55, 56, 57, 58, 59] rfl (by decide +kernel)
set_option maxRecDepth 100000 in
theorem gX6_defect_X2_forget : GoodIn wsX6_defect (wsV RX6 65 RX2 yX2_forget wsX2_forget) := goodIn_app (goodIn_of _ (by decide +kernel)) ggX6_defect_X2_forget
theorem dX6_defect_0 : decode cX6_defect 0 = .ok (.aload_n 0, 1) := by decide +kernel
theorem dX6_defect_1 : decode cX6_defect 1 = .ok (.getfield 23, 3) := by decide +kernel
theorem dX6_defect_4 : decode cX6_defect 4 = .ok (.iload_n 1, 1) := by decide +kernel
theorem dX6_defect_5 : decode cX6_defect 5 = .ok (.iload_n 2, 1) := by decide +kernel
theorem dX6_defect_6 : decode cX6_defect 6 = .ok (.iload_n 3, 1) := by decide +kernel
theorem dX6_defect_7 : decode cX6_defect 7 = .ok (.iload 4, 2) := by decide +kernel
theorem dX6_defect_9 : decode cX6_defect 9 = .ok (.invokevirtual 68, 3) := by decide +kernel
theorem dX6_defect_12 : decode cX6_defect 12 = .ok (.ifCond .ne 6, 3) := by decide +kernel
theorem dX6_defect_15 : decode cX6_defect 15 = .ok (.bipush (-3), 2) := by decide +kernel
theorem dX6_defect_17 : decode cX6_defect 17 = .ok (.ireturn, 1) := by decide +kernel
theorem dX6_defect_18 : decode cX6_defect 18 = .ok (.aload_n 0, 1) := by decide +kernel
theorem dX6_defect_19 : decode cX6_defect 19 = .ok (.getfield 23, 3) := by decide +kernel
theorem dX6_defect_22 : decode cX6_defect 22 = .ok (.iload_n 1, 1) := by decide +kernel
theorem dX6_defect_23 : decode cX6_defect 23 = .ok (.iload_n 2, 1) := by decide +kernel
theorem dX6_defect_24 : decode cX6_defect 24 = .ok (.iload_n 3, 1) := by decide +kernel
theorem dX6_defect_25 : decode cX6_defect 25 = .ok (.iload 4, 2) := by decide +kernel
theorem dX6_defect_27 : decode cX6_defect 27 = .ok (.invokevirtual 72, 3) := by decide +kernel
theorem dX6_defect_30 : decode cX6_defect 30 = .ok (.ifCond .ne 6, 3) := by decide +kernel
theorem dX6_defect_33 : decode cX6_defect 33 = .ok (.bipush (-4), 2) := by decide +kernel
theorem dX6_defect_35 : decode cX6_defect 35 = .ok (.ireturn, 1) := by decide +kernel
theorem dX6_defect_36 : decode cX6_defect 36 = .ok (.aload_n 0, 1) := by decide +kernel
theorem dX6_defect_37 : decode cX6_defect 37 = .ok (.getfield 40, 3) := by decide +kernel
theorem dX6_defect_40 : decode cX6_defect 40 = .ok (.invokevirtual 65, 3) := by decide +kernel
theorem dX6_defect_43 : decode cX6_defect 43 = .ok (.aload_n 0, 1) := by decide +kernel
theorem dX6_defect_44 : decode cX6_defect 44 = .ok (.getfield 23, 3) := by decide +kernel
theorem dX6_defect_47 : decode cX6_defect 47 = .ok (.getfield 75, 3) := by decide +kernel
theorem dX6_defect_50 : decode cX6_defect 50 = .ok (.ireturn, 1) := by decide +kernel
set_option maxRecDepth 100000 in
theorem ggX6_kind_X6_within : GoodIn wsX6_kind wsX6_within := goodIn_r _ [6] rfl (by decide +kernel)
set_option maxRecDepth 100000 in
theorem gX6_kind_X6_within : GoodIn wsX6_kind (va_wsS RX6 57 yX6_within wsX6_within) := goodIn_app (goodIn_of _ (by decide +kernel)) ggX6_kind_X6_within
set_option maxRecDepth 100000 in
theorem ggX6_kind_X1_add : GoodIn wsX6_kind wsX1_add := goodIn_r _ [11, 12, 13, 14, 15, 16, 36, 37, 38, 39, 40] rfl (by decide +kernel)
set_option maxRecDepth 100000 in
theorem gX6_kind_X1_add : GoodIn wsX6_kind (wsV RX6 79 RX1 yX1_add wsX1_add) := goodIn_app (goodIn_of _ (by decide +kernel)) ggX6_kind_X1_add
set_option maxRecDepth 100000 in
theorem ggX6_kind_X2_forget : GoodIn wsX6_kind wsX2_forget := goodIn_r _ [21, 22, 23, 24, 25, 26, 27, 28, 29, 41, 42, 43, 44, 45, 46, 47, 48, 49, 50, 51, 52, 53, 54] rfl (by decide +kernel)
set_option maxRecDepth 100000 in
theorem gX6_kind_X2_forget : GoodIn wsX6_kind (wsV RX6 65 RX2 yX2_forget wsX2_forget) := goodIn_app (goodIn_of _ (by decide +kernel)) ggX6_kind_X2_forget
theorem dX6_kind_0 : decode cX6_kind 0 = .ok (.iload_n 1, 1) := by decide +kernel
theorem dX6_kind_1 : decode cX6_kind 1 = .ok (.iconst 1, 1) := by decide +kernel
theorem dX6_kind_2 : decode cX6_kind 2 = .ok (.bipush 16, 2) := by decide +kernel
theorem dX6_kind_4 : decode cX6_kind 4 = .ok (.invokestatic 57, 3) := by decide +kernel
theorem dX6_kind_7 : decode cX6_kind 7 = .ok (.ifCond .eq 24, 3) := by decide +kernel
theorem dX6_kind_10 : decode cX6_kind 10 = .ok (.iload_n 2, 1) := by decide +kernel
theorem dX6_kind_11 : decode cX6_kind 11 = .ok (.iconst 1, 1) := by decide +kernel
theorem dX6_kind_12 : decode cX6_kind 12 = .ok (.bipush 16, 2) := by decide +kernel
theorem dX6_kind_14 : decode cX6_kind 14 = .ok (.invokestatic 57, 3) := by decide +kernel
theorem dX6_kind_17 : decode cX6_kind 17 = .ok (.ifCond .eq 14, 3) := by decide +kernel
theorem dX6_kind_20 : decode cX6_kind 20 = .ok (.iload_n 3, 1) := by decide +kernel
theorem dX6_kind_21 : decode cX6_kind 21 = .ok (.iconst 1, 1) := by decide +kernel
theorem dX6_kind_22 : decode cX6_kind 22 = .ok (.sipush 1000, 3) := by decide +kernel
theorem dX6_kind_25 : decode cX6_kind 25 = .ok (.invokestatic 57, 3) := by decide +kernel
theorem dX6_kind_28 : decode cX6_kind 28 = .ok (.ifCond .ne 6, 3) := by decide +kernel
theorem dX6_kind_31 : decode cX6_kind 31 = .ok (.bipush (-3), 2) := by decide +kernel
theorem dX6_kind_33 : decode cX6_kind 33 = .ok (.ireturn, 1) := by decide +kernel
theorem dX6_kind_34 : decode cX6_kind 34 = .ok (.aload_n 0, 1) := by decide +kernel
theorem dX6_kind_35 : decode cX6_kind 35 = .ok (.getfield 27, 3) := by decide +kernel
theorem dX6_kind_38 : decode cX6_kind 38 = .ok (.iload_n 1, 1) := by decide +kernel
theorem dX6_kind_39 : decode cX6_kind 39 = .ok (.iload_n 2, 1) := by decide +kernel
theorem dX6_kind_40 : decode cX6_kind 40 = .ok (.iload_n 3, 1) := by decide +kernel
theorem dX6_kind_41 : decode cX6_kind 41 = .ok (.iload 4, 2) := by decide +kernel
theorem dX6_kind_43 : decode cX6_kind 43 = .ok (.invokevirtual 79, 3) := by decide +kernel
theorem dX6_kind_46 : decode cX6_kind 46 = .ok (.istore 5, 2) := by decide +kernel
theorem dX6_kind_48 : decode cX6_kind 48 = .ok (.iload 5, 2) := by decide +kernel
theorem dX6_kind_50 : decode cX6_kind 50 = .ok (.bipush (-4), 2) := by decide +kernel
theorem dX6_kind_52 : decode cX6_kind 52 = .ok (.if_icmp .eq 10, 3) := by decide +kernel
theorem dX6_kind_55 : decode cX6_kind 55 = .ok (.aload_n 0, 1) := by decide +kernel
theorem dX6_kind_56 : decode cX6_kind 56 = .ok (.getfield 40, 3) := by decide +kernel
theorem dX6_kind_59 : decode cX6_kind 59 = .ok (.invokevirtual 65, 3) := by decide +kernel
theorem dX6_kind_62 : decode cX6_kind 62 = .ok (.iload 5, 2) := by decide +kernel
theorem dX6_kind_64 : decode cX6_kind 64 = .ok (.ireturn, 1) := by decide +kernel
set_option maxRecDepth 100000 in
theorem ggX6_value_X6_within : GoodIn wsX6_value wsX6_within := goodIn_r _ [8] rfl (by decide +kernel)
set_option maxRecDepth 100000 in
theorem gX6_value_X6_within : GoodIn wsX6_value (va_wsS RX6 57 yX6_within wsX6_within) := goodIn_app (goodIn_of _ (by decide +kernel)) ggX6_value_X6_within
set_option maxRecDepth 100000 in
theorem ggX6_value_X2_forget : GoodIn wsX6_value wsX2_forget := goodIn_r _ [13, 14, 15, 16, 17, 18, 19, 20, 21, 33, 34, 35, 36, 37, 38, 39, 40, 41, 42, 43, 44, 45, 46] rfl (by decide +kernel)
set_option maxRecDepth 100000 in
theorem gX6_value_X2_forget : GoodIn wsX6_value (wsV RX6 65 RX2 yX2_forget wsX2_forget) := goodIn_app (goodIn_of _ (by decide +kernel)) ggX6_value_X2_forget
theorem dX6_value_0 : decode cX6_value 0 = .ok (.iload_n 1, 1) := by decide +kernel
theorem dX6_value_1 : decode cX6_value 1 = .ok (.iconst 0, 1) := by decide +kernel
theorem dX6_value_2 : decode cX6_value 2 = .ok (.aload_n 0, 1) := by decide +kernel
theorem dX6_value_3 : decode cX6_value 3 = .ok (.getfield 27, 3) := by decide +kernel
theorem dX6_value_6 : decode cX6_value 6 = .ok (.getfield 83, 3) := by decide +kernel
theorem dX6_value_9 : decode cX6_value 9 = .ok (.iconst 1, 1) := by decide +kernel
theorem dX6_value_10 : decode cX6_value 10 = .ok (.isub, 1) := by decide +kernel
theorem dX6_value_11 : decode cX6_value 11 = .ok (.invokestatic 57, 3) := by decide +kernel
theorem dX6_value_14 : decode cX6_value 14 = .ok (.ifCond .ne 6, 3) := by decide +kernel
theorem dX6_value_17 : decode cX6_value 17 = .ok (.bipush (-2), 2) := by decide +kernel
theorem dX6_value_19 : decode cX6_value 19 = .ok (.ireturn, 1) := by decide +kernel
theorem dX6_value_20 : decode cX6_value 20 = .ok (.iload_n 2, 1) := by decide +kernel
theorem dX6_value_21 : decode cX6_value 21 = .ok (.iconst 1, 1) := by decide +kernel
theorem dX6_value_22 : decode cX6_value 22 = .ok (.sipush 1000, 3) := by decide +kernel
theorem dX6_value_25 : decode cX6_value 25 = .ok (.invokestatic 57, 3) := by decide +kernel
theorem dX6_value_28 : decode cX6_value 28 = .ok (.ifCond .ne 6, 3) := by decide +kernel
theorem dX6_value_31 : decode cX6_value 31 = .ok (.bipush (-3), 2) := by decide +kernel
theorem dX6_value_33 : decode cX6_value 33 = .ok (.ireturn, 1) := by decide +kernel
theorem dX6_value_34 : decode cX6_value 34 = .ok (.aload_n 0, 1) := by decide +kernel
theorem dX6_value_35 : decode cX6_value 35 = .ok (.getfield 27, 3) := by decide +kernel
theorem dX6_value_38 : decode cX6_value 38 = .ok (.getfield 86, 3) := by decide +kernel
theorem dX6_value_41 : decode cX6_value 41 = .ok (.iload_n 1, 1) := by decide +kernel
theorem dX6_value_42 : decode cX6_value 42 = .ok (.iaload, 1) := by decide +kernel
theorem dX6_value_43 : decode cX6_value 43 = .ok (.istore_n 3, 1) := by decide +kernel
