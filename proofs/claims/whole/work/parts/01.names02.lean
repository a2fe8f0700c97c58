theorem dX1_liesTurned_25 : decode cX1_liesTurned 25 = .ok (.iload_n 2, 1) := by decide +kernel
theorem dX1_liesTurned_26 : decode cX1_liesTurned 26 = .ok (.if_icmp .ne 7, 3) := by decide +kernel
theorem dX1_liesTurned_29 : decode cX1_liesTurned 29 = .ok (.iconst 1, 1) := by decide +kernel
theorem dX1_liesTurned_30 : decode cX1_liesTurned 30 = .ok (.goto 4, 3) := by decide +kernel
theorem dX1_liesTurned_33 : decode cX1_liesTurned 33 = .ok (.iconst 0, 1) := by decide +kernel
theorem dX1_liesTurned_34 : decode cX1_liesTurned 34 = .ok (.ireturn, 1) := by decide +kernel
set_option maxRecDepth 100000 in
theorem ggX1_mostValue_X1_lies : GoodIn wsX1_mostValue wsX1_lies := goodIn_r _ [11, 12, 13, 19, 20, 21, 22, 23] rfl (by decide +kernel)
set_option maxRecDepth 100000 in
theorem gX1_mostValue_X1_lies : GoodIn wsX1_mostValue (wsV RX1 29 RX1 yX1_lies wsX1_lies) := goodIn_app (goodIn_of _ (by decide +kernel)) ggX1_mostValue_X1_lies
set_option maxRecDepth 100000 in
theorem ggX1_mostValue_X1_liesTurned : GoodIn wsX1_mostValue wsX1_liesTurned := goodIn_r _ [17, 18, 12, 13, 19, 20, 21, 22, 23] rfl (by decide +kernel)
set_option maxRecDepth 100000 in
theorem gX1_mostValue_X1_liesTurned : GoodIn wsX1_mostValue (wsV RX1 33 RX1 yX1_liesTurned wsX1_liesTurned) := goodIn_app (goodIn_of _ (by decide +kernel)) ggX1_mostValue_X1_liesTurned
theorem dX1_mostValue_0 : decode cX1_mostValue 0 = .ok (.iconst 0, 1) := by decide +kernel
theorem dX1_mostValue_1 : decode cX1_mostValue 1 = .ok (.istore_n 3, 1) := by decide +kernel
theorem dX1_mostValue_2 : decode cX1_mostValue 2 = .ok (.iconst 0, 1) := by decide +kernel
theorem dX1_mostValue_3 : decode cX1_mostValue 3 = .ok (.istore 4, 2) := by decide +kernel
theorem dX1_mostValue_5 : decode cX1_mostValue 5 = .ok (.iload 4, 2) := by decide +kernel
theorem dX1_mostValue_7 : decode cX1_mostValue 7 = .ok (.aload_n 0, 1) := by decide +kernel
theorem dX1_mostValue_8 : decode cX1_mostValue 8 = .ok (.getfield 9, 3) := by decide +kernel
theorem dX1_mostValue_11 : decode cX1_mostValue 11 = .ok (.if_icmp .ge 50, 3) := by decide +kernel
theorem dX1_mostValue_14 : decode cX1_mostValue 14 = .ok (.iload 4, 2) := by decide +kernel
theorem dX1_mostValue_16 : decode cX1_mostValue 16 = .ok (.bipush 8, 2) := by decide +kernel
theorem dX1_mostValue_18 : decode cX1_mostValue 18 = .ok (.if_icmp .ge 43, 3) := by decide +kernel
theorem dX1_mostValue_21 : decode cX1_mostValue 21 = .ok (.aload_n 0, 1) := by decide +kernel
theorem dX1_mostValue_22 : decode cX1_mostValue 22 = .ok (.iload 4, 2) := by decide +kernel
theorem dX1_mostValue_24 : decode cX1_mostValue 24 = .ok (.iload_n 1, 1) := by decide +kernel
theorem dX1_mostValue_25 : decode cX1_mostValue 25 = .ok (.iload_n 2, 1) := by decide +kernel
theorem dX1_mostValue_26 : decode cX1_mostValue 26 = .ok (.invokevirtual 29, 3) := by decide +kernel
theorem dX1_mostValue_29 : decode cX1_mostValue 29 = .ok (.ifCond .ne 14, 3) := by decide +kernel
theorem dX1_mostValue_32 : decode cX1_mostValue 32 = .ok (.aload_n 0, 1) := by decide +kernel
theorem dX1_mostValue_33 : decode cX1_mostValue 33 = .ok (.iload 4, 2) := by decide +kernel
theorem dX1_mostValue_35 : decode cX1_mostValue 35 = .ok (.iload_n 1, 1) := by decide +kernel
theorem dX1_mostValue_36 : decode cX1_mostValue 36 = .ok (.iload_n 2, 1) := by decide +kernel
theorem dX1_mostValue_37 : decode cX1_mostValue 37 = .ok (.invokevirtual 33, 3) := by decide +kernel
theorem dX1_mostValue_40 : decode cX1_mostValue 40 = .ok (.ifCond .eq 15, 3) := by decide +kernel
theorem dX1_mostValue_43 : decode cX1_mostValue 43 = .ok (.iload_n 3, 1) := by decide +kernel
theorem dX1_mostValue_44 : decode cX1_mostValue 44 = .ok (.aload_n 0, 1) := by decide +kernel
theorem dX1_mostValue_45 : decode cX1_mostValue 45 = .ok (.getfield 22, 3) := by decide +kernel
theorem dX1_mostValue_48 : decode cX1_mostValue 48 = .ok (.iload 4, 2) := by decide +kernel
theorem dX1_mostValue_50 : decode cX1_mostValue 50 = .ok (.iaload, 1) := by decide +kernel
theorem dX1_mostValue_51 : decode cX1_mostValue 51 = .ok (.invokestatic 36, 3) := by decide +kernel
theorem dX1_mostValue_54 : decode cX1_mostValue 54 = .ok (.istore_n 3, 1) := by decide +kernel
theorem dX1_mostValue_55 : decode cX1_mostValue 55 = .ok (.iinc 4 1, 3) := by decide +kernel
theorem dX1_mostValue_58 : decode cX1_mostValue 58 = .ok (.goto (-53), 3) := by decide +kernel
theorem dX1_mostValue_61 : decode cX1_mostValue 61 = .ok (.iload_n 3, 1) := by decide +kernel
theorem dX1_mostValue_62 : decode cX1_mostValue 62 = .ok (.ireturn, 1) := by decide +kernel
set_option maxRecDepth 100000 in
theorem ggX1_firstOfValue_X1_lies : GoodIn wsX1_firstOfValue wsX1_lies := goodIn_r _ [7, 8, 9, 15, 16, 17, 18, 19] rfl (by decide +kernel)
set_option maxRecDepth 100000 in
theorem gX1_firstOfValue_X1_lies : GoodIn wsX1_firstOfValue (wsV RX1 29 RX1 yX1_lies wsX1_lies) := goodIn_app (goodIn_of _ (by decide +kernel)) ggX1_firstOfValue_X1_lies
set_option maxRecDepth 100000 in
theorem ggX1_firstOfValue_X1_liesTurned : GoodIn wsX1_firstOfValue wsX1_liesTurned := goodIn_r _ [13, 14, 8, 9, 15, 16, 17, 18, 19] rfl (by decide +kernel)
set_option maxRecDepth 100000 in
theorem gX1_firstOfValue_X1_liesTurned : GoodIn wsX1_firstOfValue (wsV RX1 33 RX1 yX1_liesTurned wsX1_liesTurned) := goodIn_app (goodIn_of _ (by decide +kernel)) ggX1_firstOfValue_X1_liesTurned
theorem dX1_firstOfValue_0 : decode cX1_firstOfValue 0 = .ok (.iconst 0, 1) := by decide +kernel
theorem dX1_firstOfValue_1 : decode cX1_firstOfValue 1 = .ok (.istore 4, 2) := by decide +kernel
theorem dX1_firstOfValue_3 : decode cX1_firstOfValue 3 = .ok (.iload 4, 2) := by decide +kernel
theorem dX1_firstOfValue_5 : decode cX1_firstOfValue 5 = .ok (.aload_n 0, 1) := by decide +kernel
theorem dX1_firstOfValue_6 : decode cX1_firstOfValue 6 = .ok (.getfield 9, 3) := by decide +kernel
theorem dX1_firstOfValue_9 : decode cX1_firstOfValue 9 = .ok (.if_icmp .ge 52, 3) := by decide +kernel
theorem dX1_firstOfValue_12 : decode cX1_firstOfValue 12 = .ok (.iload 4, 2) := by decide +kernel
theorem dX1_firstOfValue_14 : decode cX1_firstOfValue 14 = .ok (.bipush 8, 2) := by decide +kernel
theorem dX1_firstOfValue_16 : decode cX1_firstOfValue 16 = .ok (.if_icmp .ge 45, 3) := by decide +kernel
theorem dX1_firstOfValue_19 : decode cX1_firstOfValue 19 = .ok (.aload_n 0, 1) := by decide +kernel
theorem dX1_firstOfValue_20 : decode cX1_firstOfValue 20 = .ok (.getfield 22, 3) := by decide +kernel
theorem dX1_firstOfValue_23 : decode cX1_firstOfValue 23 = .ok (.iload 4, 2) := by decide +kernel
theorem dX1_firstOfValue_25 : decode cX1_firstOfValue 25 = .ok (.iaload, 1) := by decide +kernel
theorem dX1_firstOfValue_26 : decode cX1_firstOfValue 26 = .ok (.iload_n 3, 1) := by decide +kernel
theorem dX1_firstOfValue_27 : decode cX1_firstOfValue 27 = .ok (.if_icmp .ne 28, 3) := by decide +kernel
theorem dX1_firstOfValue_30 : decode cX1_firstOfValue 30 = .ok (.aload_n 0, 1) := by decide +kernel
theorem dX1_firstOfValue_31 : decode cX1_firstOfValue 31 = .ok (.iload 4, 2) := by decide +kernel
theorem dX1_firstOfValue_33 : decode cX1_firstOfValue 33 = .ok (.iload_n 1, 1) := by decide +kernel
theorem dX1_firstOfValue_34 : decode cX1_firstOfValue 34 = .ok (.iload_n 2, 1) := by decide +kernel
theorem dX1_firstOfValue_35 : decode cX1_firstOfValue 35 = .ok (.invokevirtual 29, 3) := by decide +kernel
theorem dX1_firstOfValue_38 : decode cX1_firstOfValue 38 = .ok (.ifCond .ne 14, 3) := by decide +kernel
theorem dX1_firstOfValue_41 : decode cX1_firstOfValue 41 = .ok (.aload_n 0, 1) := by decide +kernel
theorem dX1_firstOfValue_42 : decode cX1_firstOfValue 42 = .ok (.iload 4, 2) := by decide +kernel
theorem dX1_firstOfValue_44 : decode cX1_firstOfValue 44 = .ok (.iload_n 1, 1) := by decide +kernel
theorem dX1_firstOfValue_45 : decode cX1_firstOfValue 45 = .ok (.iload_n 2, 1) := by decide +kernel
theorem dX1_firstOfValue_46 : decode cX1_firstOfValue 46 = .ok (.invokevirtual 33, 3) := by decide +kernel
theorem dX1_firstOfValue_49 : decode cX1_firstOfValue 49 = .ok (.ifCond .eq 6, 3) := by decide +kernel
theorem dX1_firstOfValue_52 : decode cX1_firstOfValue 52 = .ok (.iload 4, 2) := by decide +kernel
theorem dX1_firstOfValue_54 : decode cX1_firstOfValue 54 = .ok (.ireturn, 1) := by decide +kernel
theorem dX1_firstOfValue_55 : decode cX1_firstOfValue 55 = .ok (.iinc 4 1, 3) := by decide +kernel
theorem dX1_firstOfValue_58 : decode cX1_firstOfValue 58 = .ok (.goto (-55), 3) := by decide +kernel
theorem dX1_firstOfValue_61 : decode cX1_firstOfValue 61 = .ok (.iconst (-1), 1) := by decide +kernel
theorem dX1_firstOfValue_62 : decode cX1_firstOfValue 62 = .ok (.ireturn, 1) := by decide +kernel
theorem dX2_init_0 : decode cX2_init 0 = .ok (.aload_n 0, 1) := by decide +kernel
theorem dX2_init_1 : decode cX2_init 1 = .ok (.invokespecial 5, 3) := by decide +kernel
theorem dX2_init_4 : decode cX2_init 4 = .ok (.aload_n 0, 1) := by decide +kernel
theorem dX2_init_5 : decode cX2_init 5 = .ok (.sipush 1536, 3) := by decide +kernel
theorem dX2_init_8 : decode cX2_init 8 = .ok (.newarray .int, 2) := by decide +kernel
theorem dX2_init_10 : decode cX2_init 10 = .ok (.putfield 11, 3) := by decide +kernel
theorem dX2_init_13 : decode cX2_init 13 = .ok (.aload_n 0, 1) := by decide +kernel
theorem dX2_init_14 : decode cX2_init 14 = .ok (.sipush 1785, 3) := by decide +kernel
theorem dX2_init_17 : decode cX2_init 17 = .ok (.newarray .int, 2) := by decide +kernel
theorem dX2_init_19 : decode cX2_init 19 = .ok (.putfield 15, 3) := by decide +kernel
theorem dX2_init_22 : decode cX2_init 22 = .ok (.aload_n 0, 1) := by decide +kernel
theorem dX2_init_23 : decode cX2_init 23 = .ok (.iconst 0, 1) := by decide +kernel
theorem dX2_init_24 : decode cX2_init 24 = .ok (.putfield 18, 3) := by decide +kernel
theorem dX2_init_27 : decode cX2_init 27 = .ok (.aload_n 0, 1) := by decide +kernel
theorem dX2_init_28 : decode cX2_init 28 = .ok (.iconst 0, 1) := by decide +kernel
theorem dX2_init_29 : decode cX2_init 29 = .ok (.putfield 22, 3) := by decide +kernel
theorem dX2_init_32 : decode cX2_init 32 = .ok (.aload_n 0, 1) := by decide +kernel
theorem dX2_init_33 : decode cX2_init 33 = .ok (.iconst 0, 1) := by decide +kernel
theorem dX2_init_34 : decode cX2_init 34 = .ok (.putfield 25, 3) := by decide +kernel
theorem dX2_init_37 : decode cX2_init 37 = .ok (.aload_n 0, 1) := by decide +kernel
theorem dX2_init_38 : decode cX2_init 38 = .ok (.iconst 1, 1) := by decide +kernel
theorem dX2_init_39 : decode cX2_init 39 = .ok (.putfield 28, 3) := by decide +kernel
theorem dX2_init_42 : decode cX2_init 42 = .ok (.aload_n 0, 1) := by decide +kernel
theorem dX2_init_43 : decode cX2_init 43 = .ok (.aload_n 1, 1) := by decide +kernel
theorem dX2_init_44 : decode cX2_init 44 = .ok (.putfield 32, 3) := by decide +kernel
theorem dX2_init_47 : decode cX2_init 47 = .ok (.aload_n 0, 1) := by decide +kernel
theorem dX2_init_48 : decode cX2_init 48 = .ok (.aload_n 2, 1) := by decide +kernel
theorem dX2_init_49 : decode cX2_init 49 = .ok (.putfield 36, 3) := by decide +kernel
theorem dX2_init_52 : decode cX2_init 52 = .ok (.aload_n 0, 1) := by decide +kernel
theorem dX2_init_53 : decode cX2_init 53 = .ok (.aload_n 3, 1) := by decide +kernel
theorem dX2_init_54 : decode cX2_init 54 = .ok (.putfield 40, 3) := by decide +kernel
theorem dX2_init_57 : decode cX2_init 57 = .ok (.return_, 1) := by decide +kernel
set_option maxRecDepth 100000 in
theorem ggX2_forget_X5_forget : GoodIn wsX2_forget wsX5_forget := goodIn_r _ [7, 8, 18, 19, 20, 21, 22] rfl (by decide +kernel)
set_option maxRecDepth 100000 in
theorem gX2_forget_X5_forget : GoodIn wsX2_forget (wsV RX2 44 RX5 yX5_forget wsX5_forget) := goodIn_app (goodIn_of _ (by decide +kernel)) ggX2_forget_X5_forget
theorem dX2_forget_0 : decode cX2_forget 0 = .ok (.aload_n 0, 1) := by decide +kernel
theorem dX2_forget_1 : decode cX2_forget 1 = .ok (.iconst 1, 1) := by decide +kernel
theorem dX2_forget_2 : decode cX2_forget 2 = .ok (.putfield 28, 3) := by decide +kernel
theorem dX2_forget_5 : decode cX2_forget 5 = .ok (.aload_n 0, 1) := by decide +kernel
theorem dX2_forget_6 : decode cX2_forget 6 = .ok (.getfield 40, 3) := by decide +kernel
theorem dX2_forget_9 : decode cX2_forget 9 = .ok (.invokevirtual 44, 3) := by decide +kernel
theorem dX2_forget_12 : decode cX2_forget 12 = .ok (.return_, 1) := by decide +kernel
set_option maxRecDepth 100000 in
theorem ggX2_makeReady_X5_makeReady : GoodIn wsX2_makeReady wsX5_makeReady := goodIn_r _ [13, 14, 15, 16, 17, 18, 19, 12, 20, 21, 22, 23, 24, 25, 26, 27, 28, 29, 30, 31, 32, 33, 34, 35, 36, 37, 38, 39, 40, 41, 42, 43, 44, 45, 46, 47, 48, 49, 50, 51, 52, 53, 54, 55, 56, 57, 58, 59, 60, 61, 62, 63, 64, 65, 66, 67, 68, 69, 70, 71, 72, 73, 74, 75, 76, 77, 78, 79, 80, 81, 82, 83, 84, 85, 86, 87, 88, 89, 90, 91, 92, 93, 94, 95, 96, 97, 98, 99, 100, 155, 156, 157, 158, 159, 148, 149, 150, 151, 152, 153, 154, 160, 161, 162, 163, 164] rfl (by decide +kernel)
set_option maxRecDepth 100000 in
theorem gX2_makeReady_X5_makeReady : GoodIn wsX2_makeReady (wsV RX2 49 RX5 yX5_makeReady wsX5_makeReady) := goodIn_app (goodIn_of _ (by decide +kernel)) ggX2_makeReady_X5_makeReady
set_option maxRecDepth 100000 in
theorem ggX2_makeReady_X2_lay : GoodIn wsX2_makeReady wsX2_lay := goodIn_r _ [105, 2, 5, 106, 107, 108, 109, 110, 12, 111, 15, 16, 84, 60, 61, 62, 63, 21, 24, 25, 26, 27, 28, 29, 30, 91, 92, 93, 94, 95, 96, 112, 86, 87, 67, 88, 89, 90, 113, 114, 115, 44, 116, 46, 47, 49, 50, 51, 52, 53, 54, 55, 56, 57, 58, 59, 117, 118, 119, 104, 120, 3, 121, 8, 122, 123, 124, 125, 126, 127, 128, 65, 66, 68, 69, 70, 71, 72, 73, 74, 129, 130, 131, 132, 133, 4, 134, 135, 136, 137, 101, 102, 103, 138, 139, 140, 141, 142, 143, 144, 145, 146, 147, 148, 149, 150, 151, 152, 153, 154, 155, 156, 157, 158, 159, 160, 161, 162, 163, 164] rfl (by decide +kernel)
set_option maxRecDepth 100000 in
theorem gX2_makeReady_X2_lay : GoodIn wsX2_makeReady (wsV RX2 60 RX2 yX2_lay wsX2_lay) := goodIn_app (goodIn_of _ (by decide +kernel)) ggX2_makeReady_X2_lay
theorem dX2_makeReady_0 : decode cX2_makeReady 0 = .ok (.aload_n 0, 1) := by decide +kernel
theorem dX2_makeReady_1 : decode cX2_makeReady 1 = .ok (.getfield 28, 3) := by decide +kernel
theorem dX2_makeReady_4 : decode cX2_makeReady 4 = .ok (.ifCond .ne 4, 3) := by decide +kernel
theorem dX2_makeReady_7 : decode cX2_makeReady 7 = .ok (.return_, 1) := by decide +kernel
theorem dX2_makeReady_8 : decode cX2_makeReady 8 = .ok (.aload_n 0, 1) := by decide +kernel
theorem dX2_makeReady_9 : decode cX2_makeReady 9 = .ok (.getfield 40, 3) := by decide +kernel
theorem dX2_makeReady_12 : decode cX2_makeReady 12 = .ok (.invokevirtual 49, 3) := by decide +kernel
theorem dX2_makeReady_15 : decode cX2_makeReady 15 = .ok (.aload_n 0, 1) := by decide +kernel
theorem dX2_makeReady_16 : decode cX2_makeReady 16 = .ok (.iconst 0, 1) := by decide +kernel
theorem dX2_makeReady_17 : decode cX2_makeReady 17 = .ok (.putfield 18, 3) := by decide +kernel
theorem dX2_makeReady_20 : decode cX2_makeReady 20 = .ok (.aload_n 0, 1) := by decide +kernel
theorem dX2_makeReady_21 : decode cX2_makeReady 21 = .ok (.iconst 0, 1) := by decide +kernel
theorem dX2_makeReady_22 : decode cX2_makeReady 22 = .ok (.putfield 22, 3) := by decide +kernel
theorem dX2_makeReady_25 : decode cX2_makeReady 25 = .ok (.aload_n 0, 1) := by decide +kernel
theorem dX2_makeReady_26 : decode cX2_makeReady 26 = .ok (.aload_n 0, 1) := by decide +kernel
theorem dX2_makeReady_27 : decode cX2_makeReady 27 = .ok (.getfield 32, 3) := by decide +kernel
theorem dX2_makeReady_30 : decode cX2_makeReady 30 = .ok (.getfield 52, 3) := by decide +kernel
theorem dX2_makeReady_33 : decode cX2_makeReady 33 = .ok (.aload_n 0, 1) := by decide +kernel
theorem dX2_makeReady_34 : decode cX2_makeReady 34 = .ok (.getfield 32, 3) := by decide +kernel
theorem dX2_makeReady_37 : decode cX2_makeReady 37 = .ok (.getfield 57, 3) := by decide +kernel
theorem dX2_makeReady_40 : decode cX2_makeReady 40 = .ok (.imul, 1) := by decide +kernel
theorem dX2_makeReady_41 : decode cX2_makeReady 41 = .ok (.putfield 25, 3) := by decide +kernel
theorem dX2_makeReady_44 : decode cX2_makeReady 44 = .ok (.aload_n 0, 1) := by decide +kernel
theorem dX2_makeReady_45 : decode cX2_makeReady 45 = .ok (.iconst 0, 1) := by decide +kernel
theorem dX2_makeReady_46 : decode cX2_makeReady 46 = .ok (.iconst 0, 1) := by decide +kernel
theorem dX2_makeReady_47 : decode cX2_makeReady 47 = .ok (.aload_n 0, 1) := by decide +kernel
theorem dX2_makeReady_48 : decode cX2_makeReady 48 = .ok (.getfield 32, 3) := by decide +kernel
theorem dX2_makeReady_51 : decode cX2_makeReady 51 = .ok (.getfield 52, 3) := by decide +kernel
theorem dX2_makeReady_54 : decode cX2_makeReady 54 = .ok (.aload_n 0, 1) := by decide +kernel
theorem dX2_makeReady_55 : decode cX2_makeReady 55 = .ok (.getfield 32, 3) := by decide +kernel
theorem dX2_makeReady_58 : decode cX2_makeReady 58 = .ok (.getfield 57, 3) := by decide +kernel
theorem dX2_makeReady_61 : decode cX2_makeReady 61 = .ok (.iconst 1, 1) := by decide +kernel
theorem dX2_makeReady_62 : decode cX2_makeReady 62 = .ok (.iconst 1, 1) := by decide +kernel
theorem dX2_makeReady_63 : decode cX2_makeReady 63 = .ok (.invokevirtual 60, 3) := by decide +kernel
theorem dX2_makeReady_66 : decode cX2_makeReady 66 = .ok (.aload_n 0, 1) := by decide +kernel
theorem dX2_makeReady_67 : decode cX2_makeReady 67 = .ok (.iconst 0, 1) := by decide +kernel
theorem dX2_makeReady_68 : decode cX2_makeReady 68 = .ok (.putfield 28, 3) := by decide +kernel
theorem dX2_makeReady_71 : decode cX2_makeReady 71 = .ok (.return_, 1) := by decide +kernel
set_option maxRecDepth 100000 in
theorem ggX2_lay_X5_of : GoodIn wsX2_lay wsX5_of := goodIn_r _ [9, 10, 11, 12, 13, 14, 15, 8, 16, 17, 18, 19, 20, 21, 22, 23, 24, 25, 26, 27, 28, 29, 30, 110, 111, 112, 113, 114, 103, 104, 105, 106, 107, 108, 109] rfl (by decide +kernel)
set_option maxRecDepth 100000 in
theorem gX2_lay_X5_of : GoodIn wsX2_lay (wsV RX2 64 RX5 yX5_of wsX5_of) := goodIn_app (goodIn_of _ (by decide +kernel)) ggX2_lay_X5_of
set_option maxRecDepth 100000 in
theorem ggX2_lay_X4_isClean : GoodIn wsX2_lay wsX4_isClean := goodIn_r _ [35, 36, 37, 103, 104, 105, 106, 107, 108, 109] rfl (by decide +kernel)
set_option maxRecDepth 100000 in
theorem gX2_lay_X4_isClean : GoodIn wsX2_lay (wsV RX2 68 RX4 yX4_isClean wsX4_isClean) := goodIn_app (goodIn_of _ (by decide +kernel)) ggX2_lay_X4_isClean
set_option maxRecDepth 100000 in
theorem ggX2_lay_X1_firstOfValue : GoodIn wsX2_lay wsX1_firstOfValue := goodIn_r _ [42, 43, 44, 45, 46, 47, 41, 48, 49, 50, 51, 52, 53, 54, 55, 115, 116, 117, 118, 119] rfl (by decide +kernel)
set_option maxRecDepth 100000 in
theorem gX2_lay_X1_firstOfValue : GoodIn wsX2_lay (wsV RX2 72 RX1 yX1_firstOfValue wsX1_firstOfValue) := goodIn_app (goodIn_of _ (by decide +kernel)) ggX2_lay_X1_firstOfValue
set_option maxRecDepth 100000 in
theorem ggX2_lay_X2_addPiece : GoodIn wsX2_lay wsX2_addPiece := goodIn_r _ [60, 61, 62, 3, 63, 64, 46, 47, 41, 48, 49, 50, 94, 95, 96, 97, 98, 99, 100, 101, 102, 115, 116, 117, 118, 119] rfl (by decide +kernel)
set_option maxRecDepth 100000 in
theorem gX2_lay_X2_addPiece : GoodIn wsX2_lay (wsV RX2 78 RX2 yX2_addPiece wsX2_addPiece) := goodIn_app (goodIn_of _ (by decide +kernel)) ggX2_lay_X2_addPiece
set_option maxRecDepth 100000 in
theorem ggX2_lay_X2_firstCut : GoodIn wsX2_lay wsX2_firstCut := goodIn_r _ [68, 2, 69, 1, 70, 71, 72, 34, 73, 74, 75, 76, 77, 78, 79, 80, 5, 6, 7, 8, 9, 10, 11, 12, 13, 14, 15, 16, 17, 18, 19, 20, 21, 22, 23, 24, 25, 26, 27, 28, 29, 30, 94, 95, 96, 97, 98, 99, 100, 101, 102, 103, 104, 105, 106, 107, 108, 109, 110, 111, 112, 113, 114] rfl (by decide +kernel)
set_option maxRecDepth 100000 in
theorem gX2_lay_X2_firstCut : GoodIn wsX2_lay (wsV RX2 82 RX2 yX2_firstCut wsX2_firstCut) := goodIn_app (goodIn_of _ (by decide +kernel)) ggX2_lay_X2_firstCut
set_option maxRecDepth 100000 in
theorem ggX2_lay_X2_addCut : GoodIn wsX2_lay wsX2_addCut := goodIn_r _ [84, 85, 2, 86, 80, 76, 77, 34, 78, 79, 94, 95, 96, 97, 98, 99, 100, 101, 102, 103, 104, 105, 106, 107, 108, 109] rfl (by decide +kernel)
set_option maxRecDepth 100000 in
theorem gX2_lay_X2_addCut : GoodIn wsX2_lay (wsV RX2 86 RX2 yX2_addCut wsX2_addCut) := goodIn_app (goodIn_of _ (by decide +kernel)) ggX2_lay_X2_addCut
set_option maxRecDepth 100000 in
theorem ggX2_lay_X2_layBoth : GoodIn wsX2_lay wsX2_layBoth := goodIn_r _ [93, 2, 69, 80, 76, 77, 34, 78, 79, 90, 91, 92, 59, 0, 1, 3, 4, 5, 6, 7, 8, 9, 10, 11, 12, 13, 14, 15, 16, 17, 18, 19, 20, 21, 22, 23, 24, 25, 26, 27, 28, 29, 30, 31, 32, 33, 35, 36, 37, 38, 39, 40, 41, 42, 43, 44, 45, 46, 47, 48, 49, 50, 51, 52, 53, 54, 55, 56, 57, 58, 60, 61, 62, 63, 64, 65, 66, 67, 68, 70, 71, 72, 73, 74, 75, 81, 82, 83, 84, 85, 86, 87, 88, 89, 94, 95, 96, 97, 98, 99, 100, 101, 102, 103, 104, 105, 106, 107, 108, 109, 110, 111, 112, 113, 114, 115, 116, 117, 118, 119] rfl (by decide +kernel)
set_option maxRecDepth 100000 in
theorem gX2_lay_X2_layBoth : GoodIn wsX2_lay (wsV RX2 89 RX2 yX2_layBoth wsX2_layBoth) := goodIn_app (goodIn_of _ (by decide +kernel)) ggX2_lay_X2_layBoth
set_option maxRecDepth 100000 in
theorem ggX2_lay_X2_lay : GoodIn wsX2_lay wsX2_lay := goodIn_r _ [0, 1, 2, 3, 4, 5, 6, 7, 8, 9, 10, 11, 12, 13, 14, 15, 16, 17, 18, 19, 20, 21, 22, 23, 24, 25, 26, 27, 28, 29, 30, 31, 32, 33, 34, 35, 36, 37, 38, 39, 40, 41, 42, 43, 44, 45, 46, 47, 48, 49, 50, 51, 52, 53, 54, 55, 56, 57, 58, 59, 60, 61, 62, 63, 64, 65, 66, 67, 68, 69, 70, 71, 72, 73, 74, 75, 76, 77, 78, 79, 80, 81, 82, 83, 84, 85, 86, 87, 88, 89, 90, 91, 92, 93, 94, 95, 96, 97, 98, 99, 100, 101, 102, 103, 104, 105, 106, 107, 108, 109, 110, 111, 112, 113, 114, 115, 116, 117, 118, 119] rfl (by decide +kernel)
set_option maxRecDepth 100000 in
theorem gX2_lay_X2_lay : GoodIn wsX2_lay (wsV RX2 60 RX2 yX2_lay wsX2_lay) := goodIn_app (goodIn_of _ (by decide +kernel)) ggX2_lay_X2_lay
theorem dX2_lay_0 : decode cX2_lay 0 = .ok (.aload_n 0, 1) := by decide +kernel
theorem dX2_lay_1 : decode cX2_lay 1 = .ok (.getfield 40, 3) := by decide +kernel
theorem dX2_lay_4 : decode cX2_lay 4 = .ok (.iload_n 1, 1) := by decide +kernel
theorem dX2_lay_5 : decode cX2_lay 5 = .ok (.iload_n 2, 1) := by decide +kernel
theorem dX2_lay_6 : decode cX2_lay 6 = .ok (.iload_n 3, 1) := by decide +kernel
theorem dX2_lay_7 : decode cX2_lay 7 = .ok (.iload 4, 2) := by decide +kernel
theorem dX2_lay_9 : decode cX2_lay 9 = .ok (.iload 5, 2) := by decide +kernel
theorem dX2_lay_11 : decode cX2_lay 11 = .ok (.invokevirtual 64, 3) := by decide +kernel
theorem dX2_lay_14 : decode cX2_lay 14 = .ok (.istore 7, 2) := by decide +kernel
theorem dX2_lay_16 : decode cX2_lay 16 = .ok (.iload 7, 2) := by decide +kernel
theorem dX2_lay_18 : decode cX2_lay 18 = .ok (.ifCond .eq 10, 3) := by decide +kernel
theorem dX2_lay_21 : decode cX2_lay 21 = .ok (.iload 6, 2) := by decide +kernel
theorem dX2_lay_23 : decode cX2_lay 23 = .ok (.bipush 34, 2) := by decide +kernel
theorem dX2_lay_25 : decode cX2_lay 25 = .ok (.if_icmp .le 4, 3) := by decide +kernel
theorem dX2_lay_28 : decode cX2_lay 28 = .ok (.return_, 1) := by decide +kernel
theorem dX2_lay_29 : decode cX2_lay 29 = .ok (.aload_n 0, 1) := by decide +kernel
theorem dX2_lay_30 : decode cX2_lay 30 = .ok (.getfield 32, 3) := by decide +kernel
theorem dX2_lay_33 : decode cX2_lay 33 = .ok (.iload_n 1, 1) := by decide +kernel
theorem dX2_lay_34 : decode cX2_lay 34 = .ok (.iload_n 2, 1) := by decide +kernel
theorem dX2_lay_35 : decode cX2_lay 35 = .ok (.iload_n 3, 1) := by decide +kernel
theorem dX2_lay_36 : decode cX2_lay 36 = .ok (.iload 4, 2) := by decide +kernel
theorem dX2_lay_38 : decode cX2_lay 38 = .ok (.invokevirtual 68, 3) := by decide +kernel
theorem dX2_lay_41 : decode cX2_lay 41 = .ok (.ifCond .eq 18, 3) := by decide +kernel
theorem dX2_lay_44 : decode cX2_lay 44 = .ok (.aload_n 0, 1) := by decide +kernel
theorem dX2_lay_45 : decode cX2_lay 45 = .ok (.getfield 36, 3) := by decide +kernel
theorem dX2_lay_48 : decode cX2_lay 48 = .ok (.iload_n 3, 1) := by decide +kernel
theorem dX2_lay_49 : decode cX2_lay 49 = .ok (.iload 4, 2) := by decide +kernel
theorem dX2_lay_51 : decode cX2_lay 51 = .ok (.iload 7, 2) := by decide +kernel
theorem dX2_lay_53 : decode cX2_lay 53 = .ok (.invokevirtual 72, 3) := by decide +kernel
theorem dX2_lay_56 : decode cX2_lay 56 = .ok (.goto 4, 3) := by decide +kernel
theorem dX2_lay_59 : decode cX2_lay 59 = .ok (.iconst (-1), 1) := by decide +kernel
theorem dX2_lay_60 : decode cX2_lay 60 = .ok (.istore 8, 2) := by decide +kernel
theorem dX2_lay_62 : decode cX2_lay 62 = .ok (.iload 8, 2) := by decide +kernel
theorem dX2_lay_64 : decode cX2_lay 64 = .ok (.iconst (-1), 1) := by decide +kernel
theorem dX2_lay_65 : decode cX2_lay 65 = .ok (.if_icmp .eq 15, 3) := by decide +kernel
theorem dX2_lay_68 : decode cX2_lay 68 = .ok (.aload_n 0, 1) := by decide +kernel
theorem dX2_lay_69 : decode cX2_lay 69 = .ok (.iload 8, 2) := by decide +kernel
theorem dX2_lay_71 : decode cX2_lay 71 = .ok (.iload_n 1, 1) := by decide +kernel
theorem dX2_lay_72 : decode cX2_lay 72 = .ok (.iload_n 2, 1) := by decide +kernel
theorem dX2_lay_73 : decode cX2_lay 73 = .ok (.iload_n 3, 1) := by decide +kernel
theorem dX2_lay_74 : decode cX2_lay 74 = .ok (.iload 4, 2) := by decide +kernel
theorem dX2_lay_76 : decode cX2_lay 76 = .ok (.invokevirtual 78, 3) := by decide +kernel
theorem dX2_lay_79 : decode cX2_lay 79 = .ok (.return_, 1) := by decide +kernel
theorem dX2_lay_80 : decode cX2_lay 80 = .ok (.aload_n 0, 1) := by decide +kernel
theorem dX2_lay_81 : decode cX2_lay 81 = .ok (.iload_n 1, 1) := by decide +kernel
theorem dX2_lay_82 : decode cX2_lay 82 = .ok (.iload_n 2, 1) := by decide +kernel
theorem dX2_lay_83 : decode cX2_lay 83 = .ok (.iload_n 3, 1) := by decide +kernel
theorem dX2_lay_84 : decode cX2_lay 84 = .ok (.iload 4, 2) := by decide +kernel
theorem dX2_lay_86 : decode cX2_lay 86 = .ok (.iload 5, 2) := by decide +kernel
theorem dX2_lay_88 : decode cX2_lay 88 = .ok (.iload 7, 2) := by decide +kernel
theorem dX2_lay_90 : decode cX2_lay 90 = .ok (.invokevirtual 82, 3) := by decide +kernel
theorem dX2_lay_93 : decode cX2_lay 93 = .ok (.istore 9, 2) := by decide +kernel
theorem dX2_lay_95 : decode cX2_lay 95 = .ok (.iload 9, 2) := by decide +kernel
theorem dX2_lay_97 : decode cX2_lay 97 = .ok (.iconst (-1), 1) := by decide +kernel
theorem dX2_lay_98 : decode cX2_lay 98 = .ok (.if_icmp .eq 36, 3) := by decide +kernel
theorem dX2_lay_101 : decode cX2_lay 101 = .ok (.aload_n 0, 1) := by decide +kernel
theorem dX2_lay_102 : decode cX2_lay 102 = .ok (.iload_n 1, 1) := by decide +kernel
theorem dX2_lay_103 : decode cX2_lay 103 = .ok (.iload_n 2, 1) := by decide +kernel
theorem dX2_lay_104 : decode cX2_lay 104 = .ok (.iload_n 3, 1) := by decide +kernel
theorem dX2_lay_105 : decode cX2_lay 105 = .ok (.iload 4, 2) := by decide +kernel
theorem dX2_lay_107 : decode cX2_lay 107 = .ok (.iload 5, 2) := by decide +kernel
theorem dX2_lay_109 : decode cX2_lay 109 = .ok (.iload 9, 2) := by decide +kernel
theorem dX2_lay_111 : decode cX2_lay 111 = .ok (.invokevirtual 86, 3) := by decide +kernel
theorem dX2_lay_114 : decode cX2_lay 114 = .ok (.aload_n 0, 1) := by decide +kernel
theorem dX2_lay_115 : decode cX2_lay 115 = .ok (.iload_n 1, 1) := by decide +kernel
theorem dX2_lay_116 : decode cX2_lay 116 = .ok (.iload_n 2, 1) := by decide +kernel
theorem dX2_lay_117 : decode cX2_lay 117 = .ok (.iload_n 3, 1) := by decide +kernel
theorem dX2_lay_118 : decode cX2_lay 118 = .ok (.iload 4, 2) := by decide +kernel
theorem dX2_lay_120 : decode cX2_lay 120 = .ok (.iload 5, 2) := by decide +kernel
theorem dX2_lay_122 : decode cX2_lay 122 = .ok (.iload 9, 2) := by decide +kernel
theorem dX2_lay_124 : decode cX2_lay 124 = .ok (.iload 6, 2) := by decide +kernel
theorem dX2_lay_126 : decode cX2_lay 126 = .ok (.iconst 1, 1) := by decide +kernel
theorem dX2_lay_127 : decode cX2_lay 127 = .ok (.iadd, 1) := by decide +kernel
theorem dX2_lay_128 : decode cX2_lay 128 = .ok (.invokevirtual 89, 3) := by decide +kernel
theorem dX2_lay_131 : decode cX2_lay 131 = .ok (.goto 32, 3) := by decide +kernel
theorem dX2_lay_134 : decode cX2_lay 134 = .ok (.iload 5, 2) := by decide +kernel
theorem dX2_lay_136 : decode cX2_lay 136 = .ok (.aload_n 0, 1) := by decide +kernel
theorem dX2_lay_137 : decode cX2_lay 137 = .ok (.getfield 32, 3) := by decide +kernel
theorem dX2_lay_140 : decode cX2_lay 140 = .ok (.getfield 93, 3) := by decide +kernel
theorem dX2_lay_143 : decode cX2_lay 143 = .ok (.if_icmp .ge 20, 3) := by decide +kernel
theorem dX2_lay_146 : decode cX2_lay 146 = .ok (.aload_n 0, 1) := by decide +kernel
theorem dX2_lay_147 : decode cX2_lay 147 = .ok (.iload_n 1, 1) := by decide +kernel
theorem dX2_lay_148 : decode cX2_lay 148 = .ok (.iload_n 2, 1) := by decide +kernel
theorem dX2_lay_149 : decode cX2_lay 149 = .ok (.iload_n 3, 1) := by decide +kernel
theorem dX2_lay_150 : decode cX2_lay 150 = .ok (.iload 4, 2) := by decide +kernel
theorem dX2_lay_152 : decode cX2_lay 152 = .ok (.iload 5, 2) := by decide +kernel
theorem dX2_lay_154 : decode cX2_lay 154 = .ok (.iconst 1, 1) := by decide +kernel
theorem dX2_lay_155 : decode cX2_lay 155 = .ok (.iadd, 1) := by decide +kernel
theorem dX2_lay_156 : decode cX2_lay 156 = .ok (.iload 6, 2) := by decide +kernel
theorem dX2_lay_158 : decode cX2_lay 158 = .ok (.iconst 1, 1) := by decide +kernel
theorem dX2_lay_159 : decode cX2_lay 159 = .ok (.iadd, 1) := by decide +kernel
theorem dX2_lay_160 : decode cX2_lay 160 = .ok (.invokevirtual 60, 3) := by decide +kernel
theorem dX2_lay_163 : decode cX2_lay 163 = .ok (.return_, 1) := by decide +kernel
set_option maxRecDepth 100000 in
theorem ggX2_layBoth_X4_partsWidth : GoodIn wsX2_layBoth wsX4_partsWidth := goodIn_r _ [7, 8, 103, 104, 105, 106, 107, 108, 109] rfl (by decide +kernel)
set_option maxRecDepth 100000 in
theorem gX2_layBoth_X4_partsWidth : GoodIn wsX2_layBoth (wsV RX2 99 RX4 yX4_partsWidth wsX4_partsWidth) := goodIn_app (goodIn_of _ (by decide +kernel)) ggX2_layBoth_X4_partsWidth
set_option maxRecDepth 100000 in
theorem ggX2_layBoth_X2_lay : GoodIn wsX2_layBoth wsX2_lay := goodIn_r _ [13, 14, 1, 15, 16, 17, 18, 19, 20, 21, 22, 23, 24, 25, 26, 27, 28, 29, 30, 31, 32, 33, 34, 35, 36, 37, 38, 39, 40, 41, 42, 43, 44, 45, 6, 46, 47, 48, 49, 50, 51, 52, 53, 54, 55, 56, 57, 58, 59, 60, 61, 62, 63, 64, 65, 66, 67, 68, 69, 12, 70, 71, 72, 73, 74, 75, 76, 77, 78, 2, 79, 80, 81, 82, 83, 84, 4, 5, 7, 8, 3, 85, 86, 87, 88, 89, 90, 91, 92, 93, 9, 10, 11, 0, 94, 95, 96, 97, 98, 99, 100, 101, 102, 103, 104, 105, 106, 107, 108, 109, 110, 111, 112, 113, 114, 115, 116, 117, 118, 119] rfl (by decide +kernel)
set_option maxRecDepth 100000 in
theorem gX2_layBoth_X2_lay : GoodIn wsX2_layBoth (wsV RX2 60 RX2 yX2_lay wsX2_lay) := goodIn_app (goodIn_of _ (by decide +kernel)) ggX2_layBoth_X2_lay
theorem dX2_layBoth_0 : decode cX2_layBoth 0 = .ok (.iload 6, 2) := by decide +kernel
theorem dX2_layBoth_2 : decode cX2_layBoth 2 = .ok (.aload_n 0, 1) := by decide +kernel
theorem dX2_layBoth_3 : decode cX2_layBoth 3 = .ok (.getfield 32, 3) := by decide +kernel
theorem dX2_layBoth_6 : decode cX2_layBoth 6 = .ok (.getfield 96, 3) := by decide +kernel
theorem dX2_layBoth_9 : decode cX2_layBoth 9 = .ok (.iadd, 1) := by decide +kernel
theorem dX2_layBoth_10 : decode cX2_layBoth 10 = .ok (.istore 8, 2) := by decide +kernel
theorem dX2_layBoth_12 : decode cX2_layBoth 12 = .ok (.aload_n 0, 1) := by decide +kernel
theorem dX2_layBoth_13 : decode cX2_layBoth 13 = .ok (.getfield 32, 3) := by decide +kernel
theorem dX2_layBoth_16 : decode cX2_layBoth 16 = .ok (.iload 5, 2) := by decide +kernel
theorem dX2_layBoth_18 : decode cX2_layBoth 18 = .ok (.invokevirtual 99, 3) := by decide +kernel
theorem dX2_layBoth_21 : decode cX2_layBoth 21 = .ok (.ifCond .eq 39, 3) := by decide +kernel
theorem dX2_layBoth_24 : decode cX2_layBoth 24 = .ok (.aload_n 0, 1) := by decide +kernel
theorem dX2_layBoth_25 : decode cX2_layBoth 25 = .ok (.iload_n 1, 1) := by decide +kernel
theorem dX2_layBoth_26 : decode cX2_layBoth 26 = .ok (.iload_n 2, 1) := by decide +kernel
theorem dX2_layBoth_27 : decode cX2_layBoth 27 = .ok (.iload 6, 2) := by decide +kernel
theorem dX2_layBoth_29 : decode cX2_layBoth 29 = .ok (.iload 4, 2) := by decide +kernel
theorem dX2_layBoth_31 : decode cX2_layBoth 31 = .ok (.iload 5, 2) := by decide +kernel
theorem dX2_layBoth_33 : decode cX2_layBoth 33 = .ok (.iload 7, 2) := by decide +kernel
theorem dX2_layBoth_35 : decode cX2_layBoth 35 = .ok (.invokevirtual 60, 3) := by decide +kernel
theorem dX2_layBoth_38 : decode cX2_layBoth 38 = .ok (.aload_n 0, 1) := by decide +kernel
theorem dX2_layBoth_39 : decode cX2_layBoth 39 = .ok (.iload_n 1, 1) := by decide +kernel
theorem dX2_layBoth_40 : decode cX2_layBoth 40 = .ok (.iload 8, 2) := by decide +kernel
theorem dX2_layBoth_42 : decode cX2_layBoth 42 = .ok (.iadd, 1) := by decide +kernel
theorem dX2_layBoth_43 : decode cX2_layBoth 43 = .ok (.iload_n 2, 1) := by decide +kernel
theorem dX2_layBoth_44 : decode cX2_layBoth 44 = .ok (.iload_n 3, 1) := by decide +kernel
theorem dX2_layBoth_45 : decode cX2_layBoth 45 = .ok (.iload 8, 2) := by decide +kernel
theorem dX2_layBoth_47 : decode cX2_layBoth 47 = .ok (.isub, 1) := by decide +kernel
theorem dX2_layBoth_48 : decode cX2_layBoth 48 = .ok (.iload 4, 2) := by decide +kernel
theorem dX2_layBoth_50 : decode cX2_layBoth 50 = .ok (.iload 5, 2) := by decide +kernel
theorem dX2_layBoth_52 : decode cX2_layBoth 52 = .ok (.iload 7, 2) := by decide +kernel
theorem dX2_layBoth_54 : decode cX2_layBoth 54 = .ok (.invokevirtual 60, 3) := by decide +kernel
theorem dX2_layBoth_57 : decode cX2_layBoth 57 = .ok (.goto 35, 3) := by decide +kernel
theorem dX2_layBoth_60 : decode cX2_layBoth 60 = .ok (.aload_n 0, 1) := by decide +kernel
theorem dX2_layBoth_61 : decode cX2_layBoth 61 = .ok (.iload_n 1, 1) := by decide +kernel
theorem dX2_layBoth_62 : decode cX2_layBoth 62 = .ok (.iload_n 2, 1) := by decide +kernel
theorem dX2_layBoth_63 : decode cX2_layBoth 63 = .ok (.iload_n 3, 1) := by decide +kernel
theorem dX2_layBoth_64 : decode cX2_layBoth 64 = .ok (.iload 6, 2) := by decide +kernel
theorem dX2_layBoth_66 : decode cX2_layBoth 66 = .ok (.iload 5, 2) := by decide +kernel
theorem dX2_layBoth_68 : decode cX2_layBoth 68 = .ok (.iload 7, 2) := by decide +kernel
theorem dX2_layBoth_70 : decode cX2_layBoth 70 = .ok (.invokevirtual 60, 3) := by decide +kernel
theorem dX2_layBoth_73 : decode cX2_layBoth 73 = .ok (.aload_n 0, 1) := by decide +kernel
theorem dX2_layBoth_74 : decode cX2_layBoth 74 = .ok (.iload_n 1, 1) := by decide +kernel
theorem dX2_layBoth_75 : decode cX2_layBoth 75 = .ok (.iload_n 2, 1) := by decide +kernel
theorem dX2_layBoth_76 : decode cX2_layBoth 76 = .ok (.iload 8, 2) := by decide +kernel
theorem dX2_layBoth_78 : decode cX2_layBoth 78 = .ok (.iadd, 1) := by decide +kernel
theorem dX2_layBoth_79 : decode cX2_layBoth 79 = .ok (.iload_n 3, 1) := by decide +kernel
theorem dX2_layBoth_80 : decode cX2_layBoth 80 = .ok (.iload 4, 2) := by decide +kernel
theorem dX2_layBoth_82 : decode cX2_layBoth 82 = .ok (.iload 8, 2) := by decide +kernel
theorem dX2_layBoth_84 : decode cX2_layBoth 84 = .ok (.isub, 1) := by decide +kernel
theorem dX2_layBoth_85 : decode cX2_layBoth 85 = .ok (.iload 5, 2) := by decide +kernel
theorem dX2_layBoth_87 : decode cX2_layBoth 87 = .ok (.iload 7, 2) := by decide +kernel
theorem dX2_layBoth_89 : decode cX2_layBoth 89 = .ok (.invokevirtual 60, 3) := by decide +kernel
theorem dX2_layBoth_92 : decode cX2_layBoth 92 = .ok (.return_, 1) := by decide +kernel
set_option maxRecDepth 100000 in
theorem ggX2_firstCut_X4_lastCut : GoodIn wsX2_firstCut wsX4_lastCut := goodIn_r _ [8, 9, 10, 11, 12, 7, 13, 14, 51, 52, 53, 54, 55, 56, 57] rfl (by decide +kernel)
set_option maxRecDepth 100000 in
theorem gX2_firstCut_X4_lastCut : GoodIn wsX2_firstCut (wsV RX2 103 RX4 yX4_lastCut wsX4_lastCut) := goodIn_app (goodIn_of _ (by decide +kernel)) ggX2_firstCut_X4_lastCut
set_option maxRecDepth 100000 in
theorem ggX2_firstCut_X4_partsWidth : GoodIn wsX2_firstCut wsX4_partsWidth := goodIn_r _ [13, 14, 51, 52, 53, 54, 55, 56, 57] rfl (by decide +kernel)
set_option maxRecDepth 100000 in
theorem gX2_firstCut_X4_partsWidth : GoodIn wsX2_firstCut (wsV RX2 99 RX4 yX4_partsWidth wsX4_partsWidth) := goodIn_app (goodIn_of _ (by decide +kernel)) ggX2_firstCut_X4_partsWidth
set_option maxRecDepth 100000 in
theorem ggX2_firstCut_X5_of : GoodIn wsX2_firstCut wsX5_of := goodIn_r _ [20, 21, 22, 23, 24, 25, 26, 19, 27, 28, 29, 30, 31, 32, 33, 34, 35, 36, 37, 38, 39, 40, 41, 58, 59, 60, 61, 62, 51, 52, 53, 54, 55, 56, 57] rfl (by decide +kernel)
set_option maxRecDepth 100000 in
theorem gX2_firstCut_X5_of : GoodIn wsX2_firstCut (wsV RX2 64 RX5 yX5_of wsX5_of) := goodIn_app (goodIn_of _ (by decide +kernel)) ggX2_firstCut_X5_of
theorem dX2_firstCut_0 : decode cX2_firstCut 0 = .ok (.aload_n 0, 1) := by decide +kernel
theorem dX2_firstCut_1 : decode cX2_firstCut 1 = .ok (.getfield 32, 3) := by decide +kernel
theorem dX2_firstCut_4 : decode cX2_firstCut 4 = .ok (.iload_n 3, 1) := by decide +kernel
theorem dX2_firstCut_5 : decode cX2_firstCut 5 = .ok (.iload 4, 2) := by decide +kernel
theorem dX2_firstCut_7 : decode cX2_firstCut 7 = .ok (.iload 5, 2) := by decide +kernel
theorem dX2_firstCut_9 : decode cX2_firstCut 9 = .ok (.invokevirtual 103, 3) := by decide +kernel
theorem dX2_firstCut_12 : decode cX2_firstCut 12 = .ok (.istore 7, 2) := by decide +kernel
theorem dX2_firstCut_14 : decode cX2_firstCut 14 = .ok (.aload_n 0, 1) := by decide +kernel
theorem dX2_firstCut_15 : decode cX2_firstCut 15 = .ok (.getfield 32, 3) := by decide +kernel
theorem dX2_firstCut_18 : decode cX2_firstCut 18 = .ok (.iload 5, 2) := by decide +kernel
theorem dX2_firstCut_20 : decode cX2_firstCut 20 = .ok (.invokevirtual 99, 3) := by decide +kernel
theorem dX2_firstCut_23 : decode cX2_firstCut 23 = .ok (.istore 8, 2) := by decide +kernel
theorem dX2_firstCut_25 : decode cX2_firstCut 25 = .ok (.iconst 1, 1) := by decide +kernel
theorem dX2_firstCut_26 : decode cX2_firstCut 26 = .ok (.istore 9, 2) := by decide +kernel
theorem dX2_firstCut_28 : decode cX2_firstCut 28 = .ok (.iload 9, 2) := by decide +kernel
theorem dX2_firstCut_30 : decode cX2_firstCut 30 = .ok (.iload 7, 2) := by decide +kernel
theorem dX2_firstCut_32 : decode cX2_firstCut 32 = .ok (.if_icmp .gt 112, 3) := by decide +kernel
theorem dX2_firstCut_35 : decode cX2_firstCut 35 = .ok (.iload 9, 2) := by decide +kernel
theorem dX2_firstCut_37 : decode cX2_firstCut 37 = .ok (.aload_n 0, 1) := by decide +kernel
theorem dX2_firstCut_38 : decode cX2_firstCut 38 = .ok (.getfield 32, 3) := by decide +kernel
theorem dX2_firstCut_41 : decode cX2_firstCut 41 = .ok (.getfield 96, 3) := by decide +kernel
theorem dX2_firstCut_44 : decode cX2_firstCut 44 = .ok (.iadd, 1) := by decide +kernel
theorem dX2_firstCut_45 : decode cX2_firstCut 45 = .ok (.istore 10, 2) := by decide +kernel
theorem dX2_firstCut_47 : decode cX2_firstCut 47 = .ok (.iload 8, 2) := by decide +kernel
theorem dX2_firstCut_49 : decode cX2_firstCut 49 = .ok (.ifCond .eq 42, 3) := by decide +kernel
theorem dX2_firstCut_52 : decode cX2_firstCut 52 = .ok (.aload_n 0, 1) := by decide +kernel
theorem dX2_firstCut_53 : decode cX2_firstCut 53 = .ok (.getfield 40, 3) := by decide +kernel
theorem dX2_firstCut_56 : decode cX2_firstCut 56 = .ok (.iload_n 1, 1) := by decide +kernel
theorem dX2_firstCut_57 : decode cX2_firstCut 57 = .ok (.iload_n 2, 1) := by decide +kernel
theorem dX2_firstCut_58 : decode cX2_firstCut 58 = .ok (.iload 9, 2) := by decide +kernel
theorem dX2_firstCut_60 : decode cX2_firstCut 60 = .ok (.iload 4, 2) := by decide +kernel
theorem dX2_firstCut_62 : decode cX2_firstCut 62 = .ok (.iload 5, 2) := by decide +kernel
theorem dX2_firstCut_64 : decode cX2_firstCut 64 = .ok (.invokevirtual 64, 3) := by decide +kernel
theorem dX2_firstCut_67 : decode cX2_firstCut 67 = .ok (.aload_n 0, 1) := by decide +kernel
theorem dX2_firstCut_68 : decode cX2_firstCut 68 = .ok (.getfield 40, 3) := by decide +kernel
theorem dX2_firstCut_71 : decode cX2_firstCut 71 = .ok (.iload_n 1, 1) := by decide +kernel
theorem dX2_firstCut_72 : decode cX2_firstCut 72 = .ok (.iload 10, 2) := by decide +kernel
theorem dX2_firstCut_74 : decode cX2_firstCut 74 = .ok (.iadd, 1) := by decide +kernel
theorem dX2_firstCut_75 : decode cX2_firstCut 75 = .ok (.iload_n 2, 1) := by decide +kernel
theorem dX2_firstCut_76 : decode cX2_firstCut 76 = .ok (.iload_n 3, 1) := by decide +kernel
theorem dX2_firstCut_77 : decode cX2_firstCut 77 = .ok (.iload 10, 2) := by decide +kernel
theorem dX2_firstCut_79 : decode cX2_firstCut 79 = .ok (.isub, 1) := by decide +kernel
theorem dX2_firstCut_80 : decode cX2_firstCut 80 = .ok (.iload 4, 2) := by decide +kernel
theorem dX2_firstCut_82 : decode cX2_firstCut 82 = .ok (.iload 5, 2) := by decide +kernel
theorem dX2_firstCut_84 : decode cX2_firstCut 84 = .ok (.invokevirtual 64, 3) := by decide +kernel
theorem dX2_firstCut_87 : decode cX2_firstCut 87 = .ok (.iadd, 1) := by decide +kernel
theorem dX2_firstCut_88 : decode cX2_firstCut 88 = .ok (.goto 38, 3) := by decide +kernel
theorem dX2_firstCut_91 : decode cX2_firstCut 91 = .ok (.aload_n 0, 1) := by decide +kernel
theorem dX2_firstCut_92 : decode cX2_firstCut 92 = .ok (.getfield 40, 3) := by decide +kernel
theorem dX2_firstCut_95 : decode cX2_firstCut 95 = .ok (.iload_n 1, 1) := by decide +kernel
theorem dX2_firstCut_96 : decode cX2_firstCut 96 = .ok (.iload_n 2, 1) := by decide +kernel
theorem dX2_firstCut_97 : decode cX2_firstCut 97 = .ok (.iload_n 3, 1) := by decide +kernel
theorem dX2_firstCut_98 : decode cX2_firstCut 98 = .ok (.iload 9, 2) := by decide +kernel
theorem dX2_firstCut_100 : decode cX2_firstCut 100 = .ok (.iload 5, 2) := by decide +kernel
theorem dX2_firstCut_102 : decode cX2_firstCut 102 = .ok (.invokevirtual 64, 3) := by decide +kernel
theorem dX2_firstCut_105 : decode cX2_firstCut 105 = .ok (.aload_n 0, 1) := by decide +kernel
theorem dX2_firstCut_106 : decode cX2_firstCut 106 = .ok (.getfield 40, 3) := by decide +kernel
theorem dX2_firstCut_109 : decode cX2_firstCut 109 = .ok (.iload_n 1, 1) := by decide +kernel
theorem dX2_firstCut_110 : decode cX2_firstCut 110 = .ok (.iload_n 2, 1) := by decide +kernel
theorem dX2_firstCut_111 : decode cX2_firstCut 111 = .ok (.iload 10, 2) := by decide +kernel
theorem dX2_firstCut_113 : decode cX2_firstCut 113 = .ok (.iadd, 1) := by decide +kernel
theorem dX2_firstCut_114 : decode cX2_firstCut 114 = .ok (.iload_n 3, 1) := by decide +kernel
theorem dX2_firstCut_115 : decode cX2_firstCut 115 = .ok (.iload 4, 2) := by decide +kernel
theorem dX2_firstCut_117 : decode cX2_firstCut 117 = .ok (.iload 10, 2) := by decide +kernel
theorem dX2_firstCut_119 : decode cX2_firstCut 119 = .ok (.isub, 1) := by decide +kernel
theorem dX2_firstCut_120 : decode cX2_firstCut 120 = .ok (.iload 5, 2) := by decide +kernel
theorem dX2_firstCut_122 : decode cX2_firstCut 122 = .ok (.invokevirtual 64, 3) := by decide +kernel
theorem dX2_firstCut_125 : decode cX2_firstCut 125 = .ok (.iadd, 1) := by decide +kernel
theorem dX2_firstCut_126 : decode cX2_firstCut 126 = .ok (.istore 11, 2) := by decide +kernel
theorem dX2_firstCut_128 : decode cX2_firstCut 128 = .ok (.iload 11, 2) := by decide +kernel
theorem dX2_firstCut_130 : decode cX2_firstCut 130 = .ok (.iload 6, 2) := by decide +kernel
theorem dX2_firstCut_132 : decode cX2_firstCut 132 = .ok (.if_icmp .ne 6, 3) := by decide +kernel
theorem dX2_firstCut_135 : decode cX2_firstCut 135 = .ok (.iload 9, 2) := by decide +kernel
theorem dX2_firstCut_137 : decode cX2_firstCut 137 = .ok (.ireturn, 1) := by decide +kernel
theorem dX2_firstCut_138 : decode cX2_firstCut 138 = .ok (.iinc 9 1, 3) := by decide +kernel
theorem dX2_firstCut_141 : decode cX2_firstCut 141 = .ok (.goto (-113), 3) := by decide +kernel
theorem dX2_firstCut_144 : decode cX2_firstCut 144 = .ok (.iconst (-1), 1) := by decide +kernel
theorem dX2_firstCut_145 : decode cX2_firstCut 145 = .ok (.ireturn, 1) := by decide +kernel
set_option maxRecDepth 100000 in
theorem ggX2_addPiece_X1_lies : GoodIn wsX2_addPiece wsX1_lies := goodIn_r _ [9, 10, 11, 21, 22, 23, 24, 25] rfl (by decide +kernel)
set_option maxRecDepth 100000 in
theorem gX2_addPiece_X1_lies : GoodIn wsX2_addPiece (wsV RX2 106 RX1 yX1_lies wsX1_lies) := goodIn_app (goodIn_of _ (by decide +kernel)) ggX2_addPiece_X1_lies
theorem dX2_addPiece_0 : decode cX2_addPiece 0 = .ok (.aload_n 0, 1) := by decide +kernel
theorem dX2_addPiece_1 : decode cX2_addPiece 1 = .ok (.getfield 18, 3) := by decide +kernel
theorem dX2_addPiece_4 : decode cX2_addPiece 4 = .ok (.sipush 256, 3) := by decide +kernel
theorem dX2_addPiece_7 : decode cX2_addPiece 7 = .ok (.if_icmp .lt 4, 3) := by decide +kernel
theorem dX2_addPiece_10 : decode cX2_addPiece 10 = .ok (.return_, 1) := by decide +kernel
theorem dX2_addPiece_11 : decode cX2_addPiece 11 = .ok (.aload_n 0, 1) := by decide +kernel
theorem dX2_addPiece_12 : decode cX2_addPiece 12 = .ok (.getfield 18, 3) := by decide +kernel
theorem dX2_addPiece_15 : decode cX2_addPiece 15 = .ok (.bipush 6, 2) := by decide +kernel
theorem dX2_addPiece_17 : decode cX2_addPiece 17 = .ok (.imul, 1) := by decide +kernel
theorem dX2_addPiece_18 : decode cX2_addPiece 18 = .ok (.istore 6, 2) := by decide +kernel
theorem dX2_addPiece_20 : decode cX2_addPiece 20 = .ok (.aload_n 0, 1) := by decide +kernel
theorem dX2_addPiece_21 : decode cX2_addPiece 21 = .ok (.getfield 11, 3) := by decide +kernel
theorem dX2_addPiece_24 : decode cX2_addPiece 24 = .ok (.iload 6, 2) := by decide +kernel
theorem dX2_addPiece_26 : decode cX2_addPiece 26 = .ok (.iload_n 1, 1) := by decide +kernel
theorem dX2_addPiece_27 : decode cX2_addPiece 27 = .ok (.iastore, 1) := by decide +kernel
theorem dX2_addPiece_28 : decode cX2_addPiece 28 = .ok (.aload_n 0, 1) := by decide +kernel
theorem dX2_addPiece_29 : decode cX2_addPiece 29 = .ok (.getfield 11, 3) := by decide +kernel
theorem dX2_addPiece_32 : decode cX2_addPiece 32 = .ok (.iload 6, 2) := by decide +kernel
theorem dX2_addPiece_34 : decode cX2_addPiece 34 = .ok (.iconst 1, 1) := by decide +kernel
theorem dX2_addPiece_35 : decode cX2_addPiece 35 = .ok (.iadd, 1) := by decide +kernel
theorem dX2_addPiece_36 : decode cX2_addPiece 36 = .ok (.iload_n 2, 1) := by decide +kernel
theorem dX2_addPiece_37 : decode cX2_addPiece 37 = .ok (.iastore, 1) := by decide +kernel
theorem dX2_addPiece_38 : decode cX2_addPiece 38 = .ok (.aload_n 0, 1) := by decide +kernel
theorem dX2_addPiece_39 : decode cX2_addPiece 39 = .ok (.getfield 11, 3) := by decide +kernel
theorem dX2_addPiece_42 : decode cX2_addPiece 42 = .ok (.iload 6, 2) := by decide +kernel
theorem dX2_addPiece_44 : decode cX2_addPiece 44 = .ok (.iconst 2, 1) := by decide +kernel
theorem dX2_addPiece_45 : decode cX2_addPiece 45 = .ok (.iadd, 1) := by decide +kernel
theorem dX2_addPiece_46 : decode cX2_addPiece 46 = .ok (.iload_n 3, 1) := by decide +kernel
theorem dX2_addPiece_47 : decode cX2_addPiece 47 = .ok (.iastore, 1) := by decide +kernel
theorem dX2_addPiece_48 : decode cX2_addPiece 48 = .ok (.aload_n 0, 1) := by decide +kernel
theorem dX2_addPiece_49 : decode cX2_addPiece 49 = .ok (.getfield 11, 3) := by decide +kernel
theorem dX2_addPiece_52 : decode cX2_addPiece 52 = .ok (.iload 6, 2) := by decide +kernel
theorem dX2_addPiece_54 : decode cX2_addPiece 54 = .ok (.iconst 3, 1) := by decide +kernel
theorem dX2_addPiece_55 : decode cX2_addPiece 55 = .ok (.iadd, 1) := by decide +kernel
theorem dX2_addPiece_56 : decode cX2_addPiece 56 = .ok (.iload 4, 2) := by decide +kernel
theorem dX2_addPiece_58 : decode cX2_addPiece 58 = .ok (.iastore, 1) := by decide +kernel
theorem dX2_addPiece_59 : decode cX2_addPiece 59 = .ok (.aload_n 0, 1) := by decide +kernel
theorem dX2_addPiece_60 : decode cX2_addPiece 60 = .ok (.getfield 11, 3) := by decide +kernel
theorem dX2_addPiece_63 : decode cX2_addPiece 63 = .ok (.iload 6, 2) := by decide +kernel
theorem dX2_addPiece_65 : decode cX2_addPiece 65 = .ok (.iconst 4, 1) := by decide +kernel
theorem dX2_addPiece_66 : decode cX2_addPiece 66 = .ok (.iadd, 1) := by decide +kernel
theorem dX2_addPiece_67 : decode cX2_addPiece 67 = .ok (.iload 5, 2) := by decide +kernel
theorem dX2_addPiece_69 : decode cX2_addPiece 69 = .ok (.iastore, 1) := by decide +kernel
theorem dX2_addPiece_70 : decode cX2_addPiece 70 = .ok (.aload_n 0, 1) := by decide +kernel
theorem dX2_addPiece_71 : decode cX2_addPiece 71 = .ok (.getfield 11, 3) := by decide +kernel
theorem dX2_addPiece_74 : decode cX2_addPiece 74 = .ok (.iload 6, 2) := by decide +kernel
theorem dX2_addPiece_76 : decode cX2_addPiece 76 = .ok (.iconst 5, 1) := by decide +kernel
theorem dX2_addPiece_77 : decode cX2_addPiece 77 = .ok (.iadd, 1) := by decide +kernel
theorem dX2_addPiece_78 : decode cX2_addPiece 78 = .ok (.aload_n 0, 1) := by decide +kernel
theorem dX2_addPiece_79 : decode cX2_addPiece 79 = .ok (.getfield 36, 3) := by decide +kernel
theorem dX2_addPiece_82 : decode cX2_addPiece 82 = .ok (.iload_n 1, 1) := by decide +kernel
theorem dX2_addPiece_83 : decode cX2_addPiece 83 = .ok (.iload 4, 2) := by decide +kernel
theorem dX2_addPiece_85 : decode cX2_addPiece 85 = .ok (.iload 5, 2) := by decide +kernel
theorem dX2_addPiece_87 : decode cX2_addPiece 87 = .ok (.invokevirtual 106, 3) := by decide +kernel
theorem dX2_addPiece_90 : decode cX2_addPiece 90 = .ok (.ifCond .eq 7, 3) := by decide +kernel
theorem dX2_addPiece_93 : decode cX2_addPiece 93 = .ok (.iconst 0, 1) := by decide +kernel
theorem dX2_addPiece_94 : decode cX2_addPiece 94 = .ok (.goto 4, 3) := by decide +kernel
theorem dX2_addPiece_97 : decode cX2_addPiece 97 = .ok (.iconst 1, 1) := by decide +kernel
theorem dX2_addPiece_98 : decode cX2_addPiece 98 = .ok (.iastore, 1) := by decide +kernel
theorem dX2_addPiece_99 : decode cX2_addPiece 99 = .ok (.aload_n 0, 1) := by decide +kernel
theorem dX2_addPiece_100 : decode cX2_addPiece 100 = .ok (.dup, 1) := by decide +kernel
theorem dX2_addPiece_101 : decode cX2_addPiece 101 = .ok (.getfield 18, 3) := by decide +kernel
theorem dX2_addPiece_104 : decode cX2_addPiece 104 = .ok (.iconst 1, 1) := by decide +kernel
theorem dX2_addPiece_105 : decode cX2_addPiece 105 = .ok (.iadd, 1) := by decide +kernel
theorem dX2_addPiece_106 : decode cX2_addPiece 106 = .ok (.putfield 18, 3) := by decide +kernel
theorem dX2_addPiece_109 : decode cX2_addPiece 109 = .ok (.aload_n 0, 1) := by decide +kernel
theorem dX2_addPiece_110 : decode cX2_addPiece 110 = .ok (.dup, 1) := by decide +kernel
theorem dX2_addPiece_111 : decode cX2_addPiece 111 = .ok (.getfield 25, 3) := by decide +kernel
theorem dX2_addPiece_114 : decode cX2_addPiece 114 = .ok (.iload 4, 2) := by decide +kernel
theorem dX2_addPiece_116 : decode cX2_addPiece 116 = .ok (.iload 5, 2) := by decide +kernel
theorem dX2_addPiece_118 : decode cX2_addPiece 118 = .ok (.imul, 1) := by decide +kernel
theorem dX2_addPiece_119 : decode cX2_addPiece 119 = .ok (.isub, 1) := by decide +kernel
theorem dX2_addPiece_120 : decode cX2_addPiece 120 = .ok (.putfield 25, 3) := by decide +kernel
theorem dX2_addPiece_123 : decode cX2_addPiece 123 = .ok (.return_, 1) := by decide +kernel
set_option maxRecDepth 100000 in
theorem ggX2_addCut_X4_partsWidth : GoodIn wsX2_addCut wsX4_partsWidth := goodIn_r _ [8, 9, 19, 20, 21, 22, 23, 24, 25] rfl (by decide +kernel)
set_option maxRecDepth 100000 in
theorem gX2_addCut_X4_partsWidth : GoodIn wsX2_addCut (wsV RX2 99 RX4 yX4_partsWidth wsX4_partsWidth) := goodIn_app (goodIn_of _ (by decide +kernel)) ggX2_addCut_X4_partsWidth
theorem dX2_addCut_0 : decode cX2_addCut 0 = .ok (.aload_n 0, 1) := by decide +kernel
theorem dX2_addCut_1 : decode cX2_addCut 1 = .ok (.getfield 22, 3) := by decide +kernel
theorem dX2_addCut_4 : decode cX2_addCut 4 = .ok (.sipush 255, 3) := by decide +kernel
theorem dX2_addCut_7 : decode cX2_addCut 7 = .ok (.if_icmp .lt 4, 3) := by decide +kernel
theorem dX2_addCut_10 : decode cX2_addCut 10 = .ok (.return_, 1) := by decide +kernel
theorem dX2_addCut_11 : decode cX2_addCut 11 = .ok (.aload_n 0, 1) := by decide +kernel
theorem dX2_addCut_12 : decode cX2_addCut 12 = .ok (.getfield 32, 3) := by decide +kernel
theorem dX2_addCut_15 : decode cX2_addCut 15 = .ok (.iload 5, 2) := by decide +kernel
theorem dX2_addCut_17 : decode cX2_addCut 17 = .ok (.invokevirtual 99, 3) := by decide +kernel
theorem dX2_addCut_20 : decode cX2_addCut 20 = .ok (.istore 7, 2) := by decide +kernel
theorem dX2_addCut_22 : decode cX2_addCut 22 = .ok (.aload_n 0, 1) := by decide +kernel
theorem dX2_addCut_23 : decode cX2_addCut 23 = .ok (.getfield 22, 3) := by decide +kernel
theorem dX2_addCut_26 : decode cX2_addCut 26 = .ok (.bipush 7, 2) := by decide +kernel
theorem dX2_addCut_28 : decode cX2_addCut 28 = .ok (.imul, 1) := by decide +kernel
theorem dX2_addCut_29 : decode cX2_addCut 29 = .ok (.istore 8, 2) := by decide +kernel
theorem dX2_addCut_31 : decode cX2_addCut 31 = .ok (.aload_n 0, 1) := by decide +kernel
theorem dX2_addCut_32 : decode cX2_addCut 32 = .ok (.getfield 15, 3) := by decide +kernel
theorem dX2_addCut_35 : decode cX2_addCut 35 = .ok (.iload 8, 2) := by decide +kernel
theorem dX2_addCut_37 : decode cX2_addCut 37 = .ok (.iload 5, 2) := by decide +kernel
theorem dX2_addCut_39 : decode cX2_addCut 39 = .ok (.iastore, 1) := by decide +kernel
theorem dX2_addCut_40 : decode cX2_addCut 40 = .ok (.aload_n 0, 1) := by decide +kernel
theorem dX2_addCut_41 : decode cX2_addCut 41 = .ok (.getfield 15, 3) := by decide +kernel
theorem dX2_addCut_44 : decode cX2_addCut 44 = .ok (.iload 8, 2) := by decide +kernel
theorem dX2_addCut_46 : decode cX2_addCut 46 = .ok (.iconst 1, 1) := by decide +kernel
theorem dX2_addCut_47 : decode cX2_addCut 47 = .ok (.iadd, 1) := by decide +kernel
theorem dX2_addCut_48 : decode cX2_addCut 48 = .ok (.iload 7, 2) := by decide +kernel
theorem dX2_addCut_50 : decode cX2_addCut 50 = .ok (.ifCond .eq 7, 3) := by decide +kernel
theorem dX2_addCut_53 : decode cX2_addCut 53 = .ok (.iconst 0, 1) := by decide +kernel
theorem dX2_addCut_54 : decode cX2_addCut 54 = .ok (.goto 4, 3) := by decide +kernel
theorem dX2_addCut_57 : decode cX2_addCut 57 = .ok (.iconst 1, 1) := by decide +kernel
theorem dX2_addCut_58 : decode cX2_addCut 58 = .ok (.iastore, 1) := by decide +kernel
theorem dX2_addCut_59 : decode cX2_addCut 59 = .ok (.aload_n 0, 1) := by decide +kernel
theorem dX2_addCut_60 : decode cX2_addCut 60 = .ok (.getfield 15, 3) := by decide +kernel
theorem dX2_addCut_63 : decode cX2_addCut 63 = .ok (.iload 8, 2) := by decide +kernel
theorem dX2_addCut_65 : decode cX2_addCut 65 = .ok (.iconst 2, 1) := by decide +kernel
theorem dX2_addCut_66 : decode cX2_addCut 66 = .ok (.iadd, 1) := by decide +kernel
theorem dX2_addCut_67 : decode cX2_addCut 67 = .ok (.iload 7, 2) := by decide +kernel
theorem dX2_addCut_69 : decode cX2_addCut 69 = .ok (.ifCond .eq 7, 3) := by decide +kernel
theorem dX2_addCut_72 : decode cX2_addCut 72 = .ok (.iload_n 1, 1) := by decide +kernel
theorem dX2_addCut_73 : decode cX2_addCut 73 = .ok (.goto 4, 3) := by decide +kernel
theorem dX2_addCut_76 : decode cX2_addCut 76 = .ok (.iload_n 2, 1) := by decide +kernel
theorem dX2_addCut_77 : decode cX2_addCut 77 = .ok (.iload 6, 2) := by decide +kernel
theorem dX2_addCut_79 : decode cX2_addCut 79 = .ok (.iadd, 1) := by decide +kernel
theorem dX2_addCut_80 : decode cX2_addCut 80 = .ok (.iastore, 1) := by decide +kernel
theorem dX2_addCut_81 : decode cX2_addCut 81 = .ok (.aload_n 0, 1) := by decide +kernel
theorem dX2_addCut_82 : decode cX2_addCut 82 = .ok (.getfield 15, 3) := by decide +kernel
theorem dX2_addCut_85 : decode cX2_addCut 85 = .ok (.iload 8, 2) := by decide +kernel
theorem dX2_addCut_87 : decode cX2_addCut 87 = .ok (.iconst 3, 1) := by decide +kernel
theorem dX2_addCut_88 : decode cX2_addCut 88 = .ok (.iadd, 1) := by decide +kernel
theorem dX2_addCut_89 : decode cX2_addCut 89 = .ok (.iload_n 1, 1) := by decide +kernel
theorem dX2_addCut_90 : decode cX2_addCut 90 = .ok (.iastore, 1) := by decide +kernel
theorem dX2_addCut_91 : decode cX2_addCut 91 = .ok (.aload_n 0, 1) := by decide +kernel
theorem dX2_addCut_92 : decode cX2_addCut 92 = .ok (.getfield 15, 3) := by decide +kernel
theorem dX2_addCut_95 : decode cX2_addCut 95 = .ok (.iload 8, 2) := by decide +kernel
theorem dX2_addCut_97 : decode cX2_addCut 97 = .ok (.iconst 4, 1) := by decide +kernel
theorem dX2_addCut_98 : decode cX2_addCut 98 = .ok (.iadd, 1) := by decide +kernel
theorem dX2_addCut_99 : decode cX2_addCut 99 = .ok (.iload_n 2, 1) := by decide +kernel
theorem dX2_addCut_100 : decode cX2_addCut 100 = .ok (.iastore, 1) := by decide +kernel
theorem dX2_addCut_101 : decode cX2_addCut 101 = .ok (.aload_n 0, 1) := by decide +kernel
theorem dX2_addCut_102 : decode cX2_addCut 102 = .ok (.getfield 15, 3) := by decide +kernel
theorem dX2_addCut_105 : decode cX2_addCut 105 = .ok (.iload 8, 2) := by decide +kernel
theorem dX2_addCut_107 : decode cX2_addCut 107 = .ok (.iconst 5, 1) := by decide +kernel
theorem dX2_addCut_108 : decode cX2_addCut 108 = .ok (.iadd, 1) := by decide +kernel
theorem dX2_addCut_109 : decode cX2_addCut 109 = .ok (.iload_n 3, 1) := by decide +kernel
