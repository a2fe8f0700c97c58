theorem dX0_init_0 : decode cX0_init 0 = .ok (.aload_n 0, 1) := by decide +kernel
theorem dX0_init_1 : decode cX0_init 1 = .ok (.invokespecial 5, 3) := by decide +kernel
theorem dX0_init_4 : decode cX0_init 4 = .ok (.aload_n 0, 1) := by decide +kernel
theorem dX0_init_5 : decode cX0_init 5 = .ok (.sipush 4096, 3) := by decide +kernel
theorem dX0_init_8 : decode cX0_init 8 = .ok (.newarray .int, 2) := by decide +kernel
theorem dX0_init_10 : decode cX0_init 10 = .ok (.putfield 11, 3) := by decide +kernel
theorem dX0_init_13 : decode cX0_init 13 = .ok (.aload_n 0, 1) := by decide +kernel
theorem dX0_init_14 : decode cX0_init 14 = .ok (.sipush 4096, 3) := by decide +kernel
theorem dX0_init_17 : decode cX0_init 17 = .ok (.newarray .int, 2) := by decide +kernel
theorem dX0_init_19 : decode cX0_init 19 = .ok (.putfield 15, 3) := by decide +kernel
theorem dX0_init_22 : decode cX0_init 22 = .ok (.aload_n 0, 1) := by decide +kernel
theorem dX0_init_23 : decode cX0_init 23 = .ok (.sipush 4096, 3) := by decide +kernel
theorem dX0_init_26 : decode cX0_init 26 = .ok (.newarray .int, 2) := by decide +kernel
theorem dX0_init_28 : decode cX0_init 28 = .ok (.putfield 18, 3) := by decide +kernel
theorem dX0_init_31 : decode cX0_init 31 = .ok (.aload_n 0, 1) := by decide +kernel
theorem dX0_init_32 : decode cX0_init 32 = .ok (.bipush 20, 2) := by decide +kernel
theorem dX0_init_34 : decode cX0_init 34 = .ok (.newarray .int, 2) := by decide +kernel
theorem dX0_init_36 : decode cX0_init 36 = .ok (.putfield 21, 3) := by decide +kernel
theorem dX0_init_39 : decode cX0_init 39 = .ok (.aload_n 0, 1) := by decide +kernel
theorem dX0_init_40 : decode cX0_init 40 = .ok (.iconst 0, 1) := by decide +kernel
theorem dX0_init_41 : decode cX0_init 41 = .ok (.putfield 24, 3) := by decide +kernel
theorem dX0_init_44 : decode cX0_init 44 = .ok (.aload_n 0, 1) := by decide +kernel
theorem dX0_init_45 : decode cX0_init 45 = .ok (.iconst 0, 1) := by decide +kernel
theorem dX0_init_46 : decode cX0_init 46 = .ok (.putfield 28, 3) := by decide +kernel
theorem dX0_init_49 : decode cX0_init 49 = .ok (.aload_n 0, 1) := by decide +kernel
theorem dX0_init_50 : decode cX0_init 50 = .ok (.iconst 0, 1) := by decide +kernel
theorem dX0_init_51 : decode cX0_init 51 = .ok (.putfield 31, 3) := by decide +kernel
theorem dX0_init_54 : decode cX0_init 54 = .ok (.aload_n 0, 1) := by decide +kernel
theorem dX0_init_55 : decode cX0_init 55 = .ok (.iconst 1, 1) := by decide +kernel
theorem dX0_init_56 : decode cX0_init 56 = .ok (.putfield 35, 3) := by decide +kernel
theorem dX0_init_59 : decode cX0_init 59 = .ok (.aload_n 0, 1) := by decide +kernel
theorem dX0_init_60 : decode cX0_init 60 = .ok (.iconst 1, 1) := by decide +kernel
theorem dX0_init_61 : decode cX0_init 61 = .ok (.putfield 38, 3) := by decide +kernel
theorem dX0_init_64 : decode cX0_init 64 = .ok (.aload_n 0, 1) := by decide +kernel
theorem dX0_init_65 : decode cX0_init 65 = .ok (.aload_n 1, 1) := by decide +kernel
theorem dX0_init_66 : decode cX0_init 66 = .ok (.putfield 41, 3) := by decide +kernel
theorem dX0_init_69 : decode cX0_init 69 = .ok (.return_, 1) := by decide +kernel
theorem dX0_forgetCosts_0 : decode cX0_forgetCosts 0 = .ok (.aload_n 0, 1) := by decide +kernel
theorem dX0_forgetCosts_1 : decode cX0_forgetCosts 1 = .ok (.iconst 1, 1) := by decide +kernel
theorem dX0_forgetCosts_2 : decode cX0_forgetCosts 2 = .ok (.putfield 35, 3) := by decide +kernel
theorem dX0_forgetCosts_5 : decode cX0_forgetCosts 5 = .ok (.aload_n 0, 1) := by decide +kernel
theorem dX0_forgetCosts_6 : decode cX0_forgetCosts 6 = .ok (.iconst 1, 1) := by decide +kernel
theorem dX0_forgetCosts_7 : decode cX0_forgetCosts 7 = .ok (.putfield 38, 3) := by decide +kernel
theorem dX0_forgetCosts_10 : decode cX0_forgetCosts 10 = .ok (.return_, 1) := by decide +kernel
theorem dX0_forgetBars_0 : decode cX0_forgetBars 0 = .ok (.aload_n 0, 1) := by decide +kernel
theorem dX0_forgetBars_1 : decode cX0_forgetBars 1 = .ok (.iconst 1, 1) := by decide +kernel
theorem dX0_forgetBars_2 : decode cX0_forgetBars 2 = .ok (.putfield 38, 3) := by decide +kernel
theorem dX0_forgetBars_5 : decode cX0_forgetBars 5 = .ok (.return_, 1) := by decide +kernel
set_option maxRecDepth 100000 in
theorem ggX0_makeReady_J7_fill_53178 : GoodIn wsX0_makeReady wsJ7_fill_53178 := goodIn_r _ [8] rfl (by decide +kernel)
set_option maxRecDepth 100000 in
theorem gX0_makeReady_J7_fill_53178 : GoodIn wsX0_makeReady (va_wsS RX0 45 yJ7_fill_53178 wsJ7_fill_53178) := goodIn_app (goodIn_of _ (by decide +kernel)) ggX0_makeReady_J7_fill_53178
set_option maxRecDepth 100000 in
theorem ggX0_makeReady_X0_findLeastCosts : GoodIn wsX0_makeReady wsX0_findLeastCosts := goodIn_r _ [13, 4, 14, 15, 16, 17, 18, 19, 20, 21, 22, 23, 12, 24, 3, 25, 26, 27, 28, 29, 30, 31, 32, 33, 34, 35, 36, 37, 38, 39, 40, 41, 42, 43, 44, 45, 46, 47, 48, 49, 50, 51, 52, 53, 54, 55, 56, 57, 58, 59, 60, 61, 62, 63, 72, 73, 74, 75, 76, 77, 78, 79, 80, 81, 82, 83, 84, 85, 86, 87, 88] rfl (by decide +kernel)
set_option maxRecDepth 100000 in
theorem gX0_makeReady_X0_findLeastCosts : GoodIn wsX0_makeReady (wsV RX0 51 RX0 yX0_findLeastCosts wsX0_findLeastCosts) := goodIn_app (goodIn_of _ (by decide +kernel)) ggX0_makeReady_X0_findLeastCosts
set_option maxRecDepth 100000 in
theorem ggX0_makeReady_X3_wantedOf : GoodIn wsX0_makeReady wsX3_wantedOf := goodIn_r _ [18, 19, 20, 82, 83, 84, 85, 86, 87, 88] rfl (by decide +kernel)
set_option maxRecDepth 100000 in
theorem gX0_makeReady_X3_wantedOf : GoodIn wsX0_makeReady (wsV RX0 54 RX3 yX3_wantedOf wsX3_wantedOf) := goodIn_app (goodIn_of _ (by decide +kernel)) ggX0_makeReady_X3_wantedOf
set_option maxRecDepth 100000 in
theorem ggX0_makeReady_X0_code : GoodIn wsX0_makeReady wsX0_code := goodIn_r _ [29] rfl (by decide +kernel)
set_option maxRecDepth 100000 in
theorem gX0_makeReady_X0_code : GoodIn wsX0_makeReady (va_wsS RX0 60 yX0_code wsX0_code) := goodIn_app (goodIn_of _ (by decide +kernel)) ggX0_makeReady_X0_code
set_option maxRecDepth 100000 in
theorem ggX0_makeReady_X0_takeBars : GoodIn wsX0_makeReady wsX0_takeBars := goodIn_r _ [67, 68, 69, 3, 26, 70, 71, 63, 30, 31, 32, 72, 73, 74, 75, 76, 77, 78, 79, 80, 81] rfl (by decide +kernel)
set_option maxRecDepth 100000 in
theorem gX0_makeReady_X0_takeBars : GoodIn wsX0_makeReady (wsV RX0 64 RX0 yX0_takeBars wsX0_takeBars) := goodIn_app (goodIn_of _ (by decide +kernel)) ggX0_makeReady_X0_takeBars
theorem dX0_makeReady_0 : decode cX0_makeReady 0 = .ok (.aload_n 0, 1) := by decide +kernel
theorem dX0_makeReady_1 : decode cX0_makeReady 1 = .ok (.getfield 38, 3) := by decide +kernel
theorem dX0_makeReady_4 : decode cX0_makeReady 4 = .ok (.ifCond .ne 4, 3) := by decide +kernel
theorem dX0_makeReady_7 : decode cX0_makeReady 7 = .ok (.return_, 1) := by decide +kernel
theorem dX0_makeReady_8 : decode cX0_makeReady 8 = .ok (.aload_n 0, 1) := by decide +kernel
theorem dX0_makeReady_9 : decode cX0_makeReady 9 = .ok (.getfield 35, 3) := by decide +kernel
theorem dX0_makeReady_12 : decode cX0_makeReady 12 = .ok (.ifCond .eq 16, 3) := by decide +kernel
theorem dX0_makeReady_15 : decode cX0_makeReady 15 = .ok (.aload_n 0, 1) := by decide +kernel
theorem dX0_makeReady_16 : decode cX0_makeReady 16 = .ok (.getfield 15, 3) := by decide +kernel
theorem dX0_makeReady_19 : decode cX0_makeReady 19 = .ok (.iconst 0, 1) := by decide +kernel
theorem dX0_makeReady_20 : decode cX0_makeReady 20 = .ok (.invokestatic 45, 3) := by decide +kernel
theorem dX0_makeReady_23 : decode cX0_makeReady 23 = .ok (.aload_n 0, 1) := by decide +kernel
theorem dX0_makeReady_24 : decode cX0_makeReady 24 = .ok (.iconst 0, 1) := by decide +kernel
theorem dX0_makeReady_25 : decode cX0_makeReady 25 = .ok (.putfield 35, 3) := by decide +kernel
theorem dX0_makeReady_28 : decode cX0_makeReady 28 = .ok (.aload_n 0, 1) := by decide +kernel
theorem dX0_makeReady_29 : decode cX0_makeReady 29 = .ok (.invokevirtual 51, 3) := by decide +kernel
theorem dX0_makeReady_32 : decode cX0_makeReady 32 = .ok (.aload_n 0, 1) := by decide +kernel
theorem dX0_makeReady_33 : decode cX0_makeReady 33 = .ok (.aload_n 0, 1) := by decide +kernel
theorem dX0_makeReady_34 : decode cX0_makeReady 34 = .ok (.getfield 41, 3) := by decide +kernel
theorem dX0_makeReady_37 : decode cX0_makeReady 37 = .ok (.iconst 0, 1) := by decide +kernel
theorem dX0_makeReady_38 : decode cX0_makeReady 38 = .ok (.invokevirtual 54, 3) := by decide +kernel
theorem dX0_makeReady_41 : decode cX0_makeReady 41 = .ok (.aload_n 0, 1) := by decide +kernel
theorem dX0_makeReady_42 : decode cX0_makeReady 42 = .ok (.getfield 41, 3) := by decide +kernel
theorem dX0_makeReady_45 : decode cX0_makeReady 45 = .ok (.iconst 1, 1) := by decide +kernel
theorem dX0_makeReady_46 : decode cX0_makeReady 46 = .ok (.invokevirtual 54, 3) := by decide +kernel
theorem dX0_makeReady_49 : decode cX0_makeReady 49 = .ok (.aload_n 0, 1) := by decide +kernel
theorem dX0_makeReady_50 : decode cX0_makeReady 50 = .ok (.getfield 41, 3) := by decide +kernel
theorem dX0_makeReady_53 : decode cX0_makeReady 53 = .ok (.iconst 2, 1) := by decide +kernel
theorem dX0_makeReady_54 : decode cX0_makeReady 54 = .ok (.invokevirtual 54, 3) := by decide +kernel
theorem dX0_makeReady_57 : decode cX0_makeReady 57 = .ok (.aload_n 0, 1) := by decide +kernel
theorem dX0_makeReady_58 : decode cX0_makeReady 58 = .ok (.getfield 41, 3) := by decide +kernel
theorem dX0_makeReady_61 : decode cX0_makeReady 61 = .ok (.iconst 3, 1) := by decide +kernel
theorem dX0_makeReady_62 : decode cX0_makeReady 62 = .ok (.invokevirtual 54, 3) := by decide +kernel
theorem dX0_makeReady_65 : decode cX0_makeReady 65 = .ok (.invokestatic 60, 3) := by decide +kernel
theorem dX0_makeReady_68 : decode cX0_makeReady 68 = .ok (.invokevirtual 64, 3) := by decide +kernel
theorem dX0_makeReady_71 : decode cX0_makeReady 71 = .ok (.aload_n 0, 1) := by decide +kernel
theorem dX0_makeReady_72 : decode cX0_makeReady 72 = .ok (.iconst 0, 1) := by decide +kernel
theorem dX0_makeReady_73 : decode cX0_makeReady 73 = .ok (.putfield 38, 3) := by decide +kernel
theorem dX0_makeReady_76 : decode cX0_makeReady 76 = .ok (.return_, 1) := by decide +kernel
set_option maxRecDepth 100000 in
theorem ggX0_findLeastCosts_X3_wantedOf : GoodIn wsX0_findLeastCosts wsX3_wantedOf := goodIn_r _ [6, 7, 8, 64, 65, 66, 67, 68, 69, 70] rfl (by decide +kernel)
set_option maxRecDepth 100000 in
theorem gX0_findLeastCosts_X3_wantedOf : GoodIn wsX0_findLeastCosts (wsV RX0 54 RX3 yX3_wantedOf wsX3_wantedOf) := goodIn_app (goodIn_of _ (by decide +kernel)) ggX0_findLeastCosts_X3_wantedOf
set_option maxRecDepth 100000 in
theorem ggX0_findLeastCosts_X0_findLeastCost : GoodIn wsX0_findLeastCosts wsX0_findLeastCost := goodIn_r _ [13, 14, 15, 16, 17, 18, 12, 19, 20, 21, 22, 23, 24, 25, 26, 1, 27, 28, 29, 30, 31, 32, 33, 34, 35, 36, 37, 38, 39, 40, 5, 41, 42, 43, 44, 45, 46, 47, 48, 49, 50, 51, 52, 53, 54, 55, 56, 57, 58, 59, 60, 61, 62, 63, 64, 65, 66, 67, 68, 69, 70] rfl (by decide +kernel)
set_option maxRecDepth 100000 in
theorem gX0_findLeastCosts_X0_findLeastCost : GoodIn wsX0_findLeastCosts (wsV RX0 68 RX0 yX0_findLeastCost wsX0_findLeastCost) := goodIn_app (goodIn_of _ (by decide +kernel)) ggX0_findLeastCosts_X0_findLeastCost
theorem dX0_findLeastCosts_0 : decode cX0_findLeastCosts 0 = .ok (.iconst 0, 1) := by decide +kernel
theorem dX0_findLeastCosts_1 : decode cX0_findLeastCosts 1 = .ok (.istore_n 1, 1) := by decide +kernel
theorem dX0_findLeastCosts_2 : decode cX0_findLeastCosts 2 = .ok (.iload_n 1, 1) := by decide +kernel
theorem dX0_findLeastCosts_3 : decode cX0_findLeastCosts 3 = .ok (.aload_n 0, 1) := by decide +kernel
theorem dX0_findLeastCosts_4 : decode cX0_findLeastCosts 4 = .ok (.getfield 41, 3) := by decide +kernel
theorem dX0_findLeastCosts_7 : decode cX0_findLeastCosts 7 = .ok (.iconst 0, 1) := by decide +kernel
theorem dX0_findLeastCosts_8 : decode cX0_findLeastCosts 8 = .ok (.invokevirtual 54, 3) := by decide +kernel
theorem dX0_findLeastCosts_11 : decode cX0_findLeastCosts 11 = .ok (.if_icmp .gt 80, 3) := by decide +kernel
theorem dX0_findLeastCosts_14 : decode cX0_findLeastCosts 14 = .ok (.iconst 0, 1) := by decide +kernel
theorem dX0_findLeastCosts_15 : decode cX0_findLeastCosts 15 = .ok (.istore_n 2, 1) := by decide +kernel
theorem dX0_findLeastCosts_16 : decode cX0_findLeastCosts 16 = .ok (.iload_n 2, 1) := by decide +kernel
theorem dX0_findLeastCosts_17 : decode cX0_findLeastCosts 17 = .ok (.aload_n 0, 1) := by decide +kernel
theorem dX0_findLeastCosts_18 : decode cX0_findLeastCosts 18 = .ok (.getfield 41, 3) := by decide +kernel
theorem dX0_findLeastCosts_21 : decode cX0_findLeastCosts 21 = .ok (.iconst 1, 1) := by decide +kernel
theorem dX0_findLeastCosts_22 : decode cX0_findLeastCosts 22 = .ok (.invokevirtual 54, 3) := by decide +kernel
theorem dX0_findLeastCosts_25 : decode cX0_findLeastCosts 25 = .ok (.if_icmp .gt 60, 3) := by decide +kernel
theorem dX0_findLeastCosts_28 : decode cX0_findLeastCosts 28 = .ok (.iconst 0, 1) := by decide +kernel
theorem dX0_findLeastCosts_29 : decode cX0_findLeastCosts 29 = .ok (.istore_n 3, 1) := by decide +kernel
theorem dX0_findLeastCosts_30 : decode cX0_findLeastCosts 30 = .ok (.iload_n 3, 1) := by decide +kernel
theorem dX0_findLeastCosts_31 : decode cX0_findLeastCosts 31 = .ok (.aload_n 0, 1) := by decide +kernel
theorem dX0_findLeastCosts_32 : decode cX0_findLeastCosts 32 = .ok (.getfield 41, 3) := by decide +kernel
theorem dX0_findLeastCosts_35 : decode cX0_findLeastCosts 35 = .ok (.iconst 2, 1) := by decide +kernel
theorem dX0_findLeastCosts_36 : decode cX0_findLeastCosts 36 = .ok (.invokevirtual 54, 3) := by decide +kernel
theorem dX0_findLeastCosts_39 : decode cX0_findLeastCosts 39 = .ok (.if_icmp .gt 40, 3) := by decide +kernel
theorem dX0_findLeastCosts_42 : decode cX0_findLeastCosts 42 = .ok (.iconst 0, 1) := by decide +kernel
theorem dX0_findLeastCosts_43 : decode cX0_findLeastCosts 43 = .ok (.istore 4, 2) := by decide +kernel
theorem dX0_findLeastCosts_45 : decode cX0_findLeastCosts 45 = .ok (.iload 4, 2) := by decide +kernel
theorem dX0_findLeastCosts_47 : decode cX0_findLeastCosts 47 = .ok (.aload_n 0, 1) := by decide +kernel
theorem dX0_findLeastCosts_48 : decode cX0_findLeastCosts 48 = .ok (.getfield 41, 3) := by decide +kernel
theorem dX0_findLeastCosts_51 : decode cX0_findLeastCosts 51 = .ok (.iconst 3, 1) := by decide +kernel
theorem dX0_findLeastCosts_52 : decode cX0_findLeastCosts 52 = .ok (.invokevirtual 54, 3) := by decide +kernel
theorem dX0_findLeastCosts_55 : decode cX0_findLeastCosts 55 = .ok (.if_icmp .gt 18, 3) := by decide +kernel
theorem dX0_findLeastCosts_58 : decode cX0_findLeastCosts 58 = .ok (.aload_n 0, 1) := by decide +kernel
theorem dX0_findLeastCosts_59 : decode cX0_findLeastCosts 59 = .ok (.iload_n 1, 1) := by decide +kernel
theorem dX0_findLeastCosts_60 : decode cX0_findLeastCosts 60 = .ok (.iload_n 2, 1) := by decide +kernel
theorem dX0_findLeastCosts_61 : decode cX0_findLeastCosts 61 = .ok (.iload_n 3, 1) := by decide +kernel
theorem dX0_findLeastCosts_62 : decode cX0_findLeastCosts 62 = .ok (.iload 4, 2) := by decide +kernel
theorem dX0_findLeastCosts_64 : decode cX0_findLeastCosts 64 = .ok (.invokevirtual 68, 3) := by decide +kernel
theorem dX0_findLeastCosts_67 : decode cX0_findLeastCosts 67 = .ok (.iinc 4 1, 3) := by decide +kernel
theorem dX0_findLeastCosts_70 : decode cX0_findLeastCosts 70 = .ok (.goto (-25), 3) := by decide +kernel
theorem dX0_findLeastCosts_73 : decode cX0_findLeastCosts 73 = .ok (.iinc 3 1, 3) := by decide +kernel
theorem dX0_findLeastCosts_76 : decode cX0_findLeastCosts 76 = .ok (.goto (-46), 3) := by decide +kernel
theorem dX0_findLeastCosts_79 : decode cX0_findLeastCosts 79 = .ok (.iinc 2 1, 3) := by decide +kernel
theorem dX0_findLeastCosts_82 : decode cX0_findLeastCosts 82 = .ok (.goto (-66), 3) := by decide +kernel
theorem dX0_findLeastCosts_85 : decode cX0_findLeastCosts 85 = .ok (.iinc 1 1, 3) := by decide +kernel
theorem dX0_findLeastCosts_88 : decode cX0_findLeastCosts 88 = .ok (.goto (-86), 3) := by decide +kernel
theorem dX0_findLeastCosts_91 : decode cX0_findLeastCosts 91 = .ok (.return_, 1) := by decide +kernel
set_option maxRecDepth 100000 in
theorem ggX0_findLeastCost_X0_code : GoodIn wsX0_findLeastCost wsX0_code := goodIn_r _ [7] rfl (by decide +kernel)
set_option maxRecDepth 100000 in
theorem gX0_findLeastCost_X0_code : GoodIn wsX0_findLeastCost (va_wsS RX0 60 yX0_code wsX0_code) := goodIn_app (goodIn_of _ (by decide +kernel)) ggX0_findLeastCost_X0_code
set_option maxRecDepth 100000 in
theorem ggX0_findLeastCost_X6_within : GoodIn wsX0_findLeastCost wsX6_within := goodIn_r _ [10] rfl (by decide +kernel)
set_option maxRecDepth 100000 in
theorem gX0_findLeastCost_X6_within_n72 : GoodIn wsX0_findLeastCost (wsX6_within) := ggX0_findLeastCost_X6_within
set_option maxRecDepth 100000 in
theorem ggX0_findLeastCost_X0_barCost : GoodIn wsX0_findLeastCost wsX0_barCost := goodIn_r _ [14, 15, 3, 16, 17, 18, 19, 6, 20, 21, 22, 23, 24, 25, 26, 27, 28, 29, 30, 31, 32, 33, 34, 44, 45, 46, 47, 48, 49, 50, 51, 52, 53, 54, 55, 56, 57, 58, 59, 60] rfl (by decide +kernel)
set_option maxRecDepth 100000 in
theorem gX0_findLeastCost_X0_barCost : GoodIn wsX0_findLeastCost (wsV RX0 76 RX0 yX0_barCost wsX0_barCost) := goodIn_app (goodIn_of _ (by decide +kernel)) ggX0_findLeastCost_X0_barCost
set_option maxRecDepth 100000 in
theorem ggX0_findLeastCost_X0_tryFirstBars : GoodIn wsX0_findLeastCost wsX0_tryFirstBars := goodIn_r _ [38, 39, 40, 41, 42, 2, 3, 1, 43, 44, 45, 46, 47, 48, 49, 50, 51, 52, 53] rfl (by decide +kernel)
set_option maxRecDepth 100000 in
theorem gX0_findLeastCost_X0_tryFirstBars : GoodIn wsX0_findLeastCost (wsV RX0 80 RX0 yX0_tryFirstBars wsX0_tryFirstBars) := goodIn_app (goodIn_of _ (by decide +kernel)) ggX0_findLeastCost_X0_tryFirstBars
theorem dX0_findLeastCost_0 : decode cX0_findLeastCost 0 = .ok (.iload_n 1, 1) := by decide +kernel
theorem dX0_findLeastCost_1 : decode cX0_findLeastCost 1 = .ok (.iload_n 2, 1) := by decide +kernel
theorem dX0_findLeastCost_2 : decode cX0_findLeastCost 2 = .ok (.iload_n 3, 1) := by decide +kernel
theorem dX0_findLeastCost_3 : decode cX0_findLeastCost 3 = .ok (.iload 4, 2) := by decide +kernel
theorem dX0_findLeastCost_5 : decode cX0_findLeastCost 5 = .ok (.invokestatic 60, 3) := by decide +kernel
theorem dX0_findLeastCost_8 : decode cX0_findLeastCost 8 = .ok (.istore 5, 2) := by decide +kernel
theorem dX0_findLeastCost_10 : decode cX0_findLeastCost 10 = .ok (.iload 5, 2) := by decide +kernel
theorem dX0_findLeastCost_12 : decode cX0_findLeastCost 12 = .ok (.iconst 1, 1) := by decide +kernel
theorem dX0_findLeastCost_13 : decode cX0_findLeastCost 13 = .ok (.sipush 4095, 3) := by decide +kernel
theorem dX0_findLeastCost_16 : decode cX0_findLeastCost 16 = .ok (.invokestatic 72, 3) := by decide +kernel
theorem dX0_findLeastCost_19 : decode cX0_findLeastCost 19 = .ok (.ifCond .eq 13, 3) := by decide +kernel
theorem dX0_findLeastCost_22 : decode cX0_findLeastCost 22 = .ok (.aload_n 0, 1) := by decide +kernel
theorem dX0_findLeastCost_23 : decode cX0_findLeastCost 23 = .ok (.getfield 15, 3) := by decide +kernel
theorem dX0_findLeastCost_26 : decode cX0_findLeastCost 26 = .ok (.iload 5, 2) := by decide +kernel
theorem dX0_findLeastCost_28 : decode cX0_findLeastCost 28 = .ok (.iaload, 1) := by decide +kernel
theorem dX0_findLeastCost_29 : decode cX0_findLeastCost 29 = .ok (.ifCond .eq 4, 3) := by decide +kernel
theorem dX0_findLeastCost_32 : decode cX0_findLeastCost 32 = .ok (.return_, 1) := by decide +kernel
theorem dX0_findLeastCost_33 : decode cX0_findLeastCost 33 = .ok (.aload_n 0, 1) := by decide +kernel
theorem dX0_findLeastCost_34 : decode cX0_findLeastCost 34 = .ok (.getfield 11, 3) := by decide +kernel
theorem dX0_findLeastCost_37 : decode cX0_findLeastCost 37 = .ok (.iload 5, 2) := by decide +kernel
theorem dX0_findLeastCost_39 : decode cX0_findLeastCost 39 = .ok (.aload_n 0, 1) := by decide +kernel
theorem dX0_findLeastCost_40 : decode cX0_findLeastCost 40 = .ok (.iload 5, 2) := by decide +kernel
theorem dX0_findLeastCost_42 : decode cX0_findLeastCost 42 = .ok (.invokevirtual 76, 3) := by decide +kernel
theorem dX0_findLeastCost_45 : decode cX0_findLeastCost 45 = .ok (.iastore, 1) := by decide +kernel
theorem dX0_findLeastCost_46 : decode cX0_findLeastCost 46 = .ok (.aload_n 0, 1) := by decide +kernel
theorem dX0_findLeastCost_47 : decode cX0_findLeastCost 47 = .ok (.getfield 15, 3) := by decide +kernel
theorem dX0_findLeastCost_50 : decode cX0_findLeastCost 50 = .ok (.iload 5, 2) := by decide +kernel
theorem dX0_findLeastCost_52 : decode cX0_findLeastCost 52 = .ok (.ldc 79, 2) := by decide +kernel
theorem dX0_findLeastCost_54 : decode cX0_findLeastCost 54 = .ok (.iastore, 1) := by decide +kernel
theorem dX0_findLeastCost_55 : decode cX0_findLeastCost 55 = .ok (.iconst 0, 1) := by decide +kernel
theorem dX0_findLeastCost_56 : decode cX0_findLeastCost 56 = .ok (.istore 6, 2) := by decide +kernel
theorem dX0_findLeastCost_58 : decode cX0_findLeastCost 58 = .ok (.iload 6, 2) := by decide +kernel
theorem dX0_findLeastCost_60 : decode cX0_findLeastCost 60 = .ok (.iload_n 1, 1) := by decide +kernel
theorem dX0_findLeastCost_61 : decode cX0_findLeastCost 61 = .ok (.if_icmp .gt 57, 3) := by decide +kernel
theorem dX0_findLeastCost_64 : decode cX0_findLeastCost 64 = .ok (.iconst 0, 1) := by decide +kernel
theorem dX0_findLeastCost_65 : decode cX0_findLeastCost 65 = .ok (.istore 7, 2) := by decide +kernel
theorem dX0_findLeastCost_67 : decode cX0_findLeastCost 67 = .ok (.iload 7, 2) := by decide +kernel
theorem dX0_findLeastCost_69 : decode cX0_findLeastCost 69 = .ok (.iload_n 2, 1) := by decide +kernel
theorem dX0_findLeastCost_70 : decode cX0_findLeastCost 70 = .ok (.if_icmp .gt 42, 3) := by decide +kernel
theorem dX0_findLeastCost_73 : decode cX0_findLeastCost 73 = .ok (.iconst 0, 1) := by decide +kernel
theorem dX0_findLeastCost_74 : decode cX0_findLeastCost 74 = .ok (.istore 8, 2) := by decide +kernel
theorem dX0_findLeastCost_76 : decode cX0_findLeastCost 76 = .ok (.iload 8, 2) := by decide +kernel
theorem dX0_findLeastCost_78 : decode cX0_findLeastCost 78 = .ok (.iload_n 3, 1) := by decide +kernel
theorem dX0_findLeastCost_79 : decode cX0_findLeastCost 79 = .ok (.if_icmp .gt 27, 3) := by decide +kernel
theorem dX0_findLeastCost_82 : decode cX0_findLeastCost 82 = .ok (.aload_n 0, 1) := by decide +kernel
theorem dX0_findLeastCost_83 : decode cX0_findLeastCost 83 = .ok (.iload 5, 2) := by decide +kernel
theorem dX0_findLeastCost_85 : decode cX0_findLeastCost 85 = .ok (.iload 6, 2) := by decide +kernel
theorem dX0_findLeastCost_87 : decode cX0_findLeastCost 87 = .ok (.iload 7, 2) := by decide +kernel
theorem dX0_findLeastCost_89 : decode cX0_findLeastCost 89 = .ok (.iload 8, 2) := by decide +kernel
theorem dX0_findLeastCost_91 : decode cX0_findLeastCost 91 = .ok (.iconst 0, 1) := by decide +kernel
theorem dX0_findLeastCost_92 : decode cX0_findLeastCost 92 = .ok (.invokestatic 60, 3) := by decide +kernel
theorem dX0_findLeastCost_95 : decode cX0_findLeastCost 95 = .ok (.iload 4, 2) := by decide +kernel
theorem dX0_findLeastCost_97 : decode cX0_findLeastCost 97 = .ok (.invokevirtual 80, 3) := by decide +kernel
theorem dX0_findLeastCost_100 : decode cX0_findLeastCost 100 = .ok (.iinc 8 1, 3) := by decide +kernel
theorem dX0_findLeastCost_103 : decode cX0_findLeastCost 103 = .ok (.goto (-27), 3) := by decide +kernel
theorem dX0_findLeastCost_106 : decode cX0_findLeastCost 106 = .ok (.iinc 7 1, 3) := by decide +kernel
theorem dX0_findLeastCost_109 : decode cX0_findLeastCost 109 = .ok (.goto (-42), 3) := by decide +kernel
theorem dX0_findLeastCost_112 : decode cX0_findLeastCost 112 = .ok (.iinc 6 1, 3) := by decide +kernel
theorem dX0_findLeastCost_115 : decode cX0_findLeastCost 115 = .ok (.goto (-57), 3) := by decide +kernel
theorem dX0_findLeastCost_118 : decode cX0_findLeastCost 118 = .ok (.return_, 1) := by decide +kernel
theorem dX0_tryFirstBars_0 : decode cX0_tryFirstBars 0 = .ok (.iload_n 2, 1) := by decide +kernel
theorem dX0_tryFirstBars_1 : decode cX0_tryFirstBars 1 = .ok (.iload_n 3, 1) := by decide +kernel
theorem dX0_tryFirstBars_2 : decode cX0_tryFirstBars 2 = .ok (.iadd, 1) := by decide +kernel
theorem dX0_tryFirstBars_3 : decode cX0_tryFirstBars 3 = .ok (.istore 4, 2) := by decide +kernel
theorem dX0_tryFirstBars_5 : decode cX0_tryFirstBars 5 = .ok (.iload_n 2, 1) := by decide +kernel
theorem dX0_tryFirstBars_6 : decode cX0_tryFirstBars 6 = .ok (.ifCond .lt 16, 3) := by decide +kernel
theorem dX0_tryFirstBars_9 : decode cX0_tryFirstBars 9 = .ok (.iload 4, 2) := by decide +kernel
theorem dX0_tryFirstBars_11 : decode cX0_tryFirstBars 11 = .ok (.iload_n 1, 1) := by decide +kernel
theorem dX0_tryFirstBars_12 : decode cX0_tryFirstBars 12 = .ok (.if_icmp .gt 10, 3) := by decide +kernel
theorem dX0_tryFirstBars_15 : decode cX0_tryFirstBars 15 = .ok (.iload_n 1, 1) := by decide +kernel
theorem dX0_tryFirstBars_16 : decode cX0_tryFirstBars 16 = .ok (.sipush 4096, 3) := by decide +kernel
theorem dX0_tryFirstBars_19 : decode cX0_tryFirstBars 19 = .ok (.if_icmp .lt 4, 3) := by decide +kernel
theorem dX0_tryFirstBars_22 : decode cX0_tryFirstBars 22 = .ok (.return_, 1) := by decide +kernel
theorem dX0_tryFirstBars_23 : decode cX0_tryFirstBars 23 = .ok (.iload_n 2, 1) := by decide +kernel
theorem dX0_tryFirstBars_24 : decode cX0_tryFirstBars 24 = .ok (.iconst 1, 1) := by decide +kernel
theorem dX0_tryFirstBars_25 : decode cX0_tryFirstBars 25 = .ok (.invokestatic 84, 3) := by decide +kernel
theorem dX0_tryFirstBars_28 : decode cX0_tryFirstBars 28 = .ok (.istore 5, 2) := by decide +kernel
theorem dX0_tryFirstBars_30 : decode cX0_tryFirstBars 30 = .ok (.iload 5, 2) := by decide +kernel
theorem dX0_tryFirstBars_32 : decode cX0_tryFirstBars 32 = .ok (.iload 4, 2) := by decide +kernel
theorem dX0_tryFirstBars_34 : decode cX0_tryFirstBars 34 = .ok (.if_icmp .gt 67, 3) := by decide +kernel
theorem dX0_tryFirstBars_37 : decode cX0_tryFirstBars 37 = .ok (.aload_n 0, 1) := by decide +kernel
theorem dX0_tryFirstBars_38 : decode cX0_tryFirstBars 38 = .ok (.getfield 11, 3) := by decide +kernel
theorem dX0_tryFirstBars_41 : decode cX0_tryFirstBars 41 = .ok (.iload 5, 2) := by decide +kernel
theorem dX0_tryFirstBars_43 : decode cX0_tryFirstBars 43 = .ok (.iaload, 1) := by decide +kernel
theorem dX0_tryFirstBars_44 : decode cX0_tryFirstBars 44 = .ok (.ldc 79, 2) := by decide +kernel
theorem dX0_tryFirstBars_46 : decode cX0_tryFirstBars 46 = .ok (.if_icmp .ge 55, 3) := by decide +kernel
theorem dX0_tryFirstBars_49 : decode cX0_tryFirstBars 49 = .ok (.aload_n 0, 1) := by decide +kernel
theorem dX0_tryFirstBars_50 : decode cX0_tryFirstBars 50 = .ok (.getfield 11, 3) := by decide +kernel
theorem dX0_tryFirstBars_53 : decode cX0_tryFirstBars 53 = .ok (.iload 5, 2) := by decide +kernel
theorem dX0_tryFirstBars_55 : decode cX0_tryFirstBars 55 = .ok (.iaload, 1) := by decide +kernel
theorem dX0_tryFirstBars_56 : decode cX0_tryFirstBars 56 = .ok (.aload_n 0, 1) := by decide +kernel
theorem dX0_tryFirstBars_57 : decode cX0_tryFirstBars 57 = .ok (.getfield 15, 3) := by decide +kernel
theorem dX0_tryFirstBars_60 : decode cX0_tryFirstBars 60 = .ok (.iload_n 1, 1) := by decide +kernel
theorem dX0_tryFirstBars_61 : decode cX0_tryFirstBars 61 = .ok (.iload 5, 2) := by decide +kernel
theorem dX0_tryFirstBars_63 : decode cX0_tryFirstBars 63 = .ok (.isub, 1) := by decide +kernel
theorem dX0_tryFirstBars_64 : decode cX0_tryFirstBars 64 = .ok (.iaload, 1) := by decide +kernel
theorem dX0_tryFirstBars_65 : decode cX0_tryFirstBars 65 = .ok (.iadd, 1) := by decide +kernel
theorem dX0_tryFirstBars_66 : decode cX0_tryFirstBars 66 = .ok (.istore 6, 2) := by decide +kernel
theorem dX0_tryFirstBars_68 : decode cX0_tryFirstBars 68 = .ok (.iload 6, 2) := by decide +kernel
theorem dX0_tryFirstBars_70 : decode cX0_tryFirstBars 70 = .ok (.aload_n 0, 1) := by decide +kernel
theorem dX0_tryFirstBars_71 : decode cX0_tryFirstBars 71 = .ok (.getfield 15, 3) := by decide +kernel
theorem dX0_tryFirstBars_74 : decode cX0_tryFirstBars 74 = .ok (.iload_n 1, 1) := by decide +kernel
theorem dX0_tryFirstBars_75 : decode cX0_tryFirstBars 75 = .ok (.iaload, 1) := by decide +kernel
theorem dX0_tryFirstBars_76 : decode cX0_tryFirstBars 76 = .ok (.if_icmp .gt 19, 3) := by decide +kernel
theorem dX0_tryFirstBars_79 : decode cX0_tryFirstBars 79 = .ok (.aload_n 0, 1) := by decide +kernel
theorem dX0_tryFirstBars_80 : decode cX0_tryFirstBars 80 = .ok (.getfield 15, 3) := by decide +kernel
theorem dX0_tryFirstBars_83 : decode cX0_tryFirstBars 83 = .ok (.iload_n 1, 1) := by decide +kernel
theorem dX0_tryFirstBars_84 : decode cX0_tryFirstBars 84 = .ok (.iload 6, 2) := by decide +kernel
theorem dX0_tryFirstBars_86 : decode cX0_tryFirstBars 86 = .ok (.iastore, 1) := by decide +kernel
theorem dX0_tryFirstBars_87 : decode cX0_tryFirstBars 87 = .ok (.aload_n 0, 1) := by decide +kernel
theorem dX0_tryFirstBars_88 : decode cX0_tryFirstBars 88 = .ok (.getfield 18, 3) := by decide +kernel
theorem dX0_tryFirstBars_91 : decode cX0_tryFirstBars 91 = .ok (.iload_n 1, 1) := by decide +kernel
theorem dX0_tryFirstBars_92 : decode cX0_tryFirstBars 92 = .ok (.iload 5, 2) := by decide +kernel
theorem dX0_tryFirstBars_94 : decode cX0_tryFirstBars 94 = .ok (.iastore, 1) := by decide +kernel
theorem dX0_tryFirstBars_95 : decode cX0_tryFirstBars 95 = .ok (.iinc 5 1, 3) := by decide +kernel
theorem dX0_tryFirstBars_98 : decode cX0_tryFirstBars 98 = .ok (.goto (-68), 3) := by decide +kernel
theorem dX0_tryFirstBars_101 : decode cX0_tryFirstBars 101 = .ok (.return_, 1) := by decide +kernel
set_option maxRecDepth 100000 in
theorem ggX0_barCost_X0_lengthWanted : GoodIn wsX0_barCost wsX0_lengthWanted := goodIn_r _ [8, 1, 9, 10, 11, 12, 13, 7, 14, 23, 24, 25, 26, 27, 28, 29, 30, 31, 32, 33, 34, 35, 36, 37, 38, 39] rfl (by decide +kernel)
set_option maxRecDepth 100000 in
theorem gX0_barCost_X0_lengthWanted : GoodIn wsX0_barCost (wsV RX0 90 RX0 yX0_lengthWanted wsX0_lengthWanted) := goodIn_app (goodIn_of _ (by decide +kernel)) ggX0_barCost_X0_lengthWanted
set_option maxRecDepth 100000 in
theorem ggX0_barCost_X3_stockFor : GoodIn wsX0_barCost wsX3_stockFor := goodIn_r _ [19, 20, 21, 22, 33, 34, 35, 36, 37, 38, 39] rfl (by decide +kernel)
set_option maxRecDepth 100000 in
theorem gX0_barCost_X3_stockFor : GoodIn wsX0_barCost (wsV RX0 93 RX3 yX3_stockFor wsX3_stockFor) := goodIn_app (goodIn_of _ (by decide +kernel)) ggX0_barCost_X3_stockFor
theorem dX0_barCost_0 : decode cX0_barCost 0 = .ok (.aload_n 0, 1) := by decide +kernel
theorem dX0_barCost_1 : decode cX0_barCost 1 = .ok (.getfield 41, 3) := by decide +kernel
theorem dX0_barCost_4 : decode cX0_barCost 4 = .ok (.aload_n 0, 1) := by decide +kernel
theorem dX0_barCost_5 : decode cX0_barCost 5 = .ok (.iload_n 1, 1) := by decide +kernel
theorem dX0_barCost_6 : decode cX0_barCost 6 = .ok (.invokevirtual 90, 3) := by decide +kernel
theorem dX0_barCost_9 : decode cX0_barCost 9 = .ok (.invokevirtual 93, 3) := by decide +kernel
theorem dX0_barCost_12 : decode cX0_barCost 12 = .ok (.istore_n 2, 1) := by decide +kernel
theorem dX0_barCost_13 : decode cX0_barCost 13 = .ok (.iload_n 2, 1) := by decide +kernel
theorem dX0_barCost_14 : decode cX0_barCost 14 = .ok (.iconst (-1), 1) := by decide +kernel
theorem dX0_barCost_15 : decode cX0_barCost 15 = .ok (.if_icmp .ne 8, 3) := by decide +kernel
theorem dX0_barCost_18 : decode cX0_barCost 18 = .ok (.ldc 79, 2) := by decide +kernel
theorem dX0_barCost_20 : decode cX0_barCost 20 = .ok (.goto 17, 3) := by decide +kernel
theorem dX0_barCost_23 : decode cX0_barCost 23 = .ok (.aload_n 0, 1) := by decide +kernel
theorem dX0_barCost_24 : decode cX0_barCost 24 = .ok (.getfield 41, 3) := by decide +kernel
theorem dX0_barCost_27 : decode cX0_barCost 27 = .ok (.getfield 96, 3) := by decide +kernel
theorem dX0_barCost_30 : decode cX0_barCost 30 = .ok (.iload_n 2, 1) := by decide +kernel
theorem dX0_barCost_31 : decode cX0_barCost 31 = .ok (.iaload, 1) := by decide +kernel
theorem dX0_barCost_32 : decode cX0_barCost 32 = .ok (.bipush 21, 2) := by decide +kernel
theorem dX0_barCost_34 : decode cX0_barCost 34 = .ok (.imul, 1) := by decide +kernel
theorem dX0_barCost_35 : decode cX0_barCost 35 = .ok (.iconst 1, 1) := by decide +kernel
theorem dX0_barCost_36 : decode cX0_barCost 36 = .ok (.iadd, 1) := by decide +kernel
theorem dX0_barCost_37 : decode cX0_barCost 37 = .ok (.ireturn, 1) := by decide +kernel
set_option maxRecDepth 100000 in
theorem ggX0_takeBars_X6_within : GoodIn wsX0_takeBars wsX6_within := goodIn_r _ [10] rfl (by decide +kernel)
set_option maxRecDepth 100000 in
theorem gX0_takeBars_X6_within_n72 : GoodIn wsX0_takeBars (wsX6_within) := ggX0_takeBars_X6_within
theorem dX0_takeBars_0 : decode cX0_takeBars 0 = .ok (.aload_n 0, 1) := by decide +kernel
theorem dX0_takeBars_1 : decode cX0_takeBars 1 = .ok (.iconst 0, 1) := by decide +kernel
theorem dX0_takeBars_2 : decode cX0_takeBars 2 = .ok (.putfield 24, 3) := by decide +kernel
theorem dX0_takeBars_5 : decode cX0_takeBars 5 = .ok (.aload_n 0, 1) := by decide +kernel
theorem dX0_takeBars_6 : decode cX0_takeBars 6 = .ok (.iconst 0, 1) := by decide +kernel
theorem dX0_takeBars_7 : decode cX0_takeBars 7 = .ok (.putfield 28, 3) := by decide +kernel
theorem dX0_takeBars_10 : decode cX0_takeBars 10 = .ok (.aload_n 0, 1) := by decide +kernel
theorem dX0_takeBars_11 : decode cX0_takeBars 11 = .ok (.iload_n 1, 1) := by decide +kernel
theorem dX0_takeBars_12 : decode cX0_takeBars 12 = .ok (.iconst 0, 1) := by decide +kernel
theorem dX0_takeBars_13 : decode cX0_takeBars 13 = .ok (.sipush 4095, 3) := by decide +kernel
theorem dX0_takeBars_16 : decode cX0_takeBars 16 = .ok (.invokestatic 72, 3) := by decide +kernel
theorem dX0_takeBars_19 : decode cX0_takeBars 19 = .ok (.ifCond .eq 14, 3) := by decide +kernel
theorem dX0_takeBars_22 : decode cX0_takeBars 22 = .ok (.aload_n 0, 1) := by decide +kernel
theorem dX0_takeBars_23 : decode cX0_takeBars 23 = .ok (.getfield 15, 3) := by decide +kernel
theorem dX0_takeBars_26 : decode cX0_takeBars 26 = .ok (.iload_n 1, 1) := by decide +kernel
theorem dX0_takeBars_27 : decode cX0_takeBars 27 = .ok (.iaload, 1) := by decide +kernel
theorem dX0_takeBars_28 : decode cX0_takeBars 28 = .ok (.ldc 79, 2) := by decide +kernel
theorem dX0_takeBars_30 : decode cX0_takeBars 30 = .ok (.if_icmp .lt 7, 3) := by decide +kernel
theorem dX0_takeBars_33 : decode cX0_takeBars 33 = .ok (.iconst 1, 1) := by decide +kernel
theorem dX0_takeBars_34 : decode cX0_takeBars 34 = .ok (.goto 4, 3) := by decide +kernel
theorem dX0_takeBars_37 : decode cX0_takeBars 37 = .ok (.iconst 0, 1) := by decide +kernel
theorem dX0_takeBars_38 : decode cX0_takeBars 38 = .ok (.putfield 31, 3) := by decide +kernel
theorem dX0_takeBars_41 : decode cX0_takeBars 41 = .ok (.aload_n 0, 1) := by decide +kernel
theorem dX0_takeBars_42 : decode cX0_takeBars 42 = .ok (.getfield 31, 3) := by decide +kernel
theorem dX0_takeBars_45 : decode cX0_takeBars 45 = .ok (.ifCond .eq 4, 3) := by decide +kernel
theorem dX0_takeBars_48 : decode cX0_takeBars 48 = .ok (.return_, 1) := by decide +kernel
theorem dX0_takeBars_49 : decode cX0_takeBars 49 = .ok (.aload_n 0, 1) := by decide +kernel
theorem dX0_takeBars_50 : decode cX0_takeBars 50 = .ok (.aload_n 0, 1) := by decide +kernel
theorem dX0_takeBars_51 : decode cX0_takeBars 51 = .ok (.getfield 15, 3) := by decide +kernel
theorem dX0_takeBars_54 : decode cX0_takeBars 54 = .ok (.iload_n 1, 1) := by decide +kernel
theorem dX0_takeBars_55 : decode cX0_takeBars 55 = .ok (.iaload, 1) := by decide +kernel
theorem dX0_takeBars_56 : decode cX0_takeBars 56 = .ok (.bipush 21, 2) := by decide +kernel
theorem dX0_takeBars_58 : decode cX0_takeBars 58 = .ok (.idiv, 1) := by decide +kernel
theorem dX0_takeBars_59 : decode cX0_takeBars 59 = .ok (.putfield 28, 3) := by decide +kernel
theorem dX0_takeBars_62 : decode cX0_takeBars 62 = .ok (.iload_n 1, 1) := by decide +kernel
theorem dX0_takeBars_63 : decode cX0_takeBars 63 = .ok (.istore_n 2, 1) := by decide +kernel
theorem dX0_takeBars_64 : decode cX0_takeBars 64 = .ok (.aload_n 0, 1) := by decide +kernel
theorem dX0_takeBars_65 : decode cX0_takeBars 65 = .ok (.getfield 24, 3) := by decide +kernel
theorem dX0_takeBars_68 : decode cX0_takeBars 68 = .ok (.bipush 20, 2) := by decide +kernel
theorem dX0_takeBars_70 : decode cX0_takeBars 70 = .ok (.if_icmp .ge 51, 3) := by decide +kernel
theorem dX0_takeBars_73 : decode cX0_takeBars 73 = .ok (.iload_n 2, 1) := by decide +kernel
theorem dX0_takeBars_74 : decode cX0_takeBars 74 = .ok (.iconst 1, 1) := by decide +kernel
theorem dX0_takeBars_75 : decode cX0_takeBars 75 = .ok (.sipush 4095, 3) := by decide +kernel
theorem dX0_takeBars_78 : decode cX0_takeBars 78 = .ok (.invokestatic 72, 3) := by decide +kernel
theorem dX0_takeBars_81 : decode cX0_takeBars 81 = .ok (.ifCond .eq 40, 3) := by decide +kernel
theorem dX0_takeBars_84 : decode cX0_takeBars 84 = .ok (.aload_n 0, 1) := by decide +kernel
theorem dX0_takeBars_85 : decode cX0_takeBars 85 = .ok (.getfield 21, 3) := by decide +kernel
theorem dX0_takeBars_88 : decode cX0_takeBars 88 = .ok (.aload_n 0, 1) := by decide +kernel
theorem dX0_takeBars_89 : decode cX0_takeBars 89 = .ok (.getfield 24, 3) := by decide +kernel
theorem dX0_takeBars_92 : decode cX0_takeBars 92 = .ok (.aload_n 0, 1) := by decide +kernel
theorem dX0_takeBars_93 : decode cX0_takeBars 93 = .ok (.getfield 18, 3) := by decide +kernel
theorem dX0_takeBars_96 : decode cX0_takeBars 96 = .ok (.iload_n 2, 1) := by decide +kernel
theorem dX0_takeBars_97 : decode cX0_takeBars 97 = .ok (.iaload, 1) := by decide +kernel
theorem dX0_takeBars_98 : decode cX0_takeBars 98 = .ok (.iastore, 1) := by decide +kernel
theorem dX0_takeBars_99 : decode cX0_takeBars 99 = .ok (.iload_n 2, 1) := by decide +kernel
theorem dX0_takeBars_100 : decode cX0_takeBars 100 = .ok (.aload_n 0, 1) := by decide +kernel
theorem dX0_takeBars_101 : decode cX0_takeBars 101 = .ok (.getfield 18, 3) := by decide +kernel
theorem dX0_takeBars_104 : decode cX0_takeBars 104 = .ok (.iload_n 2, 1) := by decide +kernel
theorem dX0_takeBars_105 : decode cX0_takeBars 105 = .ok (.iaload, 1) := by decide +kernel
theorem dX0_takeBars_106 : decode cX0_takeBars 106 = .ok (.isub, 1) := by decide +kernel
theorem dX0_takeBars_107 : decode cX0_takeBars 107 = .ok (.istore_n 2, 1) := by decide +kernel
theorem dX0_takeBars_108 : decode cX0_takeBars 108 = .ok (.aload_n 0, 1) := by decide +kernel
theorem dX0_takeBars_109 : decode cX0_takeBars 109 = .ok (.dup, 1) := by decide +kernel
theorem dX0_takeBars_110 : decode cX0_takeBars 110 = .ok (.getfield 24, 3) := by decide +kernel
theorem dX0_takeBars_113 : decode cX0_takeBars 113 = .ok (.iconst 1, 1) := by decide +kernel
theorem dX0_takeBars_114 : decode cX0_takeBars 114 = .ok (.iadd, 1) := by decide +kernel
theorem dX0_takeBars_115 : decode cX0_takeBars 115 = .ok (.putfield 24, 3) := by decide +kernel
theorem dX0_takeBars_118 : decode cX0_takeBars 118 = .ok (.goto (-54), 3) := by decide +kernel
theorem dX0_takeBars_121 : decode cX0_takeBars 121 = .ok (.return_, 1) := by decide +kernel
set_option maxRecDepth 100000 in
theorem ggX0_fact_X0_numberOf : GoodIn wsX0_fact wsX0_numberOf := goodIn_r _ [6] rfl (by decide +kernel)
set_option maxRecDepth 100000 in
theorem gX0_fact_X0_numberOf : GoodIn wsX0_fact (va_wsS RX0 99 yX0_numberOf wsX0_numberOf) := goodIn_app (goodIn_of _ (by decide +kernel)) ggX0_fact_X0_numberOf
set_option maxRecDepth 100000 in
theorem ggX0_fact_X0_lengthWanted : GoodIn wsX0_fact wsX0_lengthWanted := goodIn_r _ [10, 1, 11, 12, 13, 3, 4, 5, 6, 22, 23, 24, 25, 26, 27, 28, 29, 30, 31, 32, 33, 34, 35, 36, 37, 38] rfl (by decide +kernel)
set_option maxRecDepth 100000 in
theorem gX0_fact_X0_lengthWanted : GoodIn wsX0_fact (wsV RX0 90 RX0 yX0_lengthWanted wsX0_lengthWanted) := goodIn_app (goodIn_of _ (by decide +kernel)) ggX0_fact_X0_lengthWanted
set_option maxRecDepth 100000 in
theorem ggX0_fact_X3_stockFor : GoodIn wsX0_fact wsX3_stockFor := goodIn_r _ [18, 19, 20, 21, 32, 33, 34, 35, 36, 37, 38] rfl (by decide +kernel)
set_option maxRecDepth 100000 in
theorem gX0_fact_X3_stockFor : GoodIn wsX0_fact (wsV RX0 93 RX3 yX3_stockFor wsX3_stockFor) := goodIn_app (goodIn_of _ (by decide +kernel)) ggX0_fact_X3_stockFor
theorem dX0_fact_0 : decode cX0_fact 0 = .ok (.iload_n 2, 1) := by decide +kernel
theorem dX0_fact_1 : decode cX0_fact 1 = .ok (.iconst 2, 1) := by decide +kernel
theorem dX0_fact_2 : decode cX0_fact 2 = .ok (.if_icmp .lt 11, 3) := by decide +kernel
theorem dX0_fact_5 : decode cX0_fact 5 = .ok (.iload_n 1, 1) := by decide +kernel
theorem dX0_fact_6 : decode cX0_fact 6 = .ok (.iload_n 2, 1) := by decide +kernel
theorem dX0_fact_7 : decode cX0_fact 7 = .ok (.iconst 2, 1) := by decide +kernel
theorem dX0_fact_8 : decode cX0_fact 8 = .ok (.isub, 1) := by decide +kernel
theorem dX0_fact_9 : decode cX0_fact 9 = .ok (.invokestatic 99, 3) := by decide +kernel
theorem dX0_fact_12 : decode cX0_fact 12 = .ok (.ireturn, 1) := by decide +kernel
theorem dX0_fact_13 : decode cX0_fact 13 = .ok (.aload_n 0, 1) := by decide +kernel
theorem dX0_fact_14 : decode cX0_fact 14 = .ok (.iload_n 1, 1) := by decide +kernel
theorem dX0_fact_15 : decode cX0_fact 15 = .ok (.invokevirtual 90, 3) := by decide +kernel
theorem dX0_fact_18 : decode cX0_fact 18 = .ok (.istore_n 3, 1) := by decide +kernel
theorem dX0_fact_19 : decode cX0_fact 19 = .ok (.aload_n 0, 1) := by decide +kernel
theorem dX0_fact_20 : decode cX0_fact 20 = .ok (.getfield 41, 3) := by decide +kernel
theorem dX0_fact_23 : decode cX0_fact 23 = .ok (.iload_n 3, 1) := by decide +kernel
theorem dX0_fact_24 : decode cX0_fact 24 = .ok (.invokevirtual 93, 3) := by decide +kernel
theorem dX0_fact_27 : decode cX0_fact 27 = .ok (.istore 4, 2) := by decide +kernel
theorem dX0_fact_29 : decode cX0_fact 29 = .ok (.iload 4, 2) := by decide +kernel
theorem dX0_fact_31 : decode cX0_fact 31 = .ok (.iconst (-1), 1) := by decide +kernel
theorem dX0_fact_32 : decode cX0_fact 32 = .ok (.if_icmp .eq 7, 3) := by decide +kernel
theorem dX0_fact_35 : decode cX0_fact 35 = .ok (.iload_n 2, 1) := by decide +kernel
theorem dX0_fact_36 : decode cX0_fact 36 = .ok (.ifCond .ne 6, 3) := by decide +kernel
theorem dX0_fact_39 : decode cX0_fact 39 = .ok (.iload 4, 2) := by decide +kernel
theorem dX0_fact_41 : decode cX0_fact 41 = .ok (.ireturn, 1) := by decide +kernel
theorem dX0_fact_42 : decode cX0_fact 42 = .ok (.aload_n 0, 1) := by decide +kernel
theorem dX0_fact_43 : decode cX0_fact 43 = .ok (.getfield 41, 3) := by decide +kernel
theorem dX0_fact_46 : decode cX0_fact 46 = .ok (.getfield 102, 3) := by decide +kernel
theorem dX0_fact_49 : decode cX0_fact 49 = .ok (.iload 4, 2) := by decide +kernel
theorem dX0_fact_51 : decode cX0_fact 51 = .ok (.iaload, 1) := by decide +kernel
theorem dX0_fact_52 : decode cX0_fact 52 = .ok (.iload_n 3, 1) := by decide +kernel
theorem dX0_fact_53 : decode cX0_fact 53 = .ok (.isub, 1) := by decide +kernel
theorem dX0_fact_54 : decode cX0_fact 54 = .ok (.ireturn, 1) := by decide +kernel
set_option maxRecDepth 100000 in
theorem ggX0_lengthWanted_X0_numberOf : GoodIn wsX0_lengthWanted wsX0_numberOf := goodIn_r _ [8] rfl (by decide +kernel)
set_option maxRecDepth 100000 in
theorem gX0_lengthWanted_X0_numberOf : GoodIn wsX0_lengthWanted (va_wsS RX0 99 yX0_numberOf wsX0_numberOf) := goodIn_app (goodIn_of _ (by decide +kernel)) ggX0_lengthWanted_X0_numberOf
theorem dX0_lengthWanted_0 : decode cX0_lengthWanted 0 = .ok (.aload_n 0, 1) := by decide +kernel
theorem dX0_lengthWanted_1 : decode cX0_lengthWanted 1 = .ok (.getfield 41, 3) := by decide +kernel
theorem dX0_lengthWanted_4 : decode cX0_lengthWanted 4 = .ok (.getfield 105, 3) := by decide +kernel
theorem dX0_lengthWanted_7 : decode cX0_lengthWanted 7 = .ok (.ineg, 1) := by decide +kernel
theorem dX0_lengthWanted_8 : decode cX0_lengthWanted 8 = .ok (.istore_n 2, 1) := by decide +kernel
theorem dX0_lengthWanted_9 : decode cX0_lengthWanted 9 = .ok (.iconst 0, 1) := by decide +kernel
theorem dX0_lengthWanted_10 : decode cX0_lengthWanted 10 = .ok (.istore_n 3, 1) := by decide +kernel
theorem dX0_lengthWanted_11 : decode cX0_lengthWanted 11 = .ok (.iload_n 3, 1) := by decide +kernel
theorem dX0_lengthWanted_12 : decode cX0_lengthWanted 12 = .ok (.aload_n 0, 1) := by decide +kernel
theorem dX0_lengthWanted_13 : decode cX0_lengthWanted 13 = .ok (.getfield 41, 3) := by decide +kernel
theorem dX0_lengthWanted_16 : decode cX0_lengthWanted 16 = .ok (.getfield 108, 3) := by decide +kernel
theorem dX0_lengthWanted_19 : decode cX0_lengthWanted 19 = .ok (.if_icmp .ge 40, 3) := by decide +kernel
theorem dX0_lengthWanted_22 : decode cX0_lengthWanted 22 = .ok (.iload_n 3, 1) := by decide +kernel
theorem dX0_lengthWanted_23 : decode cX0_lengthWanted 23 = .ok (.iconst 4, 1) := by decide +kernel
theorem dX0_lengthWanted_24 : decode cX0_lengthWanted 24 = .ok (.if_icmp .ge 35, 3) := by decide +kernel
theorem dX0_lengthWanted_27 : decode cX0_lengthWanted 27 = .ok (.iload_n 2, 1) := by decide +kernel
theorem dX0_lengthWanted_28 : decode cX0_lengthWanted 28 = .ok (.iload_n 1, 1) := by decide +kernel
theorem dX0_lengthWanted_29 : decode cX0_lengthWanted 29 = .ok (.iload_n 3, 1) := by decide +kernel
theorem dX0_lengthWanted_30 : decode cX0_lengthWanted 30 = .ok (.invokestatic 99, 3) := by decide +kernel
theorem dX0_lengthWanted_33 : decode cX0_lengthWanted 33 = .ok (.aload_n 0, 1) := by decide +kernel
theorem dX0_lengthWanted_34 : decode cX0_lengthWanted 34 = .ok (.getfield 41, 3) := by decide +kernel
theorem dX0_lengthWanted_37 : decode cX0_lengthWanted 37 = .ok (.getfield 111, 3) := by decide +kernel
theorem dX0_lengthWanted_40 : decode cX0_lengthWanted 40 = .ok (.iload_n 3, 1) := by decide +kernel
theorem dX0_lengthWanted_41 : decode cX0_lengthWanted 41 = .ok (.iaload, 1) := by decide +kernel
theorem dX0_lengthWanted_42 : decode cX0_lengthWanted 42 = .ok (.aload_n 0, 1) := by decide +kernel
theorem dX0_lengthWanted_43 : decode cX0_lengthWanted 43 = .ok (.getfield 41, 3) := by decide +kernel
theorem dX0_lengthWanted_46 : decode cX0_lengthWanted 46 = .ok (.getfield 105, 3) := by decide +kernel
theorem dX0_lengthWanted_49 : decode cX0_lengthWanted 49 = .ok (.iadd, 1) := by decide +kernel
theorem dX0_lengthWanted_50 : decode cX0_lengthWanted 50 = .ok (.imul, 1) := by decide +kernel
theorem dX0_lengthWanted_51 : decode cX0_lengthWanted 51 = .ok (.iadd, 1) := by decide +kernel
theorem dX0_lengthWanted_52 : decode cX0_lengthWanted 52 = .ok (.istore_n 2, 1) := by decide +kernel
theorem dX0_lengthWanted_53 : decode cX0_lengthWanted 53 = .ok (.iinc 3 1, 3) := by decide +kernel
theorem dX0_lengthWanted_56 : decode cX0_lengthWanted 56 = .ok (.goto (-45), 3) := by decide +kernel
theorem dX0_lengthWanted_59 : decode cX0_lengthWanted 59 = .ok (.iload_n 2, 1) := by decide +kernel
theorem dX0_lengthWanted_60 : decode cX0_lengthWanted 60 = .ok (.ireturn, 1) := by decide +kernel
theorem dX0_numberOf_0 : decode cX0_numberOf 0 = .ok (.iload_n 0, 1) := by decide +kernel
theorem dX0_numberOf_1 : decode cX0_numberOf 1 = .ok (.iconst 3, 1) := by decide +kernel
theorem dX0_numberOf_2 : decode cX0_numberOf 2 = .ok (.iload_n 1, 1) := by decide +kernel
theorem dX0_numberOf_3 : decode cX0_numberOf 3 = .ok (.isub, 1) := by decide +kernel
theorem dX0_numberOf_4 : decode cX0_numberOf 4 = .ok (.iconst 3, 1) := by decide +kernel
theorem dX0_numberOf_5 : decode cX0_numberOf 5 = .ok (.imul, 1) := by decide +kernel
theorem dX0_numberOf_6 : decode cX0_numberOf 6 = .ok (.ishr, 1) := by decide +kernel
theorem dX0_numberOf_7 : decode cX0_numberOf 7 = .ok (.bipush 7, 2) := by decide +kernel
theorem dX0_numberOf_9 : decode cX0_numberOf 9 = .ok (.iand, 1) := by decide +kernel
theorem dX0_numberOf_10 : decode cX0_numberOf 10 = .ok (.ireturn, 1) := by decide +kernel
theorem dX0_code_0 : decode cX0_code 0 = .ok (.iload_n 0, 1) := by decide +kernel
theorem dX0_code_1 : decode cX0_code 1 = .ok (.iconst 3, 1) := by decide +kernel
theorem dX0_code_2 : decode cX0_code 2 = .ok (.ishl, 1) := by decide +kernel
theorem dX0_code_3 : decode cX0_code 3 = .ok (.iload_n 1, 1) := by decide +kernel
theorem dX0_code_4 : decode cX0_code 4 = .ok (.ior, 1) := by decide +kernel
theorem dX0_code_5 : decode cX0_code 5 = .ok (.iconst 3, 1) := by decide +kernel
theorem dX0_code_6 : decode cX0_code 6 = .ok (.ishl, 1) := by decide +kernel
theorem dX0_code_7 : decode cX0_code 7 = .ok (.iload_n 2, 1) := by decide +kernel
theorem dX0_code_8 : decode cX0_code 8 = .ok (.ior, 1) := by decide +kernel
theorem dX0_code_9 : decode cX0_code 9 = .ok (.iconst 3, 1) := by decide +kernel
theorem dX0_code_10 : decode cX0_code 10 = .ok (.ishl, 1) := by decide +kernel
theorem dX0_code_11 : decode cX0_code 11 = .ok (.iload_n 3, 1) := by decide +kernel
theorem dX0_code_12 : decode cX0_code 12 = .ok (.ior, 1) := by decide +kernel
theorem dX0_code_13 : decode cX0_code 13 = .ok (.ireturn, 1) := by decide +kernel
theorem dX1_init_0 : decode cX1_init 0 = .ok (.aload_n 0, 1) := by decide +kernel
theorem dX1_init_1 : decode cX1_init 1 = .ok (.invokespecial 3, 3) := by decide +kernel
theorem dX1_init_4 : decode cX1_init 4 = .ok (.aload_n 0, 1) := by decide +kernel
theorem dX1_init_5 : decode cX1_init 5 = .ok (.iconst 0, 1) := by decide +kernel
theorem dX1_init_6 : decode cX1_init 6 = .ok (.putfield 9, 3) := by decide +kernel
theorem dX1_init_9 : decode cX1_init 9 = .ok (.aload_n 0, 1) := by decide +kernel
theorem dX1_init_10 : decode cX1_init 10 = .ok (.bipush 8, 2) := by decide +kernel
theorem dX1_init_12 : decode cX1_init 12 = .ok (.newarray .int, 2) := by decide +kernel
theorem dX1_init_14 : decode cX1_init 14 = .ok (.putfield 15, 3) := by decide +kernel
theorem dX1_init_17 : decode cX1_init 17 = .ok (.aload_n 0, 1) := by decide +kernel
theorem dX1_init_18 : decode cX1_init 18 = .ok (.bipush 8, 2) := by decide +kernel
theorem dX1_init_20 : decode cX1_init 20 = .ok (.newarray .int, 2) := by decide +kernel
theorem dX1_init_22 : decode cX1_init 22 = .ok (.putfield 19, 3) := by decide +kernel
theorem dX1_init_25 : decode cX1_init 25 = .ok (.aload_n 0, 1) := by decide +kernel
theorem dX1_init_26 : decode cX1_init 26 = .ok (.bipush 8, 2) := by decide +kernel
theorem dX1_init_28 : decode cX1_init 28 = .ok (.newarray .int, 2) := by decide +kernel
theorem dX1_init_30 : decode cX1_init 30 = .ok (.putfield 22, 3) := by decide +kernel
theorem dX1_init_33 : decode cX1_init 33 = .ok (.aload_n 0, 1) := by decide +kernel
theorem dX1_init_34 : decode cX1_init 34 = .ok (.bipush 8, 2) := by decide +kernel
theorem dX1_init_36 : decode cX1_init 36 = .ok (.newarray .boolean, 2) := by decide +kernel
theorem dX1_init_38 : decode cX1_init 38 = .ok (.putfield 25, 3) := by decide +kernel
theorem dX1_init_41 : decode cX1_init 41 = .ok (.return_, 1) := by decide +kernel
theorem dX1_add_0 : decode cX1_add 0 = .ok (.aload_n 0, 1) := by decide +kernel
theorem dX1_add_1 : decode cX1_add 1 = .ok (.getfield 9, 3) := by decide +kernel
theorem dX1_add_4 : decode cX1_add 4 = .ok (.bipush 8, 2) := by decide +kernel
theorem dX1_add_6 : decode cX1_add 6 = .ok (.if_icmp .lt 6, 3) := by decide +kernel
theorem dX1_add_9 : decode cX1_add 9 = .ok (.bipush (-4), 2) := by decide +kernel
theorem dX1_add_11 : decode cX1_add 11 = .ok (.ireturn, 1) := by decide +kernel
theorem dX1_add_12 : decode cX1_add 12 = .ok (.aload_n 0, 1) := by decide +kernel
theorem dX1_add_13 : decode cX1_add 13 = .ok (.getfield 15, 3) := by decide +kernel
theorem dX1_add_16 : decode cX1_add 16 = .ok (.aload_n 0, 1) := by decide +kernel
theorem dX1_add_17 : decode cX1_add 17 = .ok (.getfield 9, 3) := by decide +kernel
theorem dX1_add_20 : decode cX1_add 20 = .ok (.iload_n 1, 1) := by decide +kernel
theorem dX1_add_21 : decode cX1_add 21 = .ok (.iastore, 1) := by decide +kernel
theorem dX1_add_22 : decode cX1_add 22 = .ok (.aload_n 0, 1) := by decide +kernel
theorem dX1_add_23 : decode cX1_add 23 = .ok (.getfield 19, 3) := by decide +kernel
theorem dX1_add_26 : decode cX1_add 26 = .ok (.aload_n 0, 1) := by decide +kernel
theorem dX1_add_27 : decode cX1_add 27 = .ok (.getfield 9, 3) := by decide +kernel
theorem dX1_add_30 : decode cX1_add 30 = .ok (.iload_n 2, 1) := by decide +kernel
theorem dX1_add_31 : decode cX1_add 31 = .ok (.iastore, 1) := by decide +kernel
theorem dX1_add_32 : decode cX1_add 32 = .ok (.aload_n 0, 1) := by decide +kernel
theorem dX1_add_33 : decode cX1_add 33 = .ok (.getfield 22, 3) := by decide +kernel
theorem dX1_add_36 : decode cX1_add 36 = .ok (.aload_n 0, 1) := by decide +kernel
theorem dX1_add_37 : decode cX1_add 37 = .ok (.getfield 9, 3) := by decide +kernel
theorem dX1_add_40 : decode cX1_add 40 = .ok (.iload_n 3, 1) := by decide +kernel
theorem dX1_add_41 : decode cX1_add 41 = .ok (.iastore, 1) := by decide +kernel
theorem dX1_add_42 : decode cX1_add 42 = .ok (.aload_n 0, 1) := by decide +kernel
theorem dX1_add_43 : decode cX1_add 43 = .ok (.getfield 25, 3) := by decide +kernel
theorem dX1_add_46 : decode cX1_add 46 = .ok (.aload_n 0, 1) := by decide +kernel
theorem dX1_add_47 : decode cX1_add 47 = .ok (.getfield 9, 3) := by decide +kernel
theorem dX1_add_50 : decode cX1_add 50 = .ok (.iload 4, 2) := by decide +kernel
theorem dX1_add_52 : decode cX1_add 52 = .ok (.bastore, 1) := by decide +kernel
theorem dX1_add_53 : decode cX1_add 53 = .ok (.aload_n 0, 1) := by decide +kernel
theorem dX1_add_54 : decode cX1_add 54 = .ok (.dup, 1) := by decide +kernel
theorem dX1_add_55 : decode cX1_add 55 = .ok (.getfield 9, 3) := by decide +kernel
theorem dX1_add_58 : decode cX1_add 58 = .ok (.iconst 1, 1) := by decide +kernel
theorem dX1_add_59 : decode cX1_add 59 = .ok (.iadd, 1) := by decide +kernel
theorem dX1_add_60 : decode cX1_add 60 = .ok (.putfield 9, 3) := by decide +kernel
theorem dX1_add_63 : decode cX1_add 63 = .ok (.aload_n 0, 1) := by decide +kernel
theorem dX1_add_64 : decode cX1_add 64 = .ok (.getfield 9, 3) := by decide +kernel
theorem dX1_add_67 : decode cX1_add 67 = .ok (.iconst 1, 1) := by decide +kernel
theorem dX1_add_68 : decode cX1_add 68 = .ok (.isub, 1) := by decide +kernel
theorem dX1_add_69 : decode cX1_add 69 = .ok (.ireturn, 1) := by decide +kernel
theorem dX1_lies_0 : decode cX1_lies 0 = .ok (.aload_n 0, 1) := by decide +kernel
theorem dX1_lies_1 : decode cX1_lies 1 = .ok (.getfield 15, 3) := by decide +kernel
theorem dX1_lies_4 : decode cX1_lies 4 = .ok (.iload_n 1, 1) := by decide +kernel
theorem dX1_lies_5 : decode cX1_lies 5 = .ok (.iaload, 1) := by decide +kernel
theorem dX1_lies_6 : decode cX1_lies 6 = .ok (.iload_n 2, 1) := by decide +kernel
theorem dX1_lies_7 : decode cX1_lies 7 = .ok (.if_icmp .ne 17, 3) := by decide +kernel
theorem dX1_lies_10 : decode cX1_lies 10 = .ok (.aload_n 0, 1) := by decide +kernel
theorem dX1_lies_11 : decode cX1_lies 11 = .ok (.getfield 19, 3) := by decide +kernel
theorem dX1_lies_14 : decode cX1_lies 14 = .ok (.iload_n 1, 1) := by decide +kernel
theorem dX1_lies_15 : decode cX1_lies 15 = .ok (.iaload, 1) := by decide +kernel
theorem dX1_lies_16 : decode cX1_lies 16 = .ok (.iload_n 3, 1) := by decide +kernel
theorem dX1_lies_17 : decode cX1_lies 17 = .ok (.if_icmp .ne 7, 3) := by decide +kernel
theorem dX1_lies_20 : decode cX1_lies 20 = .ok (.iconst 1, 1) := by decide +kernel
theorem dX1_lies_21 : decode cX1_lies 21 = .ok (.goto 4, 3) := by decide +kernel
theorem dX1_lies_24 : decode cX1_lies 24 = .ok (.iconst 0, 1) := by decide +kernel
theorem dX1_lies_25 : decode cX1_lies 25 = .ok (.ireturn, 1) := by decide +kernel
theorem dX1_liesTurned_0 : decode cX1_liesTurned 0 = .ok (.aload_n 0, 1) := by decide +kernel
theorem dX1_liesTurned_1 : decode cX1_liesTurned 1 = .ok (.getfield 25, 3) := by decide +kernel
theorem dX1_liesTurned_4 : decode cX1_liesTurned 4 = .ok (.iload_n 1, 1) := by decide +kernel
theorem dX1_liesTurned_5 : decode cX1_liesTurned 5 = .ok (.baload, 1) := by decide +kernel
theorem dX1_liesTurned_6 : decode cX1_liesTurned 6 = .ok (.ifCond .eq 27, 3) := by decide +kernel
theorem dX1_liesTurned_9 : decode cX1_liesTurned 9 = .ok (.aload_n 0, 1) := by decide +kernel
theorem dX1_liesTurned_10 : decode cX1_liesTurned 10 = .ok (.getfield 15, 3) := by decide +kernel
theorem dX1_liesTurned_13 : decode cX1_liesTurned 13 = .ok (.iload_n 1, 1) := by decide +kernel
theorem dX1_liesTurned_14 : decode cX1_liesTurned 14 = .ok (.iaload, 1) := by decide +kernel
theorem dX1_liesTurned_15 : decode cX1_liesTurned 15 = .ok (.iload_n 3, 1) := by decide +kernel
theorem dX1_liesTurned_16 : decode cX1_liesTurned 16 = .ok (.if_icmp .ne 17, 3) := by decide +kernel
theorem dX1_liesTurned_19 : decode cX1_liesTurned 19 = .ok (.aload_n 0, 1) := by decide +kernel
theorem dX1_liesTurned_20 : decode cX1_liesTurned 20 = .ok (.getfield 19, 3) := by decide +kernel
theorem dX1_liesTurned_23 : decode cX1_liesTurned 23 = .ok (.iload_n 1, 1) := by decide +kernel
theorem dX1_liesTurned_24 : decode cX1_liesTurned 24 = .ok (.iaload, 1) := by decide +kernel
