theorem dX6_stock_47 : decode cX6_stock 47 = .ok (.ireturn, 1) := by decide +kernel
set_option maxRecDepth 100000 in
theorem ggX6_order_X6_within : GoodIn wsX6_order wsX6_within := goodIn_r _ [6] rfl (by decide +kernel)
set_option maxRecDepth 100000 in
theorem gX6_order_X6_within : GoodIn wsX6_order (va_wsS RX6 57 yX6_within wsX6_within) := goodIn_app (goodIn_of _ (by decide +kernel)) ggX6_order_X6_within
set_option maxRecDepth 100000 in
theorem ggX6_order_X3_addOrder : GoodIn wsX6_order wsX3_addOrder := goodIn_r _ [11, 12, 13, 14, 28, 29, 30, 31, 32, 33, 34] rfl (by decide +kernel)
set_option maxRecDepth 100000 in
theorem gX6_order_X3_addOrder : GoodIn wsX6_order (wsV RX6 123 RX3 yX3_addOrder wsX3_addOrder) := goodIn_app (goodIn_of _ (by decide +kernel)) ggX6_order_X3_addOrder
set_option maxRecDepth 100000 in
theorem ggX6_order_X0_forgetCosts : GoodIn wsX6_order wsX0_forgetCosts := goodIn_r _ [19, 20, 21, 35, 36, 37, 38, 39, 40, 41, 42, 43, 44] rfl (by decide +kernel)
set_option maxRecDepth 100000 in
theorem gX6_order_X0_forgetCosts : GoodIn wsX6_order (wsV RX6 120 RX0 yX0_forgetCosts wsX0_forgetCosts) := goodIn_app (goodIn_of _ (by decide +kernel)) ggX6_order_X0_forgetCosts
theorem dX6_order_0 : decode cX6_order 0 = .ok (.iload_n 1, 1) := by decide +kernel
theorem dX6_order_1 : decode cX6_order 1 = .ok (.iconst 1, 1) := by decide +kernel
theorem dX6_order_2 : decode cX6_order 2 = .ok (.bipush 99, 2) := by decide +kernel
theorem dX6_order_4 : decode cX6_order 4 = .ok (.invokestatic 57, 3) := by decide +kernel
theorem dX6_order_7 : decode cX6_order 7 = .ok (.ifCond .eq 12, 3) := by decide +kernel
theorem dX6_order_10 : decode cX6_order 10 = .ok (.iload_n 2, 1) := by decide +kernel
theorem dX6_order_11 : decode cX6_order 11 = .ok (.iconst 0, 1) := by decide +kernel
theorem dX6_order_12 : decode cX6_order 12 = .ok (.iconst 5, 1) := by decide +kernel
theorem dX6_order_13 : decode cX6_order 13 = .ok (.invokestatic 57, 3) := by decide +kernel
theorem dX6_order_16 : decode cX6_order 16 = .ok (.ifCond .ne 6, 3) := by decide +kernel
theorem dX6_order_19 : decode cX6_order 19 = .ok (.bipush (-3), 2) := by decide +kernel
theorem dX6_order_21 : decode cX6_order 21 = .ok (.ireturn, 1) := by decide +kernel
theorem dX6_order_22 : decode cX6_order 22 = .ok (.aload_n 0, 1) := by decide +kernel
theorem dX6_order_23 : decode cX6_order 23 = .ok (.getfield 44, 3) := by decide +kernel
theorem dX6_order_26 : decode cX6_order 26 = .ok (.iload_n 1, 1) := by decide +kernel
theorem dX6_order_27 : decode cX6_order 27 = .ok (.iload_n 2, 1) := by decide +kernel
theorem dX6_order_28 : decode cX6_order 28 = .ok (.invokevirtual 123, 3) := by decide +kernel
theorem dX6_order_31 : decode cX6_order 31 = .ok (.istore_n 3, 1) := by decide +kernel
theorem dX6_order_32 : decode cX6_order 32 = .ok (.iload_n 3, 1) := by decide +kernel
theorem dX6_order_33 : decode cX6_order 33 = .ok (.bipush (-4), 2) := by decide +kernel
theorem dX6_order_35 : decode cX6_order 35 = .ok (.if_icmp .eq 10, 3) := by decide +kernel
theorem dX6_order_38 : decode cX6_order 38 = .ok (.aload_n 0, 1) := by decide +kernel
theorem dX6_order_39 : decode cX6_order 39 = .ok (.getfield 53, 3) := by decide +kernel
theorem dX6_order_42 : decode cX6_order 42 = .ok (.invokevirtual 120, 3) := by decide +kernel
theorem dX6_order_45 : decode cX6_order 45 = .ok (.iload_n 3, 1) := by decide +kernel
theorem dX6_order_46 : decode cX6_order 46 = .ok (.ireturn, 1) := by decide +kernel
set_option maxRecDepth 100000 in
theorem ggX6_demand_X6_within : GoodIn wsX6_demand wsX6_within := goodIn_r _ [8] rfl (by decide +kernel)
set_option maxRecDepth 100000 in
theorem gX6_demand_X6_within : GoodIn wsX6_demand (va_wsS RX6 57 yX6_within wsX6_within) := goodIn_app (goodIn_of _ (by decide +kernel)) ggX6_demand_X6_within
set_option maxRecDepth 100000 in
theorem ggX6_demand_X0_forgetBars : GoodIn wsX6_demand wsX0_forgetBars := goodIn_r _ [13, 14, 28, 29, 30, 31, 32, 33, 34, 35, 36, 37] rfl (by decide +kernel)
set_option maxRecDepth 100000 in
theorem gX6_demand_X0_forgetBars : GoodIn wsX6_demand (wsV RX6 132 RX0 yX0_forgetBars wsX0_forgetBars) := goodIn_app (goodIn_of _ (by decide +kernel)) ggX6_demand_X0_forgetBars
theorem dX6_demand_0 : decode cX6_demand 0 = .ok (.iload_n 1, 1) := by decide +kernel
theorem dX6_demand_1 : decode cX6_demand 1 = .ok (.iconst 0, 1) := by decide +kernel
theorem dX6_demand_2 : decode cX6_demand 2 = .ok (.aload_n 0, 1) := by decide +kernel
theorem dX6_demand_3 : decode cX6_demand 3 = .ok (.getfield 44, 3) := by decide +kernel
theorem dX6_demand_6 : decode cX6_demand 6 = .ok (.getfield 126, 3) := by decide +kernel
theorem dX6_demand_9 : decode cX6_demand 9 = .ok (.iconst 1, 1) := by decide +kernel
theorem dX6_demand_10 : decode cX6_demand 10 = .ok (.isub, 1) := by decide +kernel
theorem dX6_demand_11 : decode cX6_demand 11 = .ok (.invokestatic 57, 3) := by decide +kernel
theorem dX6_demand_14 : decode cX6_demand 14 = .ok (.ifCond .ne 6, 3) := by decide +kernel
theorem dX6_demand_17 : decode cX6_demand 17 = .ok (.bipush (-2), 2) := by decide +kernel
theorem dX6_demand_19 : decode cX6_demand 19 = .ok (.ireturn, 1) := by decide +kernel
theorem dX6_demand_20 : decode cX6_demand 20 = .ok (.iload_n 2, 1) := by decide +kernel
theorem dX6_demand_21 : decode cX6_demand 21 = .ok (.iconst 0, 1) := by decide +kernel
theorem dX6_demand_22 : decode cX6_demand 22 = .ok (.iconst 5, 1) := by decide +kernel
theorem dX6_demand_23 : decode cX6_demand 23 = .ok (.invokestatic 57, 3) := by decide +kernel
theorem dX6_demand_26 : decode cX6_demand 26 = .ok (.ifCond .ne 6, 3) := by decide +kernel
theorem dX6_demand_29 : decode cX6_demand 29 = .ok (.bipush (-3), 2) := by decide +kernel
theorem dX6_demand_31 : decode cX6_demand 31 = .ok (.ireturn, 1) := by decide +kernel
theorem dX6_demand_32 : decode cX6_demand 32 = .ok (.aload_n 0, 1) := by decide +kernel
theorem dX6_demand_33 : decode cX6_demand 33 = .ok (.getfield 44, 3) := by decide +kernel
theorem dX6_demand_36 : decode cX6_demand 36 = .ok (.getfield 129, 3) := by decide +kernel
theorem dX6_demand_39 : decode cX6_demand 39 = .ok (.iload_n 1, 1) := by decide +kernel
theorem dX6_demand_40 : decode cX6_demand 40 = .ok (.iaload, 1) := by decide +kernel
theorem dX6_demand_41 : decode cX6_demand 41 = .ok (.istore_n 3, 1) := by decide +kernel
theorem dX6_demand_42 : decode cX6_demand 42 = .ok (.aload_n 0, 1) := by decide +kernel
theorem dX6_demand_43 : decode cX6_demand 43 = .ok (.getfield 44, 3) := by decide +kernel
theorem dX6_demand_46 : decode cX6_demand 46 = .ok (.getfield 129, 3) := by decide +kernel
theorem dX6_demand_49 : decode cX6_demand 49 = .ok (.iload_n 1, 1) := by decide +kernel
theorem dX6_demand_50 : decode cX6_demand 50 = .ok (.iload_n 2, 1) := by decide +kernel
theorem dX6_demand_51 : decode cX6_demand 51 = .ok (.iastore, 1) := by decide +kernel
theorem dX6_demand_52 : decode cX6_demand 52 = .ok (.aload_n 0, 1) := by decide +kernel
theorem dX6_demand_53 : decode cX6_demand 53 = .ok (.getfield 53, 3) := by decide +kernel
theorem dX6_demand_56 : decode cX6_demand 56 = .ok (.invokevirtual 132, 3) := by decide +kernel
theorem dX6_demand_59 : decode cX6_demand 59 = .ok (.iload_n 3, 1) := by decide +kernel
theorem dX6_demand_60 : decode cX6_demand 60 = .ok (.ireturn, 1) := by decide +kernel
set_option maxRecDepth 100000 in
theorem ggX6_blade_X6_within : GoodIn wsX6_blade wsX6_within := goodIn_r _ [7] rfl (by decide +kernel)
set_option maxRecDepth 100000 in
theorem gX6_blade_X6_within : GoodIn wsX6_blade (va_wsS RX6 57 yX6_within wsX6_within) := goodIn_app (goodIn_of _ (by decide +kernel)) ggX6_blade_X6_within
set_option maxRecDepth 100000 in
theorem ggX6_blade_X0_forgetCosts : GoodIn wsX6_blade wsX0_forgetCosts := goodIn_r _ [12, 13, 14, 28, 29, 30, 31, 32, 33, 34, 35, 36, 37] rfl (by decide +kernel)
set_option maxRecDepth 100000 in
theorem gX6_blade_X0_forgetCosts : GoodIn wsX6_blade (wsV RX6 120 RX0 yX0_forgetCosts wsX0_forgetCosts) := goodIn_app (goodIn_of _ (by decide +kernel)) ggX6_blade_X0_forgetCosts
theorem dX6_blade_0 : decode cX6_blade 0 = .ok (.iload_n 1, 1) := by decide +kernel
theorem dX6_blade_1 : decode cX6_blade 1 = .ok (.iconst 0, 1) := by decide +kernel
theorem dX6_blade_2 : decode cX6_blade 2 = .ok (.iconst 3, 1) := by decide +kernel
theorem dX6_blade_3 : decode cX6_blade 3 = .ok (.invokestatic 57, 3) := by decide +kernel
theorem dX6_blade_6 : decode cX6_blade 6 = .ok (.ifCond .ne 6, 3) := by decide +kernel
theorem dX6_blade_9 : decode cX6_blade 9 = .ok (.bipush (-3), 2) := by decide +kernel
theorem dX6_blade_11 : decode cX6_blade 11 = .ok (.ireturn, 1) := by decide +kernel
theorem dX6_blade_12 : decode cX6_blade 12 = .ok (.aload_n 0, 1) := by decide +kernel
theorem dX6_blade_13 : decode cX6_blade 13 = .ok (.getfield 44, 3) := by decide +kernel
theorem dX6_blade_16 : decode cX6_blade 16 = .ok (.getfield 135, 3) := by decide +kernel
theorem dX6_blade_19 : decode cX6_blade 19 = .ok (.istore_n 2, 1) := by decide +kernel
theorem dX6_blade_20 : decode cX6_blade 20 = .ok (.aload_n 0, 1) := by decide +kernel
theorem dX6_blade_21 : decode cX6_blade 21 = .ok (.getfield 44, 3) := by decide +kernel
theorem dX6_blade_24 : decode cX6_blade 24 = .ok (.iload_n 1, 1) := by decide +kernel
theorem dX6_blade_25 : decode cX6_blade 25 = .ok (.putfield 135, 3) := by decide +kernel
theorem dX6_blade_28 : decode cX6_blade 28 = .ok (.aload_n 0, 1) := by decide +kernel
theorem dX6_blade_29 : decode cX6_blade 29 = .ok (.getfield 53, 3) := by decide +kernel
theorem dX6_blade_32 : decode cX6_blade 32 = .ok (.invokevirtual 120, 3) := by decide +kernel
theorem dX6_blade_35 : decode cX6_blade 35 = .ok (.iload_n 2, 1) := by decide +kernel
theorem dX6_blade_36 : decode cX6_blade 36 = .ok (.ireturn, 1) := by decide +kernel
set_option maxRecDepth 100000 in
theorem ggX6_price_X0_makeReady : GoodIn wsX6_price wsX0_makeReady := goodIn_r _ [8, 9, 10, 11, 12, 13, 14, 15, 16, 17, 18, 19, 7, 20, 21, 22, 23, 24, 25, 26, 27, 28, 29, 30, 31, 32, 33, 34, 35, 36, 37, 38, 39, 40, 41, 42, 43, 44, 45, 46, 47, 48, 49, 50, 51, 52, 53, 54, 55, 56, 57, 58, 59, 60, 61, 62, 63, 64, 65, 66, 67, 68, 69, 70, 71, 72, 73, 74, 75, 76, 77, 78, 85, 86, 87, 88, 89, 90, 91, 92, 93, 94, 95, 96, 97, 98, 99, 100, 101] rfl (by decide +kernel)
set_option maxRecDepth 100000 in
theorem gX6_price_X0_makeReady : GoodIn wsX6_price (wsV RX6 138 RX0 yX0_makeReady wsX0_makeReady) := goodIn_app (goodIn_of _ (by decide +kernel)) ggX6_price_X0_makeReady
theorem dX6_price_0 : decode cX6_price 0 = .ok (.aload_n 0, 1) := by decide +kernel
theorem dX6_price_1 : decode cX6_price 1 = .ok (.getfield 53, 3) := by decide +kernel
theorem dX6_price_4 : decode cX6_price 4 = .ok (.invokevirtual 138, 3) := by decide +kernel
theorem dX6_price_7 : decode cX6_price 7 = .ok (.aload_n 0, 1) := by decide +kernel
theorem dX6_price_8 : decode cX6_price 8 = .ok (.getfield 53, 3) := by decide +kernel
theorem dX6_price_11 : decode cX6_price 11 = .ok (.getfield 139, 3) := by decide +kernel
theorem dX6_price_14 : decode cX6_price 14 = .ok (.ifCond .eq 7, 3) := by decide +kernel
theorem dX6_price_17 : decode cX6_price 17 = .ok (.iconst (-1), 1) := by decide +kernel
theorem dX6_price_18 : decode cX6_price 18 = .ok (.goto 10, 3) := by decide +kernel
theorem dX6_price_21 : decode cX6_price 21 = .ok (.aload_n 0, 1) := by decide +kernel
theorem dX6_price_22 : decode cX6_price 22 = .ok (.getfield 53, 3) := by decide +kernel
theorem dX6_price_25 : decode cX6_price 25 = .ok (.getfield 143, 3) := by decide +kernel
theorem dX6_price_28 : decode cX6_price 28 = .ok (.ireturn, 1) := by decide +kernel
set_option maxRecDepth 100000 in
theorem ggX6_bars_X0_makeReady : GoodIn wsX6_bars wsX0_makeReady := goodIn_r _ [8, 9, 10, 11, 12, 13, 14, 15, 16, 17, 18, 19, 7, 20, 21, 22, 23, 24, 25, 26, 27, 28, 29, 30, 31, 32, 33, 34, 35, 36, 37, 38, 39, 40, 41, 42, 43, 44, 45, 46, 47, 48, 49, 50, 51, 52, 53, 54, 55, 56, 57, 58, 59, 60, 61, 62, 63, 64, 65, 66, 67, 68, 69, 70, 71, 72, 73, 74, 75, 76, 77, 78, 85, 86, 87, 88, 89, 90, 91, 92, 93, 94, 95, 96, 97, 98, 99, 100, 101] rfl (by decide +kernel)
set_option maxRecDepth 100000 in
theorem gX6_bars_X0_makeReady : GoodIn wsX6_bars (wsV RX6 138 RX0 yX0_makeReady wsX0_makeReady) := goodIn_app (goodIn_of _ (by decide +kernel)) ggX6_bars_X0_makeReady
theorem dX6_bars_0 : decode cX6_bars 0 = .ok (.aload_n 0, 1) := by decide +kernel
theorem dX6_bars_1 : decode cX6_bars 1 = .ok (.getfield 53, 3) := by decide +kernel
theorem dX6_bars_4 : decode cX6_bars 4 = .ok (.invokevirtual 138, 3) := by decide +kernel
theorem dX6_bars_7 : decode cX6_bars 7 = .ok (.aload_n 0, 1) := by decide +kernel
theorem dX6_bars_8 : decode cX6_bars 8 = .ok (.getfield 53, 3) := by decide +kernel
theorem dX6_bars_11 : decode cX6_bars 11 = .ok (.getfield 139, 3) := by decide +kernel
theorem dX6_bars_14 : decode cX6_bars 14 = .ok (.ifCond .eq 7, 3) := by decide +kernel
theorem dX6_bars_17 : decode cX6_bars 17 = .ok (.iconst (-1), 1) := by decide +kernel
theorem dX6_bars_18 : decode cX6_bars 18 = .ok (.goto 10, 3) := by decide +kernel
theorem dX6_bars_21 : decode cX6_bars 21 = .ok (.aload_n 0, 1) := by decide +kernel
theorem dX6_bars_22 : decode cX6_bars 22 = .ok (.getfield 53, 3) := by decide +kernel
theorem dX6_bars_25 : decode cX6_bars 25 = .ok (.getfield 146, 3) := by decide +kernel
theorem dX6_bars_28 : decode cX6_bars 28 = .ok (.ireturn, 1) := by decide +kernel
set_option maxRecDepth 100000 in
theorem ggX6_bar_X6_within : GoodIn wsX6_bar wsX6_within := goodIn_r _ [7] rfl (by decide +kernel)
set_option maxRecDepth 100000 in
theorem gX6_bar_X6_within : GoodIn wsX6_bar (va_wsS RX6 57 yX6_within wsX6_within) := goodIn_app (goodIn_of _ (by decide +kernel)) ggX6_bar_X6_within
set_option maxRecDepth 100000 in
theorem ggX6_bar_X0_makeReady : GoodIn wsX6_bar wsX0_makeReady := goodIn_r _ [12, 13, 14, 15, 16, 17, 18, 19, 20, 21, 22, 23, 11, 24, 25, 26, 27, 28, 29, 30, 31, 32, 33, 34, 35, 36, 37, 38, 39, 40, 5, 6, 7, 41, 42, 43, 44, 45, 46, 47, 48, 49, 50, 51, 52, 53, 54, 55, 56, 57, 58, 59, 60, 61, 62, 63, 64, 65, 66, 67, 68, 69, 70, 71, 72, 73, 74, 75, 76, 77, 78, 79, 91, 92, 93, 94, 95, 96, 97, 98, 99, 100, 101, 102, 103, 104, 105, 106, 107] rfl (by decide +kernel)
set_option maxRecDepth 100000 in
theorem gX6_bar_X0_makeReady : GoodIn wsX6_bar (wsV RX6 138 RX0 yX0_makeReady wsX0_makeReady) := goodIn_app (goodIn_of _ (by decide +kernel)) ggX6_bar_X0_makeReady
set_option maxRecDepth 100000 in
theorem ggX6_bar_X0_fact : GoodIn wsX6_bar wsX0_fact := goodIn_r _ [83, 16, 84, 53, 54, 11, 55, 46, 47, 48, 49, 50, 51, 52, 56, 57, 58, 28, 59, 60, 61, 62, 91, 92, 93, 94, 95, 96, 97, 98, 99, 100, 101, 102, 103, 104, 105, 106, 107] rfl (by decide +kernel)
set_option maxRecDepth 100000 in
theorem gX6_bar_X0_fact : GoodIn wsX6_bar (wsV RX6 150 RX0 yX0_fact wsX0_fact) := goodIn_app (goodIn_of _ (by decide +kernel)) ggX6_bar_X0_fact
theorem dX6_bar_0 : decode cX6_bar 0 = .ok (.iload_n 2, 1) := by decide +kernel
theorem dX6_bar_1 : decode cX6_bar 1 = .ok (.iconst 0, 1) := by decide +kernel
theorem dX6_bar_2 : decode cX6_bar 2 = .ok (.iconst 5, 1) := by decide +kernel
theorem dX6_bar_3 : decode cX6_bar 3 = .ok (.invokestatic 57, 3) := by decide +kernel
theorem dX6_bar_6 : decode cX6_bar 6 = .ok (.ifCond .ne 6, 3) := by decide +kernel
theorem dX6_bar_9 : decode cX6_bar 9 = .ok (.bipush (-3), 2) := by decide +kernel
theorem dX6_bar_11 : decode cX6_bar 11 = .ok (.ireturn, 1) := by decide +kernel
theorem dX6_bar_12 : decode cX6_bar 12 = .ok (.aload_n 0, 1) := by decide +kernel
theorem dX6_bar_13 : decode cX6_bar 13 = .ok (.getfield 53, 3) := by decide +kernel
theorem dX6_bar_16 : decode cX6_bar 16 = .ok (.invokevirtual 138, 3) := by decide +kernel
theorem dX6_bar_19 : decode cX6_bar 19 = .ok (.iload_n 1, 1) := by decide +kernel
theorem dX6_bar_20 : decode cX6_bar 20 = .ok (.iconst 0, 1) := by decide +kernel
theorem dX6_bar_21 : decode cX6_bar 21 = .ok (.aload_n 0, 1) := by decide +kernel
theorem dX6_bar_22 : decode cX6_bar 22 = .ok (.getfield 53, 3) := by decide +kernel
theorem dX6_bar_25 : decode cX6_bar 25 = .ok (.getfield 146, 3) := by decide +kernel
theorem dX6_bar_28 : decode cX6_bar 28 = .ok (.iconst 1, 1) := by decide +kernel
theorem dX6_bar_29 : decode cX6_bar 29 = .ok (.isub, 1) := by decide +kernel
theorem dX6_bar_30 : decode cX6_bar 30 = .ok (.invokestatic 57, 3) := by decide +kernel
theorem dX6_bar_33 : decode cX6_bar 33 = .ok (.ifCond .eq 23, 3) := by decide +kernel
theorem dX6_bar_36 : decode cX6_bar 36 = .ok (.aload_n 0, 1) := by decide +kernel
theorem dX6_bar_37 : decode cX6_bar 37 = .ok (.getfield 53, 3) := by decide +kernel
theorem dX6_bar_40 : decode cX6_bar 40 = .ok (.aload_n 0, 1) := by decide +kernel
theorem dX6_bar_41 : decode cX6_bar 41 = .ok (.getfield 53, 3) := by decide +kernel
theorem dX6_bar_44 : decode cX6_bar 44 = .ok (.getfield 147, 3) := by decide +kernel
theorem dX6_bar_47 : decode cX6_bar 47 = .ok (.iload_n 1, 1) := by decide +kernel
theorem dX6_bar_48 : decode cX6_bar 48 = .ok (.iaload, 1) := by decide +kernel
theorem dX6_bar_49 : decode cX6_bar 49 = .ok (.iload_n 2, 1) := by decide +kernel
theorem dX6_bar_50 : decode cX6_bar 50 = .ok (.invokevirtual 150, 3) := by decide +kernel
theorem dX6_bar_53 : decode cX6_bar 53 = .ok (.goto 4, 3) := by decide +kernel
theorem dX6_bar_56 : decode cX6_bar 56 = .ok (.iconst (-1), 1) := by decide +kernel
theorem dX6_bar_57 : decode cX6_bar 57 = .ok (.ireturn, 1) := by decide +kernel
theorem dX6_told_0 : decode cX6_told 0 = .ok (.iload_n 1, 1) := by decide +kernel
theorem dX6_told_1 : decode cX6_told 1 = .ok (.tableswitch 135 0 9 #[55, 63, 71, 79, 87, 95, 103, 111, 119, 127], 55) := by decide +kernel
theorem dX6_told_56 : decode cX6_told 56 = .ok (.aload_n 0, 1) := by decide +kernel
theorem dX6_told_57 : decode cX6_told 57 = .ok (.getfield 23, 3) := by decide +kernel
theorem dX6_told_60 : decode cX6_told 60 = .ok (.getfield 153, 3) := by decide +kernel
theorem dX6_told_63 : decode cX6_told 63 = .ok (.ireturn, 1) := by decide +kernel
theorem dX6_told_64 : decode cX6_told 64 = .ok (.aload_n 0, 1) := by decide +kernel
theorem dX6_told_65 : decode cX6_told 65 = .ok (.getfield 23, 3) := by decide +kernel
theorem dX6_told_68 : decode cX6_told 68 = .ok (.getfield 156, 3) := by decide +kernel
theorem dX6_told_71 : decode cX6_told 71 = .ok (.ireturn, 1) := by decide +kernel
theorem dX6_told_72 : decode cX6_told 72 = .ok (.aload_n 0, 1) := by decide +kernel
theorem dX6_told_73 : decode cX6_told 73 = .ok (.getfield 23, 3) := by decide +kernel
theorem dX6_told_76 : decode cX6_told 76 = .ok (.getfield 159, 3) := by decide +kernel
theorem dX6_told_79 : decode cX6_told 79 = .ok (.ireturn, 1) := by decide +kernel
theorem dX6_told_80 : decode cX6_told 80 = .ok (.aload_n 0, 1) := by decide +kernel
theorem dX6_told_81 : decode cX6_told 81 = .ok (.getfield 23, 3) := by decide +kernel
theorem dX6_told_84 : decode cX6_told 84 = .ok (.getfield 90, 3) := by decide +kernel
theorem dX6_told_87 : decode cX6_told 87 = .ok (.ireturn, 1) := by decide +kernel
theorem dX6_told_88 : decode cX6_told 88 = .ok (.aload_n 0, 1) := by decide +kernel
theorem dX6_told_89 : decode cX6_told 89 = .ok (.getfield 23, 3) := by decide +kernel
theorem dX6_told_92 : decode cX6_told 92 = .ok (.getfield 162, 3) := by decide +kernel
theorem dX6_told_95 : decode cX6_told 95 = .ok (.ireturn, 1) := by decide +kernel
theorem dX6_told_96 : decode cX6_told 96 = .ok (.aload_n 0, 1) := by decide +kernel
theorem dX6_told_97 : decode cX6_told 97 = .ok (.getfield 23, 3) := by decide +kernel
theorem dX6_told_100 : decode cX6_told 100 = .ok (.getfield 75, 3) := by decide +kernel
theorem dX6_told_103 : decode cX6_told 103 = .ok (.ireturn, 1) := by decide +kernel
theorem dX6_told_104 : decode cX6_told 104 = .ok (.aload_n 0, 1) := by decide +kernel
theorem dX6_told_105 : decode cX6_told 105 = .ok (.getfield 27, 3) := by decide +kernel
theorem dX6_told_108 : decode cX6_told 108 = .ok (.getfield 83, 3) := by decide +kernel
theorem dX6_told_111 : decode cX6_told 111 = .ok (.ireturn, 1) := by decide +kernel
theorem dX6_told_112 : decode cX6_told 112 = .ok (.aload_n 0, 1) := by decide +kernel
theorem dX6_told_113 : decode cX6_told 113 = .ok (.getfield 44, 3) := by decide +kernel
theorem dX6_told_116 : decode cX6_told 116 = .ok (.getfield 165, 3) := by decide +kernel
theorem dX6_told_119 : decode cX6_told 119 = .ok (.ireturn, 1) := by decide +kernel
theorem dX6_told_120 : decode cX6_told 120 = .ok (.aload_n 0, 1) := by decide +kernel
theorem dX6_told_121 : decode cX6_told 121 = .ok (.getfield 44, 3) := by decide +kernel
theorem dX6_told_124 : decode cX6_told 124 = .ok (.getfield 126, 3) := by decide +kernel
theorem dX6_told_127 : decode cX6_told 127 = .ok (.ireturn, 1) := by decide +kernel
theorem dX6_told_128 : decode cX6_told 128 = .ok (.aload_n 0, 1) := by decide +kernel
theorem dX6_told_129 : decode cX6_told 129 = .ok (.getfield 44, 3) := by decide +kernel
theorem dX6_told_132 : decode cX6_told 132 = .ok (.getfield 135, 3) := by decide +kernel
theorem dX6_told_135 : decode cX6_told 135 = .ok (.ireturn, 1) := by decide +kernel
theorem dX6_told_136 : decode cX6_told 136 = .ok (.bipush (-3), 2) := by decide +kernel
theorem dX6_told_138 : decode cX6_told 138 = .ok (.ireturn, 1) := by decide +kernel
set_option maxRecDepth 100000 in
theorem ggX6_noKinds_X2_forget : GoodIn wsX6_noKinds wsX2_forget := goodIn_r _ [8, 9, 10, 11, 12, 13, 14, 15, 16, 28, 29, 30, 31, 32, 33, 34, 35, 36, 37, 38, 39, 40, 41] rfl (by decide +kernel)
set_option maxRecDepth 100000 in
theorem gX6_noKinds_X2_forget : GoodIn wsX6_noKinds (wsV RX6 65 RX2 yX2_forget wsX2_forget) := goodIn_app (goodIn_of _ (by decide +kernel)) ggX6_noKinds_X2_forget
theorem dX6_noKinds_0 : decode cX6_noKinds 0 = .ok (.aload_n 0, 1) := by decide +kernel
theorem dX6_noKinds_1 : decode cX6_noKinds 1 = .ok (.getfield 27, 3) := by decide +kernel
theorem dX6_noKinds_4 : decode cX6_noKinds 4 = .ok (.getfield 83, 3) := by decide +kernel
theorem dX6_noKinds_7 : decode cX6_noKinds 7 = .ok (.istore_n 1, 1) := by decide +kernel
theorem dX6_noKinds_8 : decode cX6_noKinds 8 = .ok (.aload_n 0, 1) := by decide +kernel
theorem dX6_noKinds_9 : decode cX6_noKinds 9 = .ok (.getfield 27, 3) := by decide +kernel
theorem dX6_noKinds_12 : decode cX6_noKinds 12 = .ok (.iconst 0, 1) := by decide +kernel
theorem dX6_noKinds_13 : decode cX6_noKinds 13 = .ok (.putfield 83, 3) := by decide +kernel
theorem dX6_noKinds_16 : decode cX6_noKinds 16 = .ok (.aload_n 0, 1) := by decide +kernel
theorem dX6_noKinds_17 : decode cX6_noKinds 17 = .ok (.getfield 40, 3) := by decide +kernel
theorem dX6_noKinds_20 : decode cX6_noKinds 20 = .ok (.invokevirtual 65, 3) := by decide +kernel
theorem dX6_noKinds_23 : decode cX6_noKinds 23 = .ok (.iload_n 1, 1) := by decide +kernel
theorem dX6_noKinds_24 : decode cX6_noKinds 24 = .ok (.ireturn, 1) := by decide +kernel
set_option maxRecDepth 100000 in
theorem ggX6_noBars_X0_forgetCosts : GoodIn wsX6_noBars wsX0_forgetCosts := goodIn_r _ [9, 10, 11, 25, 26, 27, 28, 29, 30, 31, 32, 33, 34] rfl (by decide +kernel)
set_option maxRecDepth 100000 in
theorem gX6_noBars_X0_forgetCosts : GoodIn wsX6_noBars (wsV RX6 120 RX0 yX0_forgetCosts wsX0_forgetCosts) := goodIn_app (goodIn_of _ (by decide +kernel)) ggX6_noBars_X0_forgetCosts
theorem dX6_noBars_0 : decode cX6_noBars 0 = .ok (.aload_n 0, 1) := by decide +kernel
theorem dX6_noBars_1 : decode cX6_noBars 1 = .ok (.getfield 44, 3) := by decide +kernel
theorem dX6_noBars_4 : decode cX6_noBars 4 = .ok (.getfield 165, 3) := by decide +kernel
theorem dX6_noBars_7 : decode cX6_noBars 7 = .ok (.aload_n 0, 1) := by decide +kernel
theorem dX6_noBars_8 : decode cX6_noBars 8 = .ok (.getfield 44, 3) := by decide +kernel
theorem dX6_noBars_11 : decode cX6_noBars 11 = .ok (.getfield 126, 3) := by decide +kernel
theorem dX6_noBars_14 : decode cX6_noBars 14 = .ok (.iadd, 1) := by decide +kernel
theorem dX6_noBars_15 : decode cX6_noBars 15 = .ok (.istore_n 1, 1) := by decide +kernel
theorem dX6_noBars_16 : decode cX6_noBars 16 = .ok (.aload_n 0, 1) := by decide +kernel
theorem dX6_noBars_17 : decode cX6_noBars 17 = .ok (.getfield 44, 3) := by decide +kernel
theorem dX6_noBars_20 : decode cX6_noBars 20 = .ok (.iconst 0, 1) := by decide +kernel
theorem dX6_noBars_21 : decode cX6_noBars 21 = .ok (.putfield 165, 3) := by decide +kernel
theorem dX6_noBars_24 : decode cX6_noBars 24 = .ok (.aload_n 0, 1) := by decide +kernel
theorem dX6_noBars_25 : decode cX6_noBars 25 = .ok (.getfield 44, 3) := by decide +kernel
theorem dX6_noBars_28 : decode cX6_noBars 28 = .ok (.iconst 0, 1) := by decide +kernel
theorem dX6_noBars_29 : decode cX6_noBars 29 = .ok (.putfield 126, 3) := by decide +kernel
theorem dX6_noBars_32 : decode cX6_noBars 32 = .ok (.aload_n 0, 1) := by decide +kernel
theorem dX6_noBars_33 : decode cX6_noBars 33 = .ok (.getfield 53, 3) := by decide +kernel
theorem dX6_noBars_36 : decode cX6_noBars 36 = .ok (.invokevirtual 120, 3) := by decide +kernel
theorem dX6_noBars_39 : decode cX6_noBars 39 = .ok (.iload_n 1, 1) := by decide +kernel
theorem dX6_noBars_40 : decode cX6_noBars 40 = .ok (.ireturn, 1) := by decide +kernel
theorem dX6_within_0 : decode cX6_within 0 = .ok (.iload_n 0, 1) := by decide +kernel
theorem dX6_within_1 : decode cX6_within 1 = .ok (.iload_n 1, 1) := by decide +kernel
theorem dX6_within_2 : decode cX6_within 2 = .ok (.if_icmp .lt 12, 3) := by decide +kernel
theorem dX6_within_5 : decode cX6_within 5 = .ok (.iload_n 0, 1) := by decide +kernel
theorem dX6_within_6 : decode cX6_within 6 = .ok (.iload_n 2, 1) := by decide +kernel
theorem dX6_within_7 : decode cX6_within 7 = .ok (.if_icmp .gt 7, 3) := by decide +kernel
theorem dX6_within_10 : decode cX6_within 10 = .ok (.iconst 1, 1) := by decide +kernel
theorem dX6_within_11 : decode cX6_within 11 = .ok (.goto 4, 3) := by decide +kernel
theorem dX6_within_14 : decode cX6_within 14 = .ok (.iconst 0, 1) := by decide +kernel
theorem dX6_within_15 : decode cX6_within 15 = .ok (.ireturn, 1) := by decide +kernel
theorem dX7_init_0 : decode cX7_init 0 = .ok (.aload_n 0, 1) := by decide +kernel
theorem dX7_init_1 : decode cX7_init 1 = .ok (.invokespecial 1, 3) := by decide +kernel
theorem dX7_init_4 : decode cX7_init 4 = .ok (.aload_n 0, 1) := by decide +kernel
theorem dX7_init_5 : decode cX7_init 5 = .ok (.iconst 1, 1) := by decide +kernel
theorem dX7_init_6 : decode cX7_init 6 = .ok (.putfield 7, 3) := by decide +kernel
theorem dX7_init_9 : decode cX7_init 9 = .ok (.aload_n 0, 1) := by decide +kernel
theorem dX7_init_10 : decode cX7_init 10 = .ok (.iconst 1, 1) := by decide +kernel
theorem dX7_init_11 : decode cX7_init 11 = .ok (.putfield 13, 3) := by decide +kernel
theorem dX7_init_14 : decode cX7_init 14 = .ok (.aload_n 0, 1) := by decide +kernel
theorem dX7_init_15 : decode cX7_init 15 = .ok (.iconst 1, 1) := by decide +kernel
theorem dX7_init_16 : decode cX7_init 16 = .ok (.putfield 16, 3) := by decide +kernel
theorem dX7_init_19 : decode cX7_init 19 = .ok (.aload_n 0, 1) := by decide +kernel
theorem dX7_init_20 : decode cX7_init 20 = .ok (.bipush 6, 2) := by decide +kernel
theorem dX7_init_22 : decode cX7_init 22 = .ok (.newarray .int, 2) := by decide +kernel
theorem dX7_init_24 : decode cX7_init 24 = .ok (.putfield 19, 3) := by decide +kernel
theorem dX7_init_27 : decode cX7_init 27 = .ok (.aload_n 0, 1) := by decide +kernel
theorem dX7_init_28 : decode cX7_init 28 = .ok (.bipush 6, 2) := by decide +kernel
theorem dX7_init_30 : decode cX7_init 30 = .ok (.newarray .int, 2) := by decide +kernel
theorem dX7_init_32 : decode cX7_init 32 = .ok (.putfield 23, 3) := by decide +kernel
theorem dX7_init_35 : decode cX7_init 35 = .ok (.aload_n 0, 1) := by decide +kernel
theorem dX7_init_36 : decode cX7_init 36 = .ok (.bipush 6, 2) := by decide +kernel
theorem dX7_init_38 : decode cX7_init 38 = .ok (.newarray .int, 2) := by decide +kernel
theorem dX7_init_40 : decode cX7_init 40 = .ok (.putfield 26, 3) := by decide +kernel
theorem dX7_init_43 : decode cX7_init 43 = .ok (.aload_n 0, 1) := by decide +kernel
theorem dX7_init_44 : decode cX7_init 44 = .ok (.bipush 6, 2) := by decide +kernel
theorem dX7_init_46 : decode cX7_init 46 = .ok (.newarray .int, 2) := by decide +kernel
theorem dX7_init_48 : decode cX7_init 48 = .ok (.putfield 29, 3) := by decide +kernel
theorem dX7_init_51 : decode cX7_init 51 = .ok (.aload_n 0, 1) := by decide +kernel
theorem dX7_init_52 : decode cX7_init 52 = .ok (.bipush 8, 2) := by decide +kernel
theorem dX7_init_54 : decode cX7_init 54 = .ok (.newarray .int, 2) := by decide +kernel
theorem dX7_init_56 : decode cX7_init 56 = .ok (.putfield 32, 3) := by decide +kernel
theorem dX7_init_59 : decode cX7_init 59 = .ok (.aload_n 0, 1) := by decide +kernel
theorem dX7_init_60 : decode cX7_init 60 = .ok (.bipush 8, 2) := by decide +kernel
theorem dX7_init_62 : decode cX7_init 62 = .ok (.newarray .int, 2) := by decide +kernel
theorem dX7_init_64 : decode cX7_init 64 = .ok (.putfield 35, 3) := by decide +kernel
theorem dX7_init_67 : decode cX7_init 67 = .ok (.aload_n 0, 1) := by decide +kernel
theorem dX7_init_68 : decode cX7_init 68 = .ok (.bipush 8, 2) := by decide +kernel
theorem dX7_init_70 : decode cX7_init 70 = .ok (.newarray .int, 2) := by decide +kernel
theorem dX7_init_72 : decode cX7_init 72 = .ok (.putfield 38, 3) := by decide +kernel
theorem dX7_init_75 : decode cX7_init 75 = .ok (.aload_n 0, 1) := by decide +kernel
theorem dX7_init_76 : decode cX7_init 76 = .ok (.bipush 8, 2) := by decide +kernel
theorem dX7_init_78 : decode cX7_init 78 = .ok (.newarray .boolean, 2) := by decide +kernel
theorem dX7_init_80 : decode cX7_init 80 = .ok (.putfield 41, 3) := by decide +kernel
theorem dX7_init_83 : decode cX7_init 83 = .ok (.aload_n 0, 1) := by decide +kernel
theorem dX7_init_84 : decode cX7_init 84 = .ok (.sipush 256, 3) := by decide +kernel
theorem dX7_init_87 : decode cX7_init 87 = .ok (.newarray .int, 2) := by decide +kernel
theorem dX7_init_89 : decode cX7_init 89 = .ok (.putfield 45, 3) := by decide +kernel
theorem dX7_init_92 : decode cX7_init 92 = .ok (.aload_n 0, 1) := by decide +kernel
theorem dX7_init_93 : decode cX7_init 93 = .ok (.ldc 48, 2) := by decide +kernel
theorem dX7_init_95 : decode cX7_init 95 = .ok (.newarray .int, 2) := by decide +kernel
theorem dX7_init_97 : decode cX7_init 97 = .ok (.putfield 49, 3) := by decide +kernel
theorem dX7_init_100 : decode cX7_init 100 = .ok (.aload_n 0, 1) := by decide +kernel
theorem dX7_init_101 : decode cX7_init 101 = .ok (.sipush 256, 3) := by decide +kernel
theorem dX7_init_104 : decode cX7_init 104 = .ok (.newarray .int, 2) := by decide +kernel
theorem dX7_init_106 : decode cX7_init 106 = .ok (.putfield 52, 3) := by decide +kernel
theorem dX7_init_109 : decode cX7_init 109 = .ok (.aload_n 0, 1) := by decide +kernel
theorem dX7_init_110 : decode cX7_init 110 = .ok (.sipush 256, 3) := by decide +kernel
theorem dX7_init_113 : decode cX7_init 113 = .ok (.newarray .int, 2) := by decide +kernel
theorem dX7_init_115 : decode cX7_init 115 = .ok (.putfield 55, 3) := by decide +kernel
theorem dX7_init_118 : decode cX7_init 118 = .ok (.aload_n 0, 1) := by decide +kernel
theorem dX7_init_119 : decode cX7_init 119 = .ok (.sipush 256, 3) := by decide +kernel
theorem dX7_init_122 : decode cX7_init 122 = .ok (.newarray .int, 2) := by decide +kernel
theorem dX7_init_124 : decode cX7_init 124 = .ok (.putfield 58, 3) := by decide +kernel
theorem dX7_init_127 : decode cX7_init 127 = .ok (.aload_n 0, 1) := by decide +kernel
theorem dX7_init_128 : decode cX7_init 128 = .ok (.sipush 256, 3) := by decide +kernel
theorem dX7_init_131 : decode cX7_init 131 = .ok (.newarray .int, 2) := by decide +kernel
theorem dX7_init_133 : decode cX7_init 133 = .ok (.putfield 61, 3) := by decide +kernel
theorem dX7_init_136 : decode cX7_init 136 = .ok (.aload_n 0, 1) := by decide +kernel
theorem dX7_init_137 : decode cX7_init 137 = .ok (.sipush 256, 3) := by decide +kernel
theorem dX7_init_140 : decode cX7_init 140 = .ok (.newarray .int, 2) := by decide +kernel
theorem dX7_init_142 : decode cX7_init 142 = .ok (.putfield 64, 3) := by decide +kernel
theorem dX7_init_145 : decode cX7_init 145 = .ok (.aload_n 0, 1) := by decide +kernel
theorem dX7_init_146 : decode cX7_init 146 = .ok (.sipush 256, 3) := by decide +kernel
theorem dX7_init_149 : decode cX7_init 149 = .ok (.newarray .int, 2) := by decide +kernel
theorem dX7_init_151 : decode cX7_init 151 = .ok (.putfield 67, 3) := by decide +kernel
theorem dX7_init_154 : decode cX7_init 154 = .ok (.aload_n 0, 1) := by decide +kernel
theorem dX7_init_155 : decode cX7_init 155 = .ok (.sipush 256, 3) := by decide +kernel
theorem dX7_init_158 : decode cX7_init 158 = .ok (.newarray .int, 2) := by decide +kernel
theorem dX7_init_160 : decode cX7_init 160 = .ok (.putfield 70, 3) := by decide +kernel
theorem dX7_init_163 : decode cX7_init 163 = .ok (.aload_n 0, 1) := by decide +kernel
theorem dX7_init_164 : decode cX7_init 164 = .ok (.sipush 256, 3) := by decide +kernel
theorem dX7_init_167 : decode cX7_init 167 = .ok (.newarray .int, 2) := by decide +kernel
theorem dX7_init_169 : decode cX7_init 169 = .ok (.putfield 73, 3) := by decide +kernel
theorem dX7_init_172 : decode cX7_init 172 = .ok (.aload_n 0, 1) := by decide +kernel
theorem dX7_init_173 : decode cX7_init 173 = .ok (.sipush 256, 3) := by decide +kernel
theorem dX7_init_176 : decode cX7_init 176 = .ok (.newarray .int, 2) := by decide +kernel
theorem dX7_init_178 : decode cX7_init 178 = .ok (.putfield 76, 3) := by decide +kernel
theorem dX7_init_181 : decode cX7_init 181 = .ok (.aload_n 0, 1) := by decide +kernel
theorem dX7_init_182 : decode cX7_init 182 = .ok (.sipush 256, 3) := by decide +kernel
theorem dX7_init_185 : decode cX7_init 185 = .ok (.newarray .int, 2) := by decide +kernel
theorem dX7_init_187 : decode cX7_init 187 = .ok (.putfield 79, 3) := by decide +kernel
theorem dX7_init_190 : decode cX7_init 190 = .ok (.aload_n 0, 1) := by decide +kernel
theorem dX7_init_191 : decode cX7_init 191 = .ok (.sipush 1300, 3) := by decide +kernel
theorem dX7_init_194 : decode cX7_init 194 = .ok (.newarray .int, 2) := by decide +kernel
theorem dX7_init_196 : decode cX7_init 196 = .ok (.putfield 82, 3) := by decide +kernel
theorem dX7_init_199 : decode cX7_init 199 = .ok (.aload_n 0, 1) := by decide +kernel
theorem dX7_init_200 : decode cX7_init 200 = .ok (.iconst 3, 1) := by decide +kernel
theorem dX7_init_201 : decode cX7_init 201 = .ok (.newarray .int, 2) := by decide +kernel
theorem dX7_init_203 : decode cX7_init 203 = .ok (.putfield 85, 3) := by decide +kernel
theorem dX7_init_206 : decode cX7_init 206 = .ok (.aload_n 0, 1) := by decide +kernel
theorem dX7_init_207 : decode cX7_init 207 = .ok (.iconst 3, 1) := by decide +kernel
theorem dX7_init_208 : decode cX7_init 208 = .ok (.newarray .int, 2) := by decide +kernel
theorem dX7_init_210 : decode cX7_init 210 = .ok (.putfield 88, 3) := by decide +kernel
theorem dX7_init_213 : decode cX7_init 213 = .ok (.aload_n 0, 1) := by decide +kernel
theorem dX7_init_214 : decode cX7_init 214 = .ok (.iconst 4, 1) := by decide +kernel
theorem dX7_init_215 : decode cX7_init 215 = .ok (.newarray .int, 2) := by decide +kernel
theorem dX7_init_217 : decode cX7_init 217 = .ok (.putfield 91, 3) := by decide +kernel
theorem dX7_init_220 : decode cX7_init 220 = .ok (.aload_n 0, 1) := by decide +kernel
theorem dX7_init_221 : decode cX7_init 221 = .ok (.iconst 4, 1) := by decide +kernel
theorem dX7_init_222 : decode cX7_init 222 = .ok (.newarray .int, 2) := by decide +kernel
theorem dX7_init_224 : decode cX7_init 224 = .ok (.putfield 94, 3) := by decide +kernel
theorem dX7_init_227 : decode cX7_init 227 = .ok (.aload_n 0, 1) := by decide +kernel
theorem dX7_init_228 : decode cX7_init 228 = .ok (.sipush 1296, 3) := by decide +kernel
theorem dX7_init_231 : decode cX7_init 231 = .ok (.newarray .int, 2) := by decide +kernel
theorem dX7_init_233 : decode cX7_init 233 = .ok (.putfield 97, 3) := by decide +kernel
theorem dX7_init_236 : decode cX7_init 236 = .ok (.aload_n 0, 1) := by decide +kernel
theorem dX7_init_237 : decode cX7_init 237 = .ok (.sipush 1296, 3) := by decide +kernel
theorem dX7_init_240 : decode cX7_init 240 = .ok (.newarray .int, 2) := by decide +kernel
theorem dX7_init_242 : decode cX7_init 242 = .ok (.putfield 100, 3) := by decide +kernel
theorem dX7_init_245 : decode cX7_init 245 = .ok (.aload_n 0, 1) := by decide +kernel
theorem dX7_init_246 : decode cX7_init 246 = .ok (.sipush 1296, 3) := by decide +kernel
theorem dX7_init_249 : decode cX7_init 249 = .ok (.newarray .int, 2) := by decide +kernel
theorem dX7_init_251 : decode cX7_init 251 = .ok (.putfield 103, 3) := by decide +kernel
theorem dX7_init_254 : decode cX7_init 254 = .ok (.aload_n 0, 1) := by decide +kernel
theorem dX7_init_255 : decode cX7_init 255 = .ok (.sipush 1296, 3) := by decide +kernel
theorem dX7_init_258 : decode cX7_init 258 = .ok (.newarray .int, 2) := by decide +kernel
theorem dX7_init_260 : decode cX7_init 260 = .ok (.putfield 106, 3) := by decide +kernel
theorem dX7_init_263 : decode cX7_init 263 = .ok (.aload_n 0, 1) := by decide +kernel
theorem dX7_init_264 : decode cX7_init 264 = .ok (.bipush 20, 2) := by decide +kernel
theorem dX7_init_266 : decode cX7_init 266 = .ok (.newarray .int, 2) := by decide +kernel
theorem dX7_init_268 : decode cX7_init 268 = .ok (.putfield 109, 3) := by decide +kernel
theorem dX7_init_271 : decode cX7_init 271 = .ok (.iconst 0, 1) := by decide +kernel
theorem dX7_init_272 : decode cX7_init 272 = .ok (.istore_n 1, 1) := by decide +kernel
theorem dX7_init_273 : decode cX7_init 273 = .ok (.iconst 1, 1) := by decide +kernel
theorem dX7_init_274 : decode cX7_init 274 = .ok (.istore_n 2, 1) := by decide +kernel
theorem dX7_init_275 : decode cX7_init 275 = .ok (.iload_n 2, 1) := by decide +kernel
theorem dX7_init_276 : decode cX7_init 276 = .ok (.bipush 16, 2) := by decide +kernel
theorem dX7_init_278 : decode cX7_init 278 = .ok (.if_icmp .gt 42, 3) := by decide +kernel
theorem dX7_init_281 : decode cX7_init 281 = .ok (.iconst 0, 1) := by decide +kernel
theorem dX7_init_282 : decode cX7_init 282 = .ok (.istore_n 3, 1) := by decide +kernel
theorem dX7_init_283 : decode cX7_init 283 = .ok (.iload_n 3, 1) := by decide +kernel
theorem dX7_init_284 : decode cX7_init 284 = .ok (.iload_n 2, 1) := by decide +kernel
theorem dX7_init_285 : decode cX7_init 285 = .ok (.iadd, 1) := by decide +kernel
theorem dX7_init_286 : decode cX7_init 286 = .ok (.bipush 16, 2) := by decide +kernel
theorem dX7_init_288 : decode cX7_init 288 = .ok (.if_icmp .gt 26, 3) := by decide +kernel
theorem dX7_init_291 : decode cX7_init 291 = .ok (.aload_n 0, 1) := by decide +kernel
theorem dX7_init_292 : decode cX7_init 292 = .ok (.getfield 45, 3) := by decide +kernel
theorem dX7_init_295 : decode cX7_init 295 = .ok (.bipush 16, 2) := by decide +kernel
theorem dX7_init_297 : decode cX7_init 297 = .ok (.iload_n 3, 1) := by decide +kernel
theorem dX7_init_298 : decode cX7_init 298 = .ok (.imul, 1) := by decide +kernel
theorem dX7_init_299 : decode cX7_init 299 = .ok (.iload_n 2, 1) := by decide +kernel
theorem dX7_init_300 : decode cX7_init 300 = .ok (.iadd, 1) := by decide +kernel
theorem dX7_init_301 : decode cX7_init 301 = .ok (.iconst 1, 1) := by decide +kernel
theorem dX7_init_302 : decode cX7_init 302 = .ok (.isub, 1) := by decide +kernel
theorem dX7_init_303 : decode cX7_init 303 = .ok (.iload_n 1, 1) := by decide +kernel
theorem dX7_init_304 : decode cX7_init 304 = .ok (.iastore, 1) := by decide +kernel
theorem dX7_init_305 : decode cX7_init 305 = .ok (.iinc 1 1, 3) := by decide +kernel
theorem dX7_init_308 : decode cX7_init 308 = .ok (.iinc 3 1, 3) := by decide +kernel
theorem dX7_init_311 : decode cX7_init 311 = .ok (.goto (-28), 3) := by decide +kernel
theorem dX7_init_314 : decode cX7_init 314 = .ok (.iinc 2 1, 3) := by decide +kernel
theorem dX7_init_317 : decode cX7_init 317 = .ok (.goto (-42), 3) := by decide +kernel
theorem dX7_init_320 : decode cX7_init 320 = .ok (.return_, 1) := by decide +kernel
theorem dX7_within_0 : decode cX7_within 0 = .ok (.iload_n 0, 1) := by decide +kernel
theorem dX7_within_1 : decode cX7_within 1 = .ok (.iload_n 1, 1) := by decide +kernel
theorem dX7_within_2 : decode cX7_within 2 = .ok (.if_icmp .lt 12, 3) := by decide +kernel
theorem dX7_within_5 : decode cX7_within 5 = .ok (.iload_n 0, 1) := by decide +kernel
theorem dX7_within_6 : decode cX7_within 6 = .ok (.iload_n 2, 1) := by decide +kernel
theorem dX7_within_7 : decode cX7_within 7 = .ok (.if_icmp .gt 7, 3) := by decide +kernel
theorem dX7_within_10 : decode cX7_within 10 = .ok (.iconst 1, 1) := by decide +kernel
theorem dX7_within_11 : decode cX7_within 11 = .ok (.goto 4, 3) := by decide +kernel
theorem dX7_within_14 : decode cX7_within 14 = .ok (.iconst 0, 1) := by decide +kernel
theorem dX7_within_15 : decode cX7_within 15 = .ok (.ireturn, 1) := by decide +kernel
set_option maxRecDepth 100000 in
theorem ggX7_plate_X7_within : GoodIn wsX7_plate wsX7_within := goodIn_r _ [11] rfl (by decide +kernel)
set_option maxRecDepth 100000 in
theorem gX7_plate_X7_within : GoodIn wsX7_plate (va_wsS RX7 112 yX7_within wsX7_within) := goodIn_app (goodIn_of _ (by decide +kernel)) ggX7_plate_X7_within
theorem dX7_plate_0 : decode cX7_plate 0 = .ok (.iload_n 1, 1) := by decide +kernel
theorem dX7_plate_1 : decode cX7_plate 1 = .ok (.iconst 1, 1) := by decide +kernel
theorem dX7_plate_2 : decode cX7_plate 2 = .ok (.bipush 16, 2) := by decide +kernel
theorem dX7_plate_4 : decode cX7_plate 4 = .ok (.invokestatic 112, 3) := by decide +kernel
theorem dX7_plate_7 : decode cX7_plate 7 = .ok (.ifCond .eq 42, 3) := by decide +kernel
theorem dX7_plate_10 : decode cX7_plate 10 = .ok (.iload_n 2, 1) := by decide +kernel
theorem dX7_plate_11 : decode cX7_plate 11 = .ok (.iconst 1, 1) := by decide +kernel
theorem dX7_plate_12 : decode cX7_plate 12 = .ok (.bipush 16, 2) := by decide +kernel
theorem dX7_plate_14 : decode cX7_plate 14 = .ok (.invokestatic 112, 3) := by decide +kernel
theorem dX7_plate_17 : decode cX7_plate 17 = .ok (.ifCond .eq 32, 3) := by decide +kernel
theorem dX7_plate_20 : decode cX7_plate 20 = .ok (.iload_n 3, 1) := by decide +kernel
theorem dX7_plate_21 : decode cX7_plate 21 = .ok (.iconst 0, 1) := by decide +kernel
theorem dX7_plate_22 : decode cX7_plate 22 = .ok (.iconst 2, 1) := by decide +kernel
theorem dX7_plate_23 : decode cX7_plate 23 = .ok (.invokestatic 112, 3) := by decide +kernel
theorem dX7_plate_26 : decode cX7_plate 26 = .ok (.ifCond .eq 23, 3) := by decide +kernel
theorem dX7_plate_29 : decode cX7_plate 29 = .ok (.iload 4, 2) := by decide +kernel
theorem dX7_plate_31 : decode cX7_plate 31 = .ok (.iconst 1, 1) := by decide +kernel
theorem dX7_plate_32 : decode cX7_plate 32 = .ok (.iconst 4, 1) := by decide +kernel
theorem dX7_plate_33 : decode cX7_plate 33 = .ok (.invokestatic 112, 3) := by decide +kernel
theorem dX7_plate_36 : decode cX7_plate 36 = .ok (.ifCond .eq 13, 3) := by decide +kernel
theorem dX7_plate_39 : decode cX7_plate 39 = .ok (.iload 5, 2) := by decide +kernel
theorem dX7_plate_41 : decode cX7_plate 41 = .ok (.iconst 0, 1) := by decide +kernel
theorem dX7_plate_42 : decode cX7_plate 42 = .ok (.iconst 1, 1) := by decide +kernel
theorem dX7_plate_43 : decode cX7_plate 43 = .ok (.invokestatic 112, 3) := by decide +kernel
theorem dX7_plate_46 : decode cX7_plate 46 = .ok (.ifCond .ne 6, 3) := by decide +kernel
theorem dX7_plate_49 : decode cX7_plate 49 = .ok (.bipush (-3), 2) := by decide +kernel
theorem dX7_plate_51 : decode cX7_plate 51 = .ok (.ireturn, 1) := by decide +kernel
theorem dX7_plate_52 : decode cX7_plate 52 = .ok (.aload_n 0, 1) := by decide +kernel
theorem dX7_plate_53 : decode cX7_plate 53 = .ok (.iload_n 1, 1) := by decide +kernel
theorem dX7_plate_54 : decode cX7_plate 54 = .ok (.putfield 7, 3) := by decide +kernel
theorem dX7_plate_57 : decode cX7_plate 57 = .ok (.aload_n 0, 1) := by decide +kernel
theorem dX7_plate_58 : decode cX7_plate 58 = .ok (.iload_n 2, 1) := by decide +kernel
theorem dX7_plate_59 : decode cX7_plate 59 = .ok (.putfield 13, 3) := by decide +kernel
theorem dX7_plate_62 : decode cX7_plate 62 = .ok (.aload_n 0, 1) := by decide +kernel
theorem dX7_plate_63 : decode cX7_plate 63 = .ok (.iload_n 3, 1) := by decide +kernel
theorem dX7_plate_64 : decode cX7_plate 64 = .ok (.putfield 116, 3) := by decide +kernel
theorem dX7_plate_67 : decode cX7_plate 67 = .ok (.aload_n 0, 1) := by decide +kernel
theorem dX7_plate_68 : decode cX7_plate 68 = .ok (.iload 4, 2) := by decide +kernel
theorem dX7_plate_70 : decode cX7_plate 70 = .ok (.putfield 16, 3) := by decide +kernel
theorem dX7_plate_73 : decode cX7_plate 73 = .ok (.aload_n 0, 1) := by decide +kernel
theorem dX7_plate_74 : decode cX7_plate 74 = .ok (.iload 5, 2) := by decide +kernel
theorem dX7_plate_76 : decode cX7_plate 76 = .ok (.putfield 119, 3) := by decide +kernel
theorem dX7_plate_79 : decode cX7_plate 79 = .ok (.aload_n 0, 1) := by decide +kernel
theorem dX7_plate_80 : decode cX7_plate 80 = .ok (.iconst 0, 1) := by decide +kernel
theorem dX7_plate_81 : decode cX7_plate 81 = .ok (.putfield 122, 3) := by decide +kernel
theorem dX7_plate_84 : decode cX7_plate 84 = .ok (.aload_n 0, 1) := by decide +kernel
theorem dX7_plate_85 : decode cX7_plate 85 = .ok (.iconst 0, 1) := by decide +kernel
theorem dX7_plate_86 : decode cX7_plate 86 = .ok (.putfield 125, 3) := by decide +kernel
theorem dX7_plate_89 : decode cX7_plate 89 = .ok (.iconst 1, 1) := by decide +kernel
theorem dX7_plate_90 : decode cX7_plate 90 = .ok (.ireturn, 1) := by decide +kernel
set_option maxRecDepth 100000 in
theorem ggX7_lies_X7_within : GoodIn wsX7_lies wsX7_within := goodIn_r _ [6] rfl (by decide +kernel)
set_option maxRecDepth 100000 in
theorem gX7_lies_X7_within : GoodIn wsX7_lies (va_wsS RX7 112 yX7_within wsX7_within) := goodIn_app (goodIn_of _ (by decide +kernel)) ggX7_lies_X7_within
theorem dX7_lies_0 : decode cX7_lies 0 = .ok (.iload_n 1, 1) := by decide +kernel
theorem dX7_lies_1 : decode cX7_lies 1 = .ok (.iconst 0, 1) := by decide +kernel
theorem dX7_lies_2 : decode cX7_lies 2 = .ok (.aload_n 0, 1) := by decide +kernel
theorem dX7_lies_3 : decode cX7_lies 3 = .ok (.getfield 7, 3) := by decide +kernel
theorem dX7_lies_6 : decode cX7_lies 6 = .ok (.iconst 1, 1) := by decide +kernel
theorem dX7_lies_7 : decode cX7_lies 7 = .ok (.isub, 1) := by decide +kernel
theorem dX7_lies_8 : decode cX7_lies 8 = .ok (.invokestatic 112, 3) := by decide +kernel
theorem dX7_lies_11 : decode cX7_lies 11 = .ok (.ifCond .eq 50, 3) := by decide +kernel
theorem dX7_lies_14 : decode cX7_lies 14 = .ok (.iload_n 2, 1) := by decide +kernel
theorem dX7_lies_15 : decode cX7_lies 15 = .ok (.iconst 0, 1) := by decide +kernel
theorem dX7_lies_16 : decode cX7_lies 16 = .ok (.aload_n 0, 1) := by decide +kernel
theorem dX7_lies_17 : decode cX7_lies 17 = .ok (.getfield 13, 3) := by decide +kernel
theorem dX7_lies_20 : decode cX7_lies 20 = .ok (.iconst 1, 1) := by decide +kernel
theorem dX7_lies_21 : decode cX7_lies 21 = .ok (.isub, 1) := by decide +kernel
theorem dX7_lies_22 : decode cX7_lies 22 = .ok (.invokestatic 112, 3) := by decide +kernel
theorem dX7_lies_25 : decode cX7_lies 25 = .ok (.ifCond .eq 36, 3) := by decide +kernel
theorem dX7_lies_28 : decode cX7_lies 28 = .ok (.iload_n 3, 1) := by decide +kernel
theorem dX7_lies_29 : decode cX7_lies 29 = .ok (.iconst 1, 1) := by decide +kernel
theorem dX7_lies_30 : decode cX7_lies 30 = .ok (.aload_n 0, 1) := by decide +kernel
theorem dX7_lies_31 : decode cX7_lies 31 = .ok (.getfield 7, 3) := by decide +kernel
theorem dX7_lies_34 : decode cX7_lies 34 = .ok (.iload_n 1, 1) := by decide +kernel
theorem dX7_lies_35 : decode cX7_lies 35 = .ok (.isub, 1) := by decide +kernel
theorem dX7_lies_36 : decode cX7_lies 36 = .ok (.invokestatic 112, 3) := by decide +kernel
theorem dX7_lies_39 : decode cX7_lies 39 = .ok (.ifCond .eq 22, 3) := by decide +kernel
theorem dX7_lies_42 : decode cX7_lies 42 = .ok (.iload 4, 2) := by decide +kernel
theorem dX7_lies_44 : decode cX7_lies 44 = .ok (.iconst 1, 1) := by decide +kernel
theorem dX7_lies_45 : decode cX7_lies 45 = .ok (.aload_n 0, 1) := by decide +kernel
theorem dX7_lies_46 : decode cX7_lies 46 = .ok (.getfield 13, 3) := by decide +kernel
theorem dX7_lies_49 : decode cX7_lies 49 = .ok (.iload_n 2, 1) := by decide +kernel
theorem dX7_lies_50 : decode cX7_lies 50 = .ok (.isub, 1) := by decide +kernel
theorem dX7_lies_51 : decode cX7_lies 51 = .ok (.invokestatic 112, 3) := by decide +kernel
theorem dX7_lies_54 : decode cX7_lies 54 = .ok (.ifCond .eq 7, 3) := by decide +kernel
theorem dX7_lies_57 : decode cX7_lies 57 = .ok (.iconst 1, 1) := by decide +kernel
theorem dX7_lies_58 : decode cX7_lies 58 = .ok (.goto 4, 3) := by decide +kernel
theorem dX7_lies_61 : decode cX7_lies 61 = .ok (.iconst 0, 1) := by decide +kernel
theorem dX7_lies_62 : decode cX7_lies 62 = .ok (.ireturn, 1) := by decide +kernel
set_option maxRecDepth 100000 in
theorem ggX7_defect_X7_lies : GoodIn wsX7_defect wsX7_lies := goodIn_r _ [11, 12, 13, 14, 15, 10, 16, 17, 18, 19, 20, 21, 22, 23, 24, 25, 26, 27, 28, 29, 30, 31, 32, 33, 34, 35, 36, 37, 38, 39, 40, 41, 42, 43, 44, 45, 46, 47, 48, 49, 50, 51, 52, 53, 54, 55, 56, 57, 58, 59, 60, 61, 62, 63] rfl (by decide +kernel)
set_option maxRecDepth 100000 in
theorem gX7_defect_X7_lies : GoodIn wsX7_defect (wsV RX7 129 RX7 yX7_lies wsX7_lies) := goodIn_app (goodIn_of _ (by decide +kernel)) ggX7_defect_X7_lies
theorem dX7_defect_0 : decode cX7_defect 0 = .ok (.aload_n 0, 1) := by decide +kernel
theorem dX7_defect_1 : decode cX7_defect 1 = .ok (.iload_n 1, 1) := by decide +kernel
theorem dX7_defect_2 : decode cX7_defect 2 = .ok (.iload_n 2, 1) := by decide +kernel
theorem dX7_defect_3 : decode cX7_defect 3 = .ok (.iload_n 3, 1) := by decide +kernel
theorem dX7_defect_4 : decode cX7_defect 4 = .ok (.iload 4, 2) := by decide +kernel
theorem dX7_defect_6 : decode cX7_defect 6 = .ok (.invokevirtual 129, 3) := by decide +kernel
theorem dX7_defect_9 : decode cX7_defect 9 = .ok (.ifCond .ne 6, 3) := by decide +kernel
theorem dX7_defect_12 : decode cX7_defect 12 = .ok (.bipush (-3), 2) := by decide +kernel
theorem dX7_defect_14 : decode cX7_defect 14 = .ok (.ireturn, 1) := by decide +kernel
theorem dX7_defect_15 : decode cX7_defect 15 = .ok (.aload_n 0, 1) := by decide +kernel
theorem dX7_defect_16 : decode cX7_defect 16 = .ok (.getfield 122, 3) := by decide +kernel
theorem dX7_defect_19 : decode cX7_defect 19 = .ok (.bipush 6, 2) := by decide +kernel
theorem dX7_defect_21 : decode cX7_defect 21 = .ok (.if_icmp .ne 6, 3) := by decide +kernel
theorem dX7_defect_24 : decode cX7_defect 24 = .ok (.bipush (-4), 2) := by decide +kernel
theorem dX7_defect_26 : decode cX7_defect 26 = .ok (.ireturn, 1) := by decide +kernel
theorem dX7_defect_27 : decode cX7_defect 27 = .ok (.aload_n 0, 1) := by decide +kernel
theorem dX7_defect_28 : decode cX7_defect 28 = .ok (.getfield 19, 3) := by decide +kernel
theorem dX7_defect_31 : decode cX7_defect 31 = .ok (.aload_n 0, 1) := by decide +kernel
theorem dX7_defect_32 : decode cX7_defect 32 = .ok (.getfield 122, 3) := by decide +kernel
theorem dX7_defect_35 : decode cX7_defect 35 = .ok (.iload_n 1, 1) := by decide +kernel
theorem dX7_defect_36 : decode cX7_defect 36 = .ok (.iastore, 1) := by decide +kernel
theorem dX7_defect_37 : decode cX7_defect 37 = .ok (.aload_n 0, 1) := by decide +kernel
theorem dX7_defect_38 : decode cX7_defect 38 = .ok (.getfield 23, 3) := by decide +kernel
theorem dX7_defect_41 : decode cX7_defect 41 = .ok (.aload_n 0, 1) := by decide +kernel
theorem dX7_defect_42 : decode cX7_defect 42 = .ok (.getfield 122, 3) := by decide +kernel
theorem dX7_defect_45 : decode cX7_defect 45 = .ok (.iload_n 2, 1) := by decide +kernel
theorem dX7_defect_46 : decode cX7_defect 46 = .ok (.iastore, 1) := by decide +kernel
theorem dX7_defect_47 : decode cX7_defect 47 = .ok (.aload_n 0, 1) := by decide +kernel
theorem dX7_defect_48 : decode cX7_defect 48 = .ok (.getfield 26, 3) := by decide +kernel
theorem dX7_defect_51 : decode cX7_defect 51 = .ok (.aload_n 0, 1) := by decide +kernel
theorem dX7_defect_52 : decode cX7_defect 52 = .ok (.getfield 122, 3) := by decide +kernel
theorem dX7_defect_55 : decode cX7_defect 55 = .ok (.iload_n 3, 1) := by decide +kernel
theorem dX7_defect_56 : decode cX7_defect 56 = .ok (.iastore, 1) := by decide +kernel
theorem dX7_defect_57 : decode cX7_defect 57 = .ok (.aload_n 0, 1) := by decide +kernel
theorem dX7_defect_58 : decode cX7_defect 58 = .ok (.getfield 29, 3) := by decide +kernel
theorem dX7_defect_61 : decode cX7_defect 61 = .ok (.aload_n 0, 1) := by decide +kernel
theorem dX7_defect_62 : decode cX7_defect 62 = .ok (.getfield 122, 3) := by decide +kernel
theorem dX7_defect_65 : decode cX7_defect 65 = .ok (.iload 4, 2) := by decide +kernel
theorem dX7_defect_67 : decode cX7_defect 67 = .ok (.iastore, 1) := by decide +kernel
theorem dX7_defect_68 : decode cX7_defect 68 = .ok (.aload_n 0, 1) := by decide +kernel
theorem dX7_defect_69 : decode cX7_defect 69 = .ok (.dup, 1) := by decide +kernel
theorem dX7_defect_70 : decode cX7_defect 70 = .ok (.getfield 122, 3) := by decide +kernel
theorem dX7_defect_73 : decode cX7_defect 73 = .ok (.iconst 1, 1) := by decide +kernel
theorem dX7_defect_74 : decode cX7_defect 74 = .ok (.iadd, 1) := by decide +kernel
theorem dX7_defect_75 : decode cX7_defect 75 = .ok (.putfield 122, 3) := by decide +kernel
theorem dX7_defect_78 : decode cX7_defect 78 = .ok (.aload_n 0, 1) := by decide +kernel
theorem dX7_defect_79 : decode cX7_defect 79 = .ok (.iconst 0, 1) := by decide +kernel
theorem dX7_defect_80 : decode cX7_defect 80 = .ok (.putfield 125, 3) := by decide +kernel
theorem dX7_defect_83 : decode cX7_defect 83 = .ok (.aload_n 0, 1) := by decide +kernel
theorem dX7_defect_84 : decode cX7_defect 84 = .ok (.getfield 122, 3) := by decide +kernel
theorem dX7_defect_87 : decode cX7_defect 87 = .ok (.ireturn, 1) := by decide +kernel
set_option maxRecDepth 100000 in
theorem ggX7_kind_X7_within : GoodIn wsX7_kind wsX7_within := goodIn_r _ [10] rfl (by decide +kernel)
set_option maxRecDepth 100000 in
theorem gX7_kind_X7_within : GoodIn wsX7_kind (va_wsS RX7 112 yX7_within wsX7_within) := goodIn_app (goodIn_of _ (by decide +kernel)) ggX7_kind_X7_within
theorem dX7_kind_0 : decode cX7_kind 0 = .ok (.iload_n 1, 1) := by decide +kernel
theorem dX7_kind_1 : decode cX7_kind 1 = .ok (.iconst 1, 1) := by decide +kernel
theorem dX7_kind_2 : decode cX7_kind 2 = .ok (.bipush 16, 2) := by decide +kernel
theorem dX7_kind_4 : decode cX7_kind 4 = .ok (.invokestatic 112, 3) := by decide +kernel
theorem dX7_kind_7 : decode cX7_kind 7 = .ok (.ifCond .eq 24, 3) := by decide +kernel
theorem dX7_kind_10 : decode cX7_kind 10 = .ok (.iload_n 2, 1) := by decide +kernel
theorem dX7_kind_11 : decode cX7_kind 11 = .ok (.iconst 1, 1) := by decide +kernel
theorem dX7_kind_12 : decode cX7_kind 12 = .ok (.bipush 16, 2) := by decide +kernel
theorem dX7_kind_14 : decode cX7_kind 14 = .ok (.invokestatic 112, 3) := by decide +kernel
theorem dX7_kind_17 : decode cX7_kind 17 = .ok (.ifCond .eq 14, 3) := by decide +kernel
theorem dX7_kind_20 : decode cX7_kind 20 = .ok (.iload_n 3, 1) := by decide +kernel
theorem dX7_kind_21 : decode cX7_kind 21 = .ok (.iconst 1, 1) := by decide +kernel
theorem dX7_kind_22 : decode cX7_kind 22 = .ok (.sipush 1000, 3) := by decide +kernel
theorem dX7_kind_25 : decode cX7_kind 25 = .ok (.invokestatic 112, 3) := by decide +kernel
theorem dX7_kind_28 : decode cX7_kind 28 = .ok (.ifCond .ne 6, 3) := by decide +kernel
theorem dX7_kind_31 : decode cX7_kind 31 = .ok (.bipush (-3), 2) := by decide +kernel
theorem dX7_kind_33 : decode cX7_kind 33 = .ok (.ireturn, 1) := by decide +kernel
theorem dX7_kind_34 : decode cX7_kind 34 = .ok (.aload_n 0, 1) := by decide +kernel
theorem dX7_kind_35 : decode cX7_kind 35 = .ok (.getfield 133, 3) := by decide +kernel
theorem dX7_kind_38 : decode cX7_kind 38 = .ok (.bipush 8, 2) := by decide +kernel
theorem dX7_kind_40 : decode cX7_kind 40 = .ok (.if_icmp .ne 6, 3) := by decide +kernel
theorem dX7_kind_43 : decode cX7_kind 43 = .ok (.bipush (-4), 2) := by decide +kernel
theorem dX7_kind_45 : decode cX7_kind 45 = .ok (.ireturn, 1) := by decide +kernel
theorem dX7_kind_46 : decode cX7_kind 46 = .ok (.aload_n 0, 1) := by decide +kernel
theorem dX7_kind_47 : decode cX7_kind 47 = .ok (.getfield 32, 3) := by decide +kernel
theorem dX7_kind_50 : decode cX7_kind 50 = .ok (.aload_n 0, 1) := by decide +kernel
theorem dX7_kind_51 : decode cX7_kind 51 = .ok (.getfield 133, 3) := by decide +kernel
theorem dX7_kind_54 : decode cX7_kind 54 = .ok (.iload_n 1, 1) := by decide +kernel
