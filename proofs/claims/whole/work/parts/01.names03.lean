theorem dX2_addCut_110 : decode cX2_addCut 110 = .ok (.iastore, 1) := by decide +kernel
theorem dX2_addCut_111 : decode cX2_addCut 111 = .ok (.aload_n 0, 1) := by decide +kernel
theorem dX2_addCut_112 : decode cX2_addCut 112 = .ok (.getfield 15, 3) := by decide +kernel
theorem dX2_addCut_115 : decode cX2_addCut 115 = .ok (.iload 8, 2) := by decide +kernel
theorem dX2_addCut_117 : decode cX2_addCut 117 = .ok (.bipush 6, 2) := by decide +kernel
theorem dX2_addCut_119 : decode cX2_addCut 119 = .ok (.iadd, 1) := by decide +kernel
theorem dX2_addCut_120 : decode cX2_addCut 120 = .ok (.iload 4, 2) := by decide +kernel
theorem dX2_addCut_122 : decode cX2_addCut 122 = .ok (.iastore, 1) := by decide +kernel
theorem dX2_addCut_123 : decode cX2_addCut 123 = .ok (.aload_n 0, 1) := by decide +kernel
theorem dX2_addCut_124 : decode cX2_addCut 124 = .ok (.dup, 1) := by decide +kernel
theorem dX2_addCut_125 : decode cX2_addCut 125 = .ok (.getfield 22, 3) := by decide +kernel
theorem dX2_addCut_128 : decode cX2_addCut 128 = .ok (.iconst 1, 1) := by decide +kernel
theorem dX2_addCut_129 : decode cX2_addCut 129 = .ok (.iadd, 1) := by decide +kernel
theorem dX2_addCut_130 : decode cX2_addCut 130 = .ok (.putfield 22, 3) := by decide +kernel
theorem dX2_addCut_133 : decode cX2_addCut 133 = .ok (.return_, 1) := by decide +kernel
theorem dX3_init_0 : decode cX3_init 0 = .ok (.aload_n 0, 1) := by decide +kernel
theorem dX3_init_1 : decode cX3_init 1 = .ok (.invokespecial 3, 3) := by decide +kernel
theorem dX3_init_4 : decode cX3_init 4 = .ok (.aload_n 0, 1) := by decide +kernel
theorem dX3_init_5 : decode cX3_init 5 = .ok (.iconst 0, 1) := by decide +kernel
theorem dX3_init_6 : decode cX3_init 6 = .ok (.putfield 9, 3) := by decide +kernel
theorem dX3_init_9 : decode cX3_init 9 = .ok (.aload_n 0, 1) := by decide +kernel
theorem dX3_init_10 : decode cX3_init 10 = .ok (.iconst 0, 1) := by decide +kernel
theorem dX3_init_11 : decode cX3_init 11 = .ok (.putfield 15, 3) := by decide +kernel
theorem dX3_init_14 : decode cX3_init 14 = .ok (.aload_n 0, 1) := by decide +kernel
theorem dX3_init_15 : decode cX3_init 15 = .ok (.iconst 0, 1) := by decide +kernel
theorem dX3_init_16 : decode cX3_init 16 = .ok (.putfield 18, 3) := by decide +kernel
theorem dX3_init_19 : decode cX3_init 19 = .ok (.aload_n 0, 1) := by decide +kernel
theorem dX3_init_20 : decode cX3_init 20 = .ok (.iconst 3, 1) := by decide +kernel
theorem dX3_init_21 : decode cX3_init 21 = .ok (.newarray .int, 2) := by decide +kernel
theorem dX3_init_23 : decode cX3_init 23 = .ok (.putfield 21, 3) := by decide +kernel
theorem dX3_init_26 : decode cX3_init 26 = .ok (.aload_n 0, 1) := by decide +kernel
theorem dX3_init_27 : decode cX3_init 27 = .ok (.iconst 3, 1) := by decide +kernel
theorem dX3_init_28 : decode cX3_init 28 = .ok (.newarray .int, 2) := by decide +kernel
theorem dX3_init_30 : decode cX3_init 30 = .ok (.putfield 25, 3) := by decide +kernel
theorem dX3_init_33 : decode cX3_init 33 = .ok (.aload_n 0, 1) := by decide +kernel
theorem dX3_init_34 : decode cX3_init 34 = .ok (.iconst 4, 1) := by decide +kernel
theorem dX3_init_35 : decode cX3_init 35 = .ok (.newarray .int, 2) := by decide +kernel
theorem dX3_init_37 : decode cX3_init 37 = .ok (.putfield 28, 3) := by decide +kernel
theorem dX3_init_40 : decode cX3_init 40 = .ok (.aload_n 0, 1) := by decide +kernel
theorem dX3_init_41 : decode cX3_init 41 = .ok (.iconst 4, 1) := by decide +kernel
theorem dX3_init_42 : decode cX3_init 42 = .ok (.newarray .int, 2) := by decide +kernel
theorem dX3_init_44 : decode cX3_init 44 = .ok (.putfield 31, 3) := by decide +kernel
theorem dX3_init_47 : decode cX3_init 47 = .ok (.return_, 1) := by decide +kernel
theorem dX3_addStock_0 : decode cX3_addStock 0 = .ok (.aload_n 0, 1) := by decide +kernel
theorem dX3_addStock_1 : decode cX3_addStock 1 = .ok (.getfield 9, 3) := by decide +kernel
theorem dX3_addStock_4 : decode cX3_addStock 4 = .ok (.iconst 3, 1) := by decide +kernel
theorem dX3_addStock_5 : decode cX3_addStock 5 = .ok (.if_icmp .lt 6, 3) := by decide +kernel
theorem dX3_addStock_8 : decode cX3_addStock 8 = .ok (.bipush (-4), 2) := by decide +kernel
theorem dX3_addStock_10 : decode cX3_addStock 10 = .ok (.ireturn, 1) := by decide +kernel
theorem dX3_addStock_11 : decode cX3_addStock 11 = .ok (.aload_n 0, 1) := by decide +kernel
theorem dX3_addStock_12 : decode cX3_addStock 12 = .ok (.getfield 21, 3) := by decide +kernel
theorem dX3_addStock_15 : decode cX3_addStock 15 = .ok (.aload_n 0, 1) := by decide +kernel
theorem dX3_addStock_16 : decode cX3_addStock 16 = .ok (.getfield 9, 3) := by decide +kernel
theorem dX3_addStock_19 : decode cX3_addStock 19 = .ok (.iload_n 1, 1) := by decide +kernel
theorem dX3_addStock_20 : decode cX3_addStock 20 = .ok (.iastore, 1) := by decide +kernel
theorem dX3_addStock_21 : decode cX3_addStock 21 = .ok (.aload_n 0, 1) := by decide +kernel
theorem dX3_addStock_22 : decode cX3_addStock 22 = .ok (.getfield 25, 3) := by decide +kernel
theorem dX3_addStock_25 : decode cX3_addStock 25 = .ok (.aload_n 0, 1) := by decide +kernel
theorem dX3_addStock_26 : decode cX3_addStock 26 = .ok (.getfield 9, 3) := by decide +kernel
theorem dX3_addStock_29 : decode cX3_addStock 29 = .ok (.iload_n 2, 1) := by decide +kernel
theorem dX3_addStock_30 : decode cX3_addStock 30 = .ok (.iastore, 1) := by decide +kernel
theorem dX3_addStock_31 : decode cX3_addStock 31 = .ok (.aload_n 0, 1) := by decide +kernel
theorem dX3_addStock_32 : decode cX3_addStock 32 = .ok (.dup, 1) := by decide +kernel
theorem dX3_addStock_33 : decode cX3_addStock 33 = .ok (.getfield 9, 3) := by decide +kernel
theorem dX3_addStock_36 : decode cX3_addStock 36 = .ok (.iconst 1, 1) := by decide +kernel
theorem dX3_addStock_37 : decode cX3_addStock 37 = .ok (.iadd, 1) := by decide +kernel
theorem dX3_addStock_38 : decode cX3_addStock 38 = .ok (.putfield 9, 3) := by decide +kernel
theorem dX3_addStock_41 : decode cX3_addStock 41 = .ok (.aload_n 0, 1) := by decide +kernel
theorem dX3_addStock_42 : decode cX3_addStock 42 = .ok (.getfield 9, 3) := by decide +kernel
theorem dX3_addStock_45 : decode cX3_addStock 45 = .ok (.iconst 1, 1) := by decide +kernel
theorem dX3_addStock_46 : decode cX3_addStock 46 = .ok (.isub, 1) := by decide +kernel
theorem dX3_addStock_47 : decode cX3_addStock 47 = .ok (.ireturn, 1) := by decide +kernel
theorem dX3_addOrder_0 : decode cX3_addOrder 0 = .ok (.aload_n 0, 1) := by decide +kernel
theorem dX3_addOrder_1 : decode cX3_addOrder 1 = .ok (.getfield 15, 3) := by decide +kernel
theorem dX3_addOrder_4 : decode cX3_addOrder 4 = .ok (.iconst 4, 1) := by decide +kernel
theorem dX3_addOrder_5 : decode cX3_addOrder 5 = .ok (.if_icmp .lt 6, 3) := by decide +kernel
theorem dX3_addOrder_8 : decode cX3_addOrder 8 = .ok (.bipush (-4), 2) := by decide +kernel
theorem dX3_addOrder_10 : decode cX3_addOrder 10 = .ok (.ireturn, 1) := by decide +kernel
theorem dX3_addOrder_11 : decode cX3_addOrder 11 = .ok (.aload_n 0, 1) := by decide +kernel
theorem dX3_addOrder_12 : decode cX3_addOrder 12 = .ok (.getfield 28, 3) := by decide +kernel
theorem dX3_addOrder_15 : decode cX3_addOrder 15 = .ok (.aload_n 0, 1) := by decide +kernel
theorem dX3_addOrder_16 : decode cX3_addOrder 16 = .ok (.getfield 15, 3) := by decide +kernel
theorem dX3_addOrder_19 : decode cX3_addOrder 19 = .ok (.iload_n 1, 1) := by decide +kernel
theorem dX3_addOrder_20 : decode cX3_addOrder 20 = .ok (.iastore, 1) := by decide +kernel
theorem dX3_addOrder_21 : decode cX3_addOrder 21 = .ok (.aload_n 0, 1) := by decide +kernel
theorem dX3_addOrder_22 : decode cX3_addOrder 22 = .ok (.getfield 31, 3) := by decide +kernel
theorem dX3_addOrder_25 : decode cX3_addOrder 25 = .ok (.aload_n 0, 1) := by decide +kernel
theorem dX3_addOrder_26 : decode cX3_addOrder 26 = .ok (.getfield 15, 3) := by decide +kernel
theorem dX3_addOrder_29 : decode cX3_addOrder 29 = .ok (.iload_n 2, 1) := by decide +kernel
theorem dX3_addOrder_30 : decode cX3_addOrder 30 = .ok (.iastore, 1) := by decide +kernel
theorem dX3_addOrder_31 : decode cX3_addOrder 31 = .ok (.aload_n 0, 1) := by decide +kernel
theorem dX3_addOrder_32 : decode cX3_addOrder 32 = .ok (.dup, 1) := by decide +kernel
theorem dX3_addOrder_33 : decode cX3_addOrder 33 = .ok (.getfield 15, 3) := by decide +kernel
theorem dX3_addOrder_36 : decode cX3_addOrder 36 = .ok (.iconst 1, 1) := by decide +kernel
theorem dX3_addOrder_37 : decode cX3_addOrder 37 = .ok (.iadd, 1) := by decide +kernel
theorem dX3_addOrder_38 : decode cX3_addOrder 38 = .ok (.putfield 15, 3) := by decide +kernel
theorem dX3_addOrder_41 : decode cX3_addOrder 41 = .ok (.aload_n 0, 1) := by decide +kernel
theorem dX3_addOrder_42 : decode cX3_addOrder 42 = .ok (.getfield 15, 3) := by decide +kernel
theorem dX3_addOrder_45 : decode cX3_addOrder 45 = .ok (.iconst 1, 1) := by decide +kernel
theorem dX3_addOrder_46 : decode cX3_addOrder 46 = .ok (.isub, 1) := by decide +kernel
theorem dX3_addOrder_47 : decode cX3_addOrder 47 = .ok (.ireturn, 1) := by decide +kernel
theorem dX3_wantedOf_0 : decode cX3_wantedOf 0 = .ok (.iload_n 1, 1) := by decide +kernel
theorem dX3_wantedOf_1 : decode cX3_wantedOf 1 = .ok (.aload_n 0, 1) := by decide +kernel
theorem dX3_wantedOf_2 : decode cX3_wantedOf 2 = .ok (.getfield 15, 3) := by decide +kernel
theorem dX3_wantedOf_5 : decode cX3_wantedOf 5 = .ok (.if_icmp .ge 17, 3) := by decide +kernel
theorem dX3_wantedOf_8 : decode cX3_wantedOf 8 = .ok (.iload_n 1, 1) := by decide +kernel
theorem dX3_wantedOf_9 : decode cX3_wantedOf 9 = .ok (.iconst 4, 1) := by decide +kernel
theorem dX3_wantedOf_10 : decode cX3_wantedOf 10 = .ok (.if_icmp .ge 12, 3) := by decide +kernel
theorem dX3_wantedOf_13 : decode cX3_wantedOf 13 = .ok (.aload_n 0, 1) := by decide +kernel
theorem dX3_wantedOf_14 : decode cX3_wantedOf 14 = .ok (.getfield 31, 3) := by decide +kernel
theorem dX3_wantedOf_17 : decode cX3_wantedOf 17 = .ok (.iload_n 1, 1) := by decide +kernel
theorem dX3_wantedOf_18 : decode cX3_wantedOf 18 = .ok (.iaload, 1) := by decide +kernel
theorem dX3_wantedOf_19 : decode cX3_wantedOf 19 = .ok (.goto 4, 3) := by decide +kernel
theorem dX3_wantedOf_22 : decode cX3_wantedOf 22 = .ok (.iconst 0, 1) := by decide +kernel
theorem dX3_wantedOf_23 : decode cX3_wantedOf 23 = .ok (.ireturn, 1) := by decide +kernel
theorem dX3_stockFor_0 : decode cX3_stockFor 0 = .ok (.iconst (-1), 1) := by decide +kernel
theorem dX3_stockFor_1 : decode cX3_stockFor 1 = .ok (.istore_n 2, 1) := by decide +kernel
theorem dX3_stockFor_2 : decode cX3_stockFor 2 = .ok (.iconst 0, 1) := by decide +kernel
theorem dX3_stockFor_3 : decode cX3_stockFor 3 = .ok (.istore_n 3, 1) := by decide +kernel
theorem dX3_stockFor_4 : decode cX3_stockFor 4 = .ok (.iload_n 3, 1) := by decide +kernel
theorem dX3_stockFor_5 : decode cX3_stockFor 5 = .ok (.aload_n 0, 1) := by decide +kernel
theorem dX3_stockFor_6 : decode cX3_stockFor 6 = .ok (.getfield 9, 3) := by decide +kernel
theorem dX3_stockFor_9 : decode cX3_stockFor 9 = .ok (.if_icmp .ge 46, 3) := by decide +kernel
theorem dX3_stockFor_12 : decode cX3_stockFor 12 = .ok (.iload_n 3, 1) := by decide +kernel
theorem dX3_stockFor_13 : decode cX3_stockFor 13 = .ok (.iconst 3, 1) := by decide +kernel
theorem dX3_stockFor_14 : decode cX3_stockFor 14 = .ok (.if_icmp .ge 41, 3) := by decide +kernel
theorem dX3_stockFor_17 : decode cX3_stockFor 17 = .ok (.aload_n 0, 1) := by decide +kernel
theorem dX3_stockFor_18 : decode cX3_stockFor 18 = .ok (.getfield 21, 3) := by decide +kernel
theorem dX3_stockFor_21 : decode cX3_stockFor 21 = .ok (.iload_n 3, 1) := by decide +kernel
theorem dX3_stockFor_22 : decode cX3_stockFor 22 = .ok (.iaload, 1) := by decide +kernel
theorem dX3_stockFor_23 : decode cX3_stockFor 23 = .ok (.iload_n 1, 1) := by decide +kernel
theorem dX3_stockFor_24 : decode cX3_stockFor 24 = .ok (.if_icmp .lt 25, 3) := by decide +kernel
theorem dX3_stockFor_27 : decode cX3_stockFor 27 = .ok (.iload_n 2, 1) := by decide +kernel
theorem dX3_stockFor_28 : decode cX3_stockFor 28 = .ok (.iconst (-1), 1) := by decide +kernel
theorem dX3_stockFor_29 : decode cX3_stockFor 29 = .ok (.if_icmp .eq 18, 3) := by decide +kernel
theorem dX3_stockFor_32 : decode cX3_stockFor 32 = .ok (.aload_n 0, 1) := by decide +kernel
theorem dX3_stockFor_33 : decode cX3_stockFor 33 = .ok (.getfield 25, 3) := by decide +kernel
theorem dX3_stockFor_36 : decode cX3_stockFor 36 = .ok (.iload_n 3, 1) := by decide +kernel
theorem dX3_stockFor_37 : decode cX3_stockFor 37 = .ok (.iaload, 1) := by decide +kernel
theorem dX3_stockFor_38 : decode cX3_stockFor 38 = .ok (.aload_n 0, 1) := by decide +kernel
theorem dX3_stockFor_39 : decode cX3_stockFor 39 = .ok (.getfield 25, 3) := by decide +kernel
theorem dX3_stockFor_42 : decode cX3_stockFor 42 = .ok (.iload_n 2, 1) := by decide +kernel
theorem dX3_stockFor_43 : decode cX3_stockFor 43 = .ok (.iaload, 1) := by decide +kernel
theorem dX3_stockFor_44 : decode cX3_stockFor 44 = .ok (.if_icmp .ge 5, 3) := by decide +kernel
theorem dX3_stockFor_47 : decode cX3_stockFor 47 = .ok (.iload_n 3, 1) := by decide +kernel
theorem dX3_stockFor_48 : decode cX3_stockFor 48 = .ok (.istore_n 2, 1) := by decide +kernel
theorem dX3_stockFor_49 : decode cX3_stockFor 49 = .ok (.iinc 3 1, 3) := by decide +kernel
theorem dX3_stockFor_52 : decode cX3_stockFor 52 = .ok (.goto (-48), 3) := by decide +kernel
theorem dX3_stockFor_55 : decode cX3_stockFor 55 = .ok (.iload_n 2, 1) := by decide +kernel
theorem dX3_stockFor_56 : decode cX3_stockFor 56 = .ok (.ireturn, 1) := by decide +kernel
theorem dX4_init_0 : decode cX4_init 0 = .ok (.aload_n 0, 1) := by decide +kernel
theorem dX4_init_1 : decode cX4_init 1 = .ok (.invokespecial 3, 3) := by decide +kernel
theorem dX4_init_4 : decode cX4_init 4 = .ok (.aload_n 0, 1) := by decide +kernel
theorem dX4_init_5 : decode cX4_init 5 = .ok (.iconst 1, 1) := by decide +kernel
theorem dX4_init_6 : decode cX4_init 6 = .ok (.putfield 9, 3) := by decide +kernel
theorem dX4_init_9 : decode cX4_init 9 = .ok (.aload_n 0, 1) := by decide +kernel
theorem dX4_init_10 : decode cX4_init 10 = .ok (.iconst 1, 1) := by decide +kernel
theorem dX4_init_11 : decode cX4_init 11 = .ok (.putfield 15, 3) := by decide +kernel
theorem dX4_init_14 : decode cX4_init 14 = .ok (.aload_n 0, 1) := by decide +kernel
theorem dX4_init_15 : decode cX4_init 15 = .ok (.iconst 0, 1) := by decide +kernel
theorem dX4_init_16 : decode cX4_init 16 = .ok (.putfield 18, 3) := by decide +kernel
theorem dX4_init_19 : decode cX4_init 19 = .ok (.aload_n 0, 1) := by decide +kernel
theorem dX4_init_20 : decode cX4_init 20 = .ok (.iconst 1, 1) := by decide +kernel
theorem dX4_init_21 : decode cX4_init 21 = .ok (.putfield 21, 3) := by decide +kernel
theorem dX4_init_24 : decode cX4_init 24 = .ok (.aload_n 0, 1) := by decide +kernel
theorem dX4_init_25 : decode cX4_init 25 = .ok (.iconst 0, 1) := by decide +kernel
theorem dX4_init_26 : decode cX4_init 26 = .ok (.putfield 24, 3) := by decide +kernel
theorem dX4_init_29 : decode cX4_init 29 = .ok (.aload_n 0, 1) := by decide +kernel
theorem dX4_init_30 : decode cX4_init 30 = .ok (.iconst 0, 1) := by decide +kernel
theorem dX4_init_31 : decode cX4_init 31 = .ok (.putfield 27, 3) := by decide +kernel
theorem dX4_init_34 : decode cX4_init 34 = .ok (.aload_n 0, 1) := by decide +kernel
theorem dX4_init_35 : decode cX4_init 35 = .ok (.bipush 24, 2) := by decide +kernel
theorem dX4_init_37 : decode cX4_init 37 = .ok (.newarray .int, 2) := by decide +kernel
theorem dX4_init_39 : decode cX4_init 39 = .ok (.putfield 30, 3) := by decide +kernel
theorem dX4_init_42 : decode cX4_init 42 = .ok (.return_, 1) := by decide +kernel
theorem dX4_become_0 : decode cX4_become 0 = .ok (.aload_n 0, 1) := by decide +kernel
theorem dX4_become_1 : decode cX4_become 1 = .ok (.iload_n 1, 1) := by decide +kernel
theorem dX4_become_2 : decode cX4_become 2 = .ok (.putfield 9, 3) := by decide +kernel
theorem dX4_become_5 : decode cX4_become 5 = .ok (.aload_n 0, 1) := by decide +kernel
theorem dX4_become_6 : decode cX4_become 6 = .ok (.iload_n 2, 1) := by decide +kernel
theorem dX4_become_7 : decode cX4_become 7 = .ok (.putfield 15, 3) := by decide +kernel
theorem dX4_become_10 : decode cX4_become 10 = .ok (.aload_n 0, 1) := by decide +kernel
theorem dX4_become_11 : decode cX4_become 11 = .ok (.iload_n 3, 1) := by decide +kernel
theorem dX4_become_12 : decode cX4_become 12 = .ok (.putfield 18, 3) := by decide +kernel
theorem dX4_become_15 : decode cX4_become 15 = .ok (.aload_n 0, 1) := by decide +kernel
theorem dX4_become_16 : decode cX4_become 16 = .ok (.iload 4, 2) := by decide +kernel
theorem dX4_become_18 : decode cX4_become 18 = .ok (.putfield 21, 3) := by decide +kernel
theorem dX4_become_21 : decode cX4_become 21 = .ok (.aload_n 0, 1) := by decide +kernel
theorem dX4_become_22 : decode cX4_become 22 = .ok (.iload 5, 2) := by decide +kernel
theorem dX4_become_24 : decode cX4_become 24 = .ok (.putfield 24, 3) := by decide +kernel
theorem dX4_become_27 : decode cX4_become 27 = .ok (.aload_n 0, 1) := by decide +kernel
theorem dX4_become_28 : decode cX4_become 28 = .ok (.iconst 0, 1) := by decide +kernel
theorem dX4_become_29 : decode cX4_become 29 = .ok (.putfield 27, 3) := by decide +kernel
theorem dX4_become_32 : decode cX4_become 32 = .ok (.return_, 1) := by decide +kernel
set_option maxRecDepth 100000 in
theorem ggX4_holds_X6_within : GoodIn wsX4_holds wsX6_within := goodIn_r _ [5] rfl (by decide +kernel)
set_option maxRecDepth 100000 in
theorem gX4_holds_X6_within_n34 : GoodIn wsX4_holds (wsX6_within) := ggX4_holds_X6_within
theorem dX4_holds_0 : decode cX4_holds 0 = .ok (.iload_n 1, 1) := by decide +kernel
theorem dX4_holds_1 : decode cX4_holds 1 = .ok (.iconst 0, 1) := by decide +kernel
theorem dX4_holds_2 : decode cX4_holds 2 = .ok (.aload_n 0, 1) := by decide +kernel
theorem dX4_holds_3 : decode cX4_holds 3 = .ok (.getfield 9, 3) := by decide +kernel
theorem dX4_holds_6 : decode cX4_holds 6 = .ok (.iconst 1, 1) := by decide +kernel
theorem dX4_holds_7 : decode cX4_holds 7 = .ok (.isub, 1) := by decide +kernel
theorem dX4_holds_8 : decode cX4_holds 8 = .ok (.invokestatic 34, 3) := by decide +kernel
theorem dX4_holds_11 : decode cX4_holds 11 = .ok (.ifCond .eq 50, 3) := by decide +kernel
theorem dX4_holds_14 : decode cX4_holds 14 = .ok (.iload_n 2, 1) := by decide +kernel
theorem dX4_holds_15 : decode cX4_holds 15 = .ok (.iconst 0, 1) := by decide +kernel
theorem dX4_holds_16 : decode cX4_holds 16 = .ok (.aload_n 0, 1) := by decide +kernel
theorem dX4_holds_17 : decode cX4_holds 17 = .ok (.getfield 15, 3) := by decide +kernel
theorem dX4_holds_20 : decode cX4_holds 20 = .ok (.iconst 1, 1) := by decide +kernel
theorem dX4_holds_21 : decode cX4_holds 21 = .ok (.isub, 1) := by decide +kernel
theorem dX4_holds_22 : decode cX4_holds 22 = .ok (.invokestatic 34, 3) := by decide +kernel
theorem dX4_holds_25 : decode cX4_holds 25 = .ok (.ifCond .eq 36, 3) := by decide +kernel
theorem dX4_holds_28 : decode cX4_holds 28 = .ok (.iload_n 3, 1) := by decide +kernel
theorem dX4_holds_29 : decode cX4_holds 29 = .ok (.iconst 1, 1) := by decide +kernel
theorem dX4_holds_30 : decode cX4_holds 30 = .ok (.aload_n 0, 1) := by decide +kernel
theorem dX4_holds_31 : decode cX4_holds 31 = .ok (.getfield 9, 3) := by decide +kernel
theorem dX4_holds_34 : decode cX4_holds 34 = .ok (.iload_n 1, 1) := by decide +kernel
theorem dX4_holds_35 : decode cX4_holds 35 = .ok (.isub, 1) := by decide +kernel
theorem dX4_holds_36 : decode cX4_holds 36 = .ok (.invokestatic 34, 3) := by decide +kernel
theorem dX4_holds_39 : decode cX4_holds 39 = .ok (.ifCond .eq 22, 3) := by decide +kernel
theorem dX4_holds_42 : decode cX4_holds 42 = .ok (.iload 4, 2) := by decide +kernel
theorem dX4_holds_44 : decode cX4_holds 44 = .ok (.iconst 1, 1) := by decide +kernel
theorem dX4_holds_45 : decode cX4_holds 45 = .ok (.aload_n 0, 1) := by decide +kernel
theorem dX4_holds_46 : decode cX4_holds 46 = .ok (.getfield 15, 3) := by decide +kernel
theorem dX4_holds_49 : decode cX4_holds 49 = .ok (.iload_n 2, 1) := by decide +kernel
theorem dX4_holds_50 : decode cX4_holds 50 = .ok (.isub, 1) := by decide +kernel
theorem dX4_holds_51 : decode cX4_holds 51 = .ok (.invokestatic 34, 3) := by decide +kernel
theorem dX4_holds_54 : decode cX4_holds 54 = .ok (.ifCond .eq 7, 3) := by decide +kernel
theorem dX4_holds_57 : decode cX4_holds 57 = .ok (.iconst 1, 1) := by decide +kernel
theorem dX4_holds_58 : decode cX4_holds 58 = .ok (.goto 4, 3) := by decide +kernel
theorem dX4_holds_61 : decode cX4_holds 61 = .ok (.iconst 0, 1) := by decide +kernel
theorem dX4_holds_62 : decode cX4_holds 62 = .ok (.ireturn, 1) := by decide +kernel
theorem dX4_spoil_0 : decode cX4_spoil 0 = .ok (.aload_n 0, 1) := by decide +kernel
theorem dX4_spoil_1 : decode cX4_spoil 1 = .ok (.getfield 27, 3) := by decide +kernel
theorem dX4_spoil_4 : decode cX4_spoil 4 = .ok (.bipush 6, 2) := by decide +kernel
theorem dX4_spoil_6 : decode cX4_spoil 6 = .ok (.if_icmp .lt 5, 3) := by decide +kernel
theorem dX4_spoil_9 : decode cX4_spoil 9 = .ok (.iconst 0, 1) := by decide +kernel
theorem dX4_spoil_10 : decode cX4_spoil 10 = .ok (.ireturn, 1) := by decide +kernel
theorem dX4_spoil_11 : decode cX4_spoil 11 = .ok (.aload_n 0, 1) := by decide +kernel
theorem dX4_spoil_12 : decode cX4_spoil 12 = .ok (.getfield 27, 3) := by decide +kernel
theorem dX4_spoil_15 : decode cX4_spoil 15 = .ok (.iconst 4, 1) := by decide +kernel
theorem dX4_spoil_16 : decode cX4_spoil 16 = .ok (.imul, 1) := by decide +kernel
theorem dX4_spoil_17 : decode cX4_spoil 17 = .ok (.istore 5, 2) := by decide +kernel
theorem dX4_spoil_19 : decode cX4_spoil 19 = .ok (.aload_n 0, 1) := by decide +kernel
theorem dX4_spoil_20 : decode cX4_spoil 20 = .ok (.getfield 30, 3) := by decide +kernel
theorem dX4_spoil_23 : decode cX4_spoil 23 = .ok (.iload 5, 2) := by decide +kernel
theorem dX4_spoil_25 : decode cX4_spoil 25 = .ok (.iload_n 1, 1) := by decide +kernel
theorem dX4_spoil_26 : decode cX4_spoil 26 = .ok (.iastore, 1) := by decide +kernel
theorem dX4_spoil_27 : decode cX4_spoil 27 = .ok (.aload_n 0, 1) := by decide +kernel
theorem dX4_spoil_28 : decode cX4_spoil 28 = .ok (.getfield 30, 3) := by decide +kernel
theorem dX4_spoil_31 : decode cX4_spoil 31 = .ok (.iload 5, 2) := by decide +kernel
theorem dX4_spoil_33 : decode cX4_spoil 33 = .ok (.iconst 1, 1) := by decide +kernel
theorem dX4_spoil_34 : decode cX4_spoil 34 = .ok (.iadd, 1) := by decide +kernel
theorem dX4_spoil_35 : decode cX4_spoil 35 = .ok (.iload_n 2, 1) := by decide +kernel
theorem dX4_spoil_36 : decode cX4_spoil 36 = .ok (.iastore, 1) := by decide +kernel
theorem dX4_spoil_37 : decode cX4_spoil 37 = .ok (.aload_n 0, 1) := by decide +kernel
theorem dX4_spoil_38 : decode cX4_spoil 38 = .ok (.getfield 30, 3) := by decide +kernel
theorem dX4_spoil_41 : decode cX4_spoil 41 = .ok (.iload 5, 2) := by decide +kernel
theorem dX4_spoil_43 : decode cX4_spoil 43 = .ok (.iconst 2, 1) := by decide +kernel
theorem dX4_spoil_44 : decode cX4_spoil 44 = .ok (.iadd, 1) := by decide +kernel
theorem dX4_spoil_45 : decode cX4_spoil 45 = .ok (.iload_n 1, 1) := by decide +kernel
theorem dX4_spoil_46 : decode cX4_spoil 46 = .ok (.iload_n 3, 1) := by decide +kernel
theorem dX4_spoil_47 : decode cX4_spoil 47 = .ok (.iadd, 1) := by decide +kernel
theorem dX4_spoil_48 : decode cX4_spoil 48 = .ok (.iastore, 1) := by decide +kernel
theorem dX4_spoil_49 : decode cX4_spoil 49 = .ok (.aload_n 0, 1) := by decide +kernel
theorem dX4_spoil_50 : decode cX4_spoil 50 = .ok (.getfield 30, 3) := by decide +kernel
theorem dX4_spoil_53 : decode cX4_spoil 53 = .ok (.iload 5, 2) := by decide +kernel
theorem dX4_spoil_55 : decode cX4_spoil 55 = .ok (.iconst 3, 1) := by decide +kernel
theorem dX4_spoil_56 : decode cX4_spoil 56 = .ok (.iadd, 1) := by decide +kernel
theorem dX4_spoil_57 : decode cX4_spoil 57 = .ok (.iload_n 2, 1) := by decide +kernel
theorem dX4_spoil_58 : decode cX4_spoil 58 = .ok (.iload 4, 2) := by decide +kernel
theorem dX4_spoil_60 : decode cX4_spoil 60 = .ok (.iadd, 1) := by decide +kernel
theorem dX4_spoil_61 : decode cX4_spoil 61 = .ok (.iastore, 1) := by decide +kernel
theorem dX4_spoil_62 : decode cX4_spoil 62 = .ok (.aload_n 0, 1) := by decide +kernel
theorem dX4_spoil_63 : decode cX4_spoil 63 = .ok (.dup, 1) := by decide +kernel
theorem dX4_spoil_64 : decode cX4_spoil 64 = .ok (.getfield 27, 3) := by decide +kernel
theorem dX4_spoil_67 : decode cX4_spoil 67 = .ok (.iconst 1, 1) := by decide +kernel
theorem dX4_spoil_68 : decode cX4_spoil 68 = .ok (.iadd, 1) := by decide +kernel
theorem dX4_spoil_69 : decode cX4_spoil 69 = .ok (.putfield 27, 3) := by decide +kernel
theorem dX4_spoil_72 : decode cX4_spoil 72 = .ok (.iconst 1, 1) := by decide +kernel
theorem dX4_spoil_73 : decode cX4_spoil 73 = .ok (.ireturn, 1) := by decide +kernel
theorem dX4_isClean_0 : decode cX4_isClean 0 = .ok (.iconst 0, 1) := by decide +kernel
theorem dX4_isClean_1 : decode cX4_isClean 1 = .ok (.istore 5, 2) := by decide +kernel
theorem dX4_isClean_3 : decode cX4_isClean 3 = .ok (.iload 5, 2) := by decide +kernel
theorem dX4_isClean_5 : decode cX4_isClean 5 = .ok (.aload_n 0, 1) := by decide +kernel
theorem dX4_isClean_6 : decode cX4_isClean 6 = .ok (.getfield 27, 3) := by decide +kernel
theorem dX4_isClean_9 : decode cX4_isClean 9 = .ok (.if_icmp .ge 79, 3) := by decide +kernel
theorem dX4_isClean_12 : decode cX4_isClean 12 = .ok (.iload 5, 2) := by decide +kernel
theorem dX4_isClean_14 : decode cX4_isClean 14 = .ok (.bipush 6, 2) := by decide +kernel
theorem dX4_isClean_16 : decode cX4_isClean 16 = .ok (.if_icmp .ge 72, 3) := by decide +kernel
theorem dX4_isClean_19 : decode cX4_isClean 19 = .ok (.iload 5, 2) := by decide +kernel
theorem dX4_isClean_21 : decode cX4_isClean 21 = .ok (.iconst 4, 1) := by decide +kernel
theorem dX4_isClean_22 : decode cX4_isClean 22 = .ok (.imul, 1) := by decide +kernel
theorem dX4_isClean_23 : decode cX4_isClean 23 = .ok (.istore 6, 2) := by decide +kernel
theorem dX4_isClean_25 : decode cX4_isClean 25 = .ok (.iload_n 1, 1) := by decide +kernel
theorem dX4_isClean_26 : decode cX4_isClean 26 = .ok (.aload_n 0, 1) := by decide +kernel
theorem dX4_isClean_27 : decode cX4_isClean 27 = .ok (.getfield 30, 3) := by decide +kernel
theorem dX4_isClean_30 : decode cX4_isClean 30 = .ok (.iload 6, 2) := by decide +kernel
theorem dX4_isClean_32 : decode cX4_isClean 32 = .ok (.iconst 2, 1) := by decide +kernel
theorem dX4_isClean_33 : decode cX4_isClean 33 = .ok (.iadd, 1) := by decide +kernel
theorem dX4_isClean_34 : decode cX4_isClean 34 = .ok (.iaload, 1) := by decide +kernel
theorem dX4_isClean_35 : decode cX4_isClean 35 = .ok (.if_icmp .ge 47, 3) := by decide +kernel
theorem dX4_isClean_38 : decode cX4_isClean 38 = .ok (.aload_n 0, 1) := by decide +kernel
theorem dX4_isClean_39 : decode cX4_isClean 39 = .ok (.getfield 30, 3) := by decide +kernel
theorem dX4_isClean_42 : decode cX4_isClean 42 = .ok (.iload 6, 2) := by decide +kernel
theorem dX4_isClean_44 : decode cX4_isClean 44 = .ok (.iaload, 1) := by decide +kernel
theorem dX4_isClean_45 : decode cX4_isClean 45 = .ok (.iload_n 1, 1) := by decide +kernel
theorem dX4_isClean_46 : decode cX4_isClean 46 = .ok (.iload_n 3, 1) := by decide +kernel
theorem dX4_isClean_47 : decode cX4_isClean 47 = .ok (.iadd, 1) := by decide +kernel
theorem dX4_isClean_48 : decode cX4_isClean 48 = .ok (.if_icmp .ge 34, 3) := by decide +kernel
theorem dX4_isClean_51 : decode cX4_isClean 51 = .ok (.iload_n 2, 1) := by decide +kernel
theorem dX4_isClean_52 : decode cX4_isClean 52 = .ok (.aload_n 0, 1) := by decide +kernel
theorem dX4_isClean_53 : decode cX4_isClean 53 = .ok (.getfield 30, 3) := by decide +kernel
theorem dX4_isClean_56 : decode cX4_isClean 56 = .ok (.iload 6, 2) := by decide +kernel
theorem dX4_isClean_58 : decode cX4_isClean 58 = .ok (.iconst 3, 1) := by decide +kernel
theorem dX4_isClean_59 : decode cX4_isClean 59 = .ok (.iadd, 1) := by decide +kernel
theorem dX4_isClean_60 : decode cX4_isClean 60 = .ok (.iaload, 1) := by decide +kernel
theorem dX4_isClean_61 : decode cX4_isClean 61 = .ok (.if_icmp .ge 21, 3) := by decide +kernel
theorem dX4_isClean_64 : decode cX4_isClean 64 = .ok (.aload_n 0, 1) := by decide +kernel
theorem dX4_isClean_65 : decode cX4_isClean 65 = .ok (.getfield 30, 3) := by decide +kernel
theorem dX4_isClean_68 : decode cX4_isClean 68 = .ok (.iload 6, 2) := by decide +kernel
theorem dX4_isClean_70 : decode cX4_isClean 70 = .ok (.iconst 1, 1) := by decide +kernel
theorem dX4_isClean_71 : decode cX4_isClean 71 = .ok (.iadd, 1) := by decide +kernel
theorem dX4_isClean_72 : decode cX4_isClean 72 = .ok (.iaload, 1) := by decide +kernel
theorem dX4_isClean_73 : decode cX4_isClean 73 = .ok (.iload_n 2, 1) := by decide +kernel
theorem dX4_isClean_74 : decode cX4_isClean 74 = .ok (.iload 4, 2) := by decide +kernel
theorem dX4_isClean_76 : decode cX4_isClean 76 = .ok (.iadd, 1) := by decide +kernel
theorem dX4_isClean_77 : decode cX4_isClean 77 = .ok (.if_icmp .ge 5, 3) := by decide +kernel
theorem dX4_isClean_80 : decode cX4_isClean 80 = .ok (.iconst 0, 1) := by decide +kernel
theorem dX4_isClean_81 : decode cX4_isClean 81 = .ok (.ireturn, 1) := by decide +kernel
theorem dX4_isClean_82 : decode cX4_isClean 82 = .ok (.iinc 5 1, 3) := by decide +kernel
theorem dX4_isClean_85 : decode cX4_isClean 85 = .ok (.goto (-82), 3) := by decide +kernel
theorem dX4_isClean_88 : decode cX4_isClean 88 = .ok (.iconst 1, 1) := by decide +kernel
theorem dX4_isClean_89 : decode cX4_isClean 89 = .ok (.ireturn, 1) := by decide +kernel
theorem dX4_partsWidth_0 : decode cX4_partsWidth 0 = .ok (.aload_n 0, 1) := by decide +kernel
theorem dX4_partsWidth_1 : decode cX4_partsWidth 1 = .ok (.getfield 24, 3) := by decide +kernel
theorem dX4_partsWidth_4 : decode cX4_partsWidth 4 = .ok (.iload_n 1, 1) := by decide +kernel
theorem dX4_partsWidth_5 : decode cX4_partsWidth 5 = .ok (.iadd, 1) := by decide +kernel
theorem dX4_partsWidth_6 : decode cX4_partsWidth 6 = .ok (.iconst 1, 1) := by decide +kernel
theorem dX4_partsWidth_7 : decode cX4_partsWidth 7 = .ok (.isub, 1) := by decide +kernel
theorem dX4_partsWidth_8 : decode cX4_partsWidth 8 = .ok (.iconst 1, 1) := by decide +kernel
theorem dX4_partsWidth_9 : decode cX4_partsWidth 9 = .ok (.iand, 1) := by decide +kernel
theorem dX4_partsWidth_10 : decode cX4_partsWidth 10 = .ok (.ifCond .ne 7, 3) := by decide +kernel
theorem dX4_partsWidth_13 : decode cX4_partsWidth 13 = .ok (.iconst 1, 1) := by decide +kernel
theorem dX4_partsWidth_14 : decode cX4_partsWidth 14 = .ok (.goto 4, 3) := by decide +kernel
theorem dX4_partsWidth_17 : decode cX4_partsWidth 17 = .ok (.iconst 0, 1) := by decide +kernel
theorem dX4_partsWidth_18 : decode cX4_partsWidth 18 = .ok (.ireturn, 1) := by decide +kernel
set_option maxRecDepth 100000 in
theorem ggX4_lastCut_X4_partsWidth : GoodIn wsX4_lastCut wsX4_partsWidth := goodIn_r _ [6, 7, 8, 9, 10, 11, 12, 13, 14] rfl (by decide +kernel)
set_option maxRecDepth 100000 in
theorem gX4_lastCut_X4_partsWidth : GoodIn wsX4_lastCut (wsV RX4 38 RX4 yX4_partsWidth wsX4_partsWidth) := goodIn_app (goodIn_of _ (by decide +kernel)) ggX4_lastCut_X4_partsWidth
theorem dX4_lastCut_0 : decode cX4_lastCut 0 = .ok (.aload_n 0, 1) := by decide +kernel
theorem dX4_lastCut_1 : decode cX4_lastCut 1 = .ok (.iload_n 3, 1) := by decide +kernel
theorem dX4_lastCut_2 : decode cX4_lastCut 2 = .ok (.invokevirtual 38, 3) := by decide +kernel
theorem dX4_lastCut_5 : decode cX4_lastCut 5 = .ok (.ifCond .eq 7, 3) := by decide +kernel
theorem dX4_lastCut_8 : decode cX4_lastCut 8 = .ok (.iload_n 1, 1) := by decide +kernel
theorem dX4_lastCut_9 : decode cX4_lastCut 9 = .ok (.goto 4, 3) := by decide +kernel
theorem dX4_lastCut_12 : decode cX4_lastCut 12 = .ok (.iload_n 2, 1) := by decide +kernel
theorem dX4_lastCut_13 : decode cX4_lastCut 13 = .ok (.aload_n 0, 1) := by decide +kernel
theorem dX4_lastCut_14 : decode cX4_lastCut 14 = .ok (.getfield 18, 3) := by decide +kernel
theorem dX4_lastCut_17 : decode cX4_lastCut 17 = .ok (.isub, 1) := by decide +kernel
theorem dX4_lastCut_18 : decode cX4_lastCut 18 = .ok (.iconst 1, 1) := by decide +kernel
theorem dX4_lastCut_19 : decode cX4_lastCut 19 = .ok (.isub, 1) := by decide +kernel
theorem dX4_lastCut_20 : decode cX4_lastCut 20 = .ok (.ireturn, 1) := by decide +kernel
theorem dX5_init_0 : decode cX5_init 0 = .ok (.aload_n 0, 1) := by decide +kernel
theorem dX5_init_1 : decode cX5_init 1 = .ok (.invokespecial 3, 3) := by decide +kernel
theorem dX5_init_4 : decode cX5_init 4 = .ok (.aload_n 0, 1) := by decide +kernel
theorem dX5_init_5 : decode cX5_init 5 = .ok (.sipush 1024, 3) := by decide +kernel
theorem dX5_init_8 : decode cX5_init 8 = .ok (.newarray .int, 2) := by decide +kernel
theorem dX5_init_10 : decode cX5_init 10 = .ok (.putfield 9, 3) := by decide +kernel
theorem dX5_init_13 : decode cX5_init 13 = .ok (.aload_n 0, 1) := by decide +kernel
theorem dX5_init_14 : decode cX5_init 14 = .ok (.ldc 15, 2) := by decide +kernel
theorem dX5_init_16 : decode cX5_init 16 = .ok (.newarray .int, 2) := by decide +kernel
theorem dX5_init_18 : decode cX5_init 18 = .ok (.putfield 16, 3) := by decide +kernel
theorem dX5_init_21 : decode cX5_init 21 = .ok (.aload_n 0, 1) := by decide +kernel
theorem dX5_init_22 : decode cX5_init 22 = .ok (.iconst 1, 1) := by decide +kernel
theorem dX5_init_23 : decode cX5_init 23 = .ok (.putfield 19, 3) := by decide +kernel
theorem dX5_init_26 : decode cX5_init 26 = .ok (.aload_n 0, 1) := by decide +kernel
theorem dX5_init_27 : decode cX5_init 27 = .ok (.aload_n 1, 1) := by decide +kernel
theorem dX5_init_28 : decode cX5_init 28 = .ok (.putfield 23, 3) := by decide +kernel
theorem dX5_init_31 : decode cX5_init 31 = .ok (.aload_n 0, 1) := by decide +kernel
theorem dX5_init_32 : decode cX5_init 32 = .ok (.aload_n 2, 1) := by decide +kernel
theorem dX5_init_33 : decode cX5_init 33 = .ok (.putfield 27, 3) := by decide +kernel
theorem dX5_init_36 : decode cX5_init 36 = .ok (.return_, 1) := by decide +kernel
theorem dX5_forget_0 : decode cX5_forget 0 = .ok (.aload_n 0, 1) := by decide +kernel
theorem dX5_forget_1 : decode cX5_forget 1 = .ok (.iconst 1, 1) := by decide +kernel
theorem dX5_forget_2 : decode cX5_forget 2 = .ok (.putfield 19, 3) := by decide +kernel
theorem dX5_forget_5 : decode cX5_forget 5 = .ok (.return_, 1) := by decide +kernel
set_option maxRecDepth 100000 in
theorem ggX5_makeReady_X5_fillSizes : GoodIn wsX5_makeReady wsX5_fillSizes := goodIn_r _ [8, 2, 9, 10, 11, 12, 13, 14, 7, 15, 16, 17, 18, 19, 20, 21, 22, 23, 24, 25, 26, 27, 28, 29, 30, 31, 32, 33, 34, 35, 36, 37, 38, 39, 40, 41, 42, 43, 44, 45, 46, 47, 48, 49, 50, 51, 52, 53, 54, 55, 56, 57, 58, 59, 60, 61, 62, 63, 89, 90, 91, 92, 93, 94, 95, 96, 97, 98, 99, 100, 101, 102, 103, 104, 105] rfl (by decide +kernel)
set_option maxRecDepth 100000 in
theorem gX5_makeReady_X5_fillSizes : GoodIn wsX5_makeReady (wsV RX5 31 RX5 yX5_fillSizes wsX5_fillSizes) := goodIn_app (goodIn_of _ (by decide +kernel)) ggX5_makeReady_X5_fillSizes
set_option maxRecDepth 100000 in
theorem ggX5_makeReady_X5_fillParts : GoodIn wsX5_makeReady wsX5_fillParts := goodIn_r _ [67, 2, 10, 11, 68, 69, 70, 7, 71, 9, 24, 25, 26, 27, 72, 73, 74, 75, 55, 76, 77, 78, 79, 80, 81, 48, 49, 50, 51, 12, 13, 14, 15, 16, 17, 18, 63, 59, 60, 61, 62, 82, 83, 84, 85, 86, 87, 88, 28, 89, 90, 91, 92, 93, 94, 95, 96, 97, 98, 99, 100] rfl (by decide +kernel)
set_option maxRecDepth 100000 in
theorem gX5_makeReady_X5_fillParts : GoodIn wsX5_makeReady (wsV RX5 40 RX5 yX5_fillParts wsX5_fillParts) := goodIn_app (goodIn_of _ (by decide +kernel)) ggX5_makeReady_X5_fillParts
theorem dX5_makeReady_0 : decode cX5_makeReady 0 = .ok (.aload_n 0, 1) := by decide +kernel
theorem dX5_makeReady_1 : decode cX5_makeReady 1 = .ok (.getfield 19, 3) := by decide +kernel
theorem dX5_makeReady_4 : decode cX5_makeReady 4 = .ok (.ifCond .ne 4, 3) := by decide +kernel
theorem dX5_makeReady_7 : decode cX5_makeReady 7 = .ok (.return_, 1) := by decide +kernel
theorem dX5_makeReady_8 : decode cX5_makeReady 8 = .ok (.aload_n 0, 1) := by decide +kernel
theorem dX5_makeReady_9 : decode cX5_makeReady 9 = .ok (.invokevirtual 31, 3) := by decide +kernel
theorem dX5_makeReady_12 : decode cX5_makeReady 12 = .ok (.aload_n 0, 1) := by decide +kernel
theorem dX5_makeReady_13 : decode cX5_makeReady 13 = .ok (.getfield 23, 3) := by decide +kernel
theorem dX5_makeReady_16 : decode cX5_makeReady 16 = .ok (.getfield 34, 3) := by decide +kernel
theorem dX5_makeReady_19 : decode cX5_makeReady 19 = .ok (.ifCond .le 7, 3) := by decide +kernel
theorem dX5_makeReady_22 : decode cX5_makeReady 22 = .ok (.aload_n 0, 1) := by decide +kernel
theorem dX5_makeReady_23 : decode cX5_makeReady 23 = .ok (.invokevirtual 40, 3) := by decide +kernel
theorem dX5_makeReady_26 : decode cX5_makeReady 26 = .ok (.aload_n 0, 1) := by decide +kernel
theorem dX5_makeReady_27 : decode cX5_makeReady 27 = .ok (.iconst 0, 1) := by decide +kernel
theorem dX5_makeReady_28 : decode cX5_makeReady 28 = .ok (.putfield 19, 3) := by decide +kernel
theorem dX5_makeReady_31 : decode cX5_makeReady 31 = .ok (.return_, 1) := by decide +kernel
set_option maxRecDepth 100000 in
theorem ggX5_of_X5_ofSize : GoodIn wsX5_of wsX5_ofSize := goodIn_r _ [8, 1, 9, 10, 11, 12, 7, 13, 14, 15, 16, 23, 24, 25, 26, 27, 28, 29, 30, 31, 32, 33, 34] rfl (by decide +kernel)
set_option maxRecDepth 100000 in
theorem gX5_of_X5_ofSize : GoodIn wsX5_of (wsV RX5 43 RX5 yX5_ofSize wsX5_ofSize) := goodIn_app (goodIn_of _ (by decide +kernel)) ggX5_of_X5_ofSize
set_option maxRecDepth 100000 in
theorem ggX5_of_X5_span : GoodIn wsX5_of wsX5_span := goodIn_r _ [19] rfl (by decide +kernel)
set_option maxRecDepth 100000 in
theorem gX5_of_X5_span : GoodIn wsX5_of (va_wsS RX5 47 yX5_span wsX5_span) := goodIn_app (goodIn_of _ (by decide +kernel)) ggX5_of_X5_span
set_option maxRecDepth 100000 in
theorem ggX5_of_X5_partSlot : GoodIn wsX5_of wsX5_partSlot := goodIn_r _ [22] rfl (by decide +kernel)
set_option maxRecDepth 100000 in
theorem gX5_of_X5_partSlot : GoodIn wsX5_of (va_wsS RX5 51 yX5_partSlot wsX5_partSlot) := goodIn_app (goodIn_of _ (by decide +kernel)) ggX5_of_X5_partSlot
set_option maxRecDepth 100000 in
theorem ggX5_of_X6_within : GoodIn wsX5_of wsX6_within := goodIn_r _ [16] rfl (by decide +kernel)
set_option maxRecDepth 100000 in
theorem gX5_of_X6_within_n54 : GoodIn wsX5_of (wsX6_within) := ggX5_of_X6_within
theorem dX5_of_0 : decode cX5_of 0 = .ok (.aload_n 0, 1) := by decide +kernel
theorem dX5_of_1 : decode cX5_of 1 = .ok (.getfield 23, 3) := by decide +kernel
theorem dX5_of_4 : decode cX5_of 4 = .ok (.getfield 34, 3) := by decide +kernel
theorem dX5_of_7 : decode cX5_of 7 = .ok (.ifCond .ne 13, 3) := by decide +kernel
theorem dX5_of_10 : decode cX5_of 10 = .ok (.aload_n 0, 1) := by decide +kernel
theorem dX5_of_11 : decode cX5_of 11 = .ok (.iload_n 3, 1) := by decide +kernel
theorem dX5_of_12 : decode cX5_of 12 = .ok (.iload 4, 2) := by decide +kernel
theorem dX5_of_14 : decode cX5_of 14 = .ok (.iload 5, 2) := by decide +kernel
theorem dX5_of_16 : decode cX5_of 16 = .ok (.invokevirtual 43, 3) := by decide +kernel
theorem dX5_of_19 : decode cX5_of 19 = .ok (.ireturn, 1) := by decide +kernel
theorem dX5_of_20 : decode cX5_of 20 = .ok (.iload 5, 2) := by decide +kernel
theorem dX5_of_22 : decode cX5_of 22 = .ok (.iload_n 1, 1) := by decide +kernel
theorem dX5_of_23 : decode cX5_of 23 = .ok (.iload_n 1, 1) := by decide +kernel
theorem dX5_of_24 : decode cX5_of 24 = .ok (.iload_n 3, 1) := by decide +kernel
theorem dX5_of_25 : decode cX5_of 25 = .ok (.iadd, 1) := by decide +kernel
theorem dX5_of_26 : decode cX5_of 26 = .ok (.invokestatic 47, 3) := by decide +kernel
theorem dX5_of_29 : decode cX5_of 29 = .ok (.iload_n 2, 1) := by decide +kernel
theorem dX5_of_30 : decode cX5_of 30 = .ok (.iload_n 2, 1) := by decide +kernel
theorem dX5_of_31 : decode cX5_of 31 = .ok (.iload 4, 2) := by decide +kernel
theorem dX5_of_33 : decode cX5_of 33 = .ok (.iadd, 1) := by decide +kernel
theorem dX5_of_34 : decode cX5_of 34 = .ok (.invokestatic 47, 3) := by decide +kernel
theorem dX5_of_37 : decode cX5_of 37 = .ok (.invokestatic 51, 3) := by decide +kernel
theorem dX5_of_40 : decode cX5_of 40 = .ok (.istore 6, 2) := by decide +kernel
theorem dX5_of_42 : decode cX5_of 42 = .ok (.iload 6, 2) := by decide +kernel
theorem dX5_of_44 : decode cX5_of 44 = .ok (.iconst 0, 1) := by decide +kernel
theorem dX5_of_45 : decode cX5_of 45 = .ok (.aload_n 0, 1) := by decide +kernel
theorem dX5_of_46 : decode cX5_of 46 = .ok (.getfield 16, 3) := by decide +kernel
theorem dX5_of_49 : decode cX5_of 49 = .ok (.arraylength, 1) := by decide +kernel
theorem dX5_of_50 : decode cX5_of 50 = .ok (.iconst 1, 1) := by decide +kernel
theorem dX5_of_51 : decode cX5_of 51 = .ok (.isub, 1) := by decide +kernel
theorem dX5_of_52 : decode cX5_of 52 = .ok (.invokestatic 54, 3) := by decide +kernel
theorem dX5_of_55 : decode cX5_of 55 = .ok (.ifCond .eq 13, 3) := by decide +kernel
theorem dX5_of_58 : decode cX5_of 58 = .ok (.aload_n 0, 1) := by decide +kernel
theorem dX5_of_59 : decode cX5_of 59 = .ok (.getfield 16, 3) := by decide +kernel
theorem dX5_of_62 : decode cX5_of 62 = .ok (.iload 6, 2) := by decide +kernel
theorem dX5_of_64 : decode cX5_of 64 = .ok (.iaload, 1) := by decide +kernel
theorem dX5_of_65 : decode cX5_of 65 = .ok (.goto 4, 3) := by decide +kernel
theorem dX5_of_68 : decode cX5_of 68 = .ok (.iconst 0, 1) := by decide +kernel
theorem dX5_of_69 : decode cX5_of 69 = .ok (.ireturn, 1) := by decide +kernel
set_option maxRecDepth 100000 in
theorem ggX5_fillSizes_X5_sizeSlot : GoodIn wsX5_fillSizes wsX5_sizeSlot := goodIn_r _ [9] rfl (by decide +kernel)
set_option maxRecDepth 100000 in
theorem gX5_fillSizes_X5_sizeSlot : GoodIn wsX5_fillSizes (va_wsS RX5 67 yX5_sizeSlot wsX5_sizeSlot) := goodIn_app (goodIn_of _ (by decide +kernel)) ggX5_fillSizes_X5_sizeSlot
set_option maxRecDepth 100000 in
theorem ggX5_fillSizes_X6_within : GoodIn wsX5_fillSizes wsX6_within := goodIn_r _ [12] rfl (by decide +kernel)
set_option maxRecDepth 100000 in
theorem gX5_fillSizes_X6_within_n54 : GoodIn wsX5_fillSizes (wsX6_within) := ggX5_fillSizes_X6_within
set_option maxRecDepth 100000 in
theorem ggX5_fillSizes_X5_mostOfSize : GoodIn wsX5_fillSizes wsX5_mostOfSize := goodIn_r _ [16, 17, 18, 19, 20, 21, 1, 22, 23, 24, 25, 26, 27, 28, 29, 30, 31, 32, 33, 34, 35, 36, 37, 38, 39, 40, 41, 42, 43, 44, 8, 45, 2, 5, 6, 7, 9, 10, 11, 12, 46, 47, 48, 49, 50, 51, 52, 53, 54, 55, 56, 57, 58, 59, 60, 61, 62, 63, 64, 65, 66, 67, 68, 69, 70, 71, 72, 73, 74] rfl (by decide +kernel)
set_option maxRecDepth 100000 in
theorem gX5_fillSizes_X5_mostOfSize : GoodIn wsX5_fillSizes (wsV RX5 70 RX5 yX5_mostOfSize wsX5_mostOfSize) := goodIn_app (goodIn_of _ (by decide +kernel)) ggX5_fillSizes_X5_mostOfSize
theorem dX5_fillSizes_0 : decode cX5_fillSizes 0 = .ok (.aload_n 0, 1) := by decide +kernel
theorem dX5_fillSizes_1 : decode cX5_fillSizes 1 = .ok (.getfield 23, 3) := by decide +kernel
theorem dX5_fillSizes_4 : decode cX5_fillSizes 4 = .ok (.getfield 58, 3) := by decide +kernel
theorem dX5_fillSizes_7 : decode cX5_fillSizes 7 = .ok (.istore_n 1, 1) := by decide +kernel
theorem dX5_fillSizes_8 : decode cX5_fillSizes 8 = .ok (.iload_n 1, 1) := by decide +kernel
theorem dX5_fillSizes_9 : decode cX5_fillSizes 9 = .ok (.iconst 1, 1) := by decide +kernel
theorem dX5_fillSizes_10 : decode cX5_fillSizes 10 = .ok (.if_icmp .lt 85, 3) := by decide +kernel
theorem dX5_fillSizes_13 : decode cX5_fillSizes 13 = .ok (.iconst 1, 1) := by decide +kernel
theorem dX5_fillSizes_14 : decode cX5_fillSizes 14 = .ok (.istore_n 2, 1) := by decide +kernel
theorem dX5_fillSizes_15 : decode cX5_fillSizes 15 = .ok (.iload_n 2, 1) := by decide +kernel
theorem dX5_fillSizes_16 : decode cX5_fillSizes 16 = .ok (.aload_n 0, 1) := by decide +kernel
theorem dX5_fillSizes_17 : decode cX5_fillSizes 17 = .ok (.getfield 23, 3) := by decide +kernel
theorem dX5_fillSizes_20 : decode cX5_fillSizes 20 = .ok (.getfield 61, 3) := by decide +kernel
theorem dX5_fillSizes_23 : decode cX5_fillSizes 23 = .ok (.if_icmp .gt 66, 3) := by decide +kernel
theorem dX5_fillSizes_26 : decode cX5_fillSizes 26 = .ok (.iconst 1, 1) := by decide +kernel
theorem dX5_fillSizes_27 : decode cX5_fillSizes 27 = .ok (.istore_n 3, 1) := by decide +kernel
theorem dX5_fillSizes_28 : decode cX5_fillSizes 28 = .ok (.iload_n 3, 1) := by decide +kernel
theorem dX5_fillSizes_29 : decode cX5_fillSizes 29 = .ok (.aload_n 0, 1) := by decide +kernel
theorem dX5_fillSizes_30 : decode cX5_fillSizes 30 = .ok (.getfield 23, 3) := by decide +kernel
theorem dX5_fillSizes_33 : decode cX5_fillSizes 33 = .ok (.getfield 64, 3) := by decide +kernel
theorem dX5_fillSizes_36 : decode cX5_fillSizes 36 = .ok (.if_icmp .gt 47, 3) := by decide +kernel
theorem dX5_fillSizes_39 : decode cX5_fillSizes 39 = .ok (.iload_n 2, 1) := by decide +kernel
theorem dX5_fillSizes_40 : decode cX5_fillSizes 40 = .ok (.iload_n 3, 1) := by decide +kernel
theorem dX5_fillSizes_41 : decode cX5_fillSizes 41 = .ok (.iload_n 1, 1) := by decide +kernel
theorem dX5_fillSizes_42 : decode cX5_fillSizes 42 = .ok (.invokestatic 67, 3) := by decide +kernel
theorem dX5_fillSizes_45 : decode cX5_fillSizes 45 = .ok (.istore 4, 2) := by decide +kernel
theorem dX5_fillSizes_47 : decode cX5_fillSizes 47 = .ok (.iload 4, 2) := by decide +kernel
theorem dX5_fillSizes_49 : decode cX5_fillSizes 49 = .ok (.iconst 0, 1) := by decide +kernel
theorem dX5_fillSizes_50 : decode cX5_fillSizes 50 = .ok (.aload_n 0, 1) := by decide +kernel
theorem dX5_fillSizes_51 : decode cX5_fillSizes 51 = .ok (.getfield 9, 3) := by decide +kernel
theorem dX5_fillSizes_54 : decode cX5_fillSizes 54 = .ok (.arraylength, 1) := by decide +kernel
theorem dX5_fillSizes_55 : decode cX5_fillSizes 55 = .ok (.iconst 1, 1) := by decide +kernel
theorem dX5_fillSizes_56 : decode cX5_fillSizes 56 = .ok (.isub, 1) := by decide +kernel
theorem dX5_fillSizes_57 : decode cX5_fillSizes 57 = .ok (.invokestatic 54, 3) := by decide +kernel
theorem dX5_fillSizes_60 : decode cX5_fillSizes 60 = .ok (.ifCond .eq 17, 3) := by decide +kernel
theorem dX5_fillSizes_63 : decode cX5_fillSizes 63 = .ok (.aload_n 0, 1) := by decide +kernel
theorem dX5_fillSizes_64 : decode cX5_fillSizes 64 = .ok (.getfield 9, 3) := by decide +kernel
theorem dX5_fillSizes_67 : decode cX5_fillSizes 67 = .ok (.iload 4, 2) := by decide +kernel
theorem dX5_fillSizes_69 : decode cX5_fillSizes 69 = .ok (.aload_n 0, 1) := by decide +kernel
theorem dX5_fillSizes_70 : decode cX5_fillSizes 70 = .ok (.iload_n 2, 1) := by decide +kernel
theorem dX5_fillSizes_71 : decode cX5_fillSizes 71 = .ok (.iload_n 3, 1) := by decide +kernel
theorem dX5_fillSizes_72 : decode cX5_fillSizes 72 = .ok (.iload_n 1, 1) := by decide +kernel
theorem dX5_fillSizes_73 : decode cX5_fillSizes 73 = .ok (.invokevirtual 70, 3) := by decide +kernel
theorem dX5_fillSizes_76 : decode cX5_fillSizes 76 = .ok (.iastore, 1) := by decide +kernel
theorem dX5_fillSizes_77 : decode cX5_fillSizes 77 = .ok (.iinc 3 1, 3) := by decide +kernel
theorem dX5_fillSizes_80 : decode cX5_fillSizes 80 = .ok (.goto (-52), 3) := by decide +kernel
theorem dX5_fillSizes_83 : decode cX5_fillSizes 83 = .ok (.iinc 2 1, 3) := by decide +kernel
theorem dX5_fillSizes_86 : decode cX5_fillSizes 86 = .ok (.goto (-71), 3) := by decide +kernel
theorem dX5_fillSizes_89 : decode cX5_fillSizes 89 = .ok (.iinc 1 (-1), 3) := by decide +kernel
theorem dX5_fillSizes_92 : decode cX5_fillSizes 92 = .ok (.goto (-84), 3) := by decide +kernel
theorem dX5_fillSizes_95 : decode cX5_fillSizes 95 = .ok (.return_, 1) := by decide +kernel
set_option maxRecDepth 100000 in
theorem ggX5_mostOfSize_X1_mostValue : GoodIn wsX5_mostOfSize wsX1_mostValue := goodIn_r _ [12, 13, 14, 15, 3, 4, 5, 16, 17, 18, 11, 19, 20, 21, 22, 23, 24, 25, 26, 64, 65, 66, 67, 68] rfl (by decide +kernel)
set_option maxRecDepth 100000 in
theorem gX5_mostOfSize_X1_mostValue : GoodIn wsX5_mostOfSize (wsV RX5 73 RX1 yX1_mostValue wsX1_mostValue) := goodIn_app (goodIn_of _ (by decide +kernel)) ggX5_mostOfSize_X1_mostValue
set_option maxRecDepth 100000 in
theorem ggX5_mostOfSize_X5_ofSize : GoodIn wsX5_mostOfSize wsX5_ofSize := goodIn_r _ [31, 6, 32, 33, 34, 35, 30, 36, 37, 38, 39, 52, 53, 54, 55, 56, 57, 58, 59, 60, 61, 62, 63] rfl (by decide +kernel)
set_option maxRecDepth 100000 in
theorem gX5_mostOfSize_X5_ofSize : GoodIn wsX5_mostOfSize (wsV RX5 43 RX5 yX5_ofSize wsX5_ofSize) := goodIn_app (goodIn_of _ (by decide +kernel)) ggX5_mostOfSize_X5_ofSize
set_option maxRecDepth 100000 in
theorem ggX5_mostOfSize_X4_lastCut : GoodIn wsX5_mostOfSize wsX4_lastCut := goodIn_r _ [44, 45, 46, 47, 48, 43, 49, 50, 57, 58, 59, 60, 61, 62, 63] rfl (by decide +kernel)
set_option maxRecDepth 100000 in
theorem gX5_mostOfSize_X4_lastCut : GoodIn wsX5_mostOfSize (wsV RX5 83 RX4 yX4_lastCut wsX4_lastCut) := goodIn_app (goodIn_of _ (by decide +kernel)) ggX5_mostOfSize_X4_lastCut
set_option maxRecDepth 100000 in
theorem ggX5_mostOfSize_X4_partsWidth : GoodIn wsX5_mostOfSize wsX4_partsWidth := goodIn_r _ [49, 50, 57, 58, 59, 60, 61, 62, 63] rfl (by decide +kernel)
set_option maxRecDepth 100000 in
theorem gX5_mostOfSize_X4_partsWidth : GoodIn wsX5_mostOfSize (wsV RX5 86 RX4 yX4_partsWidth wsX4_partsWidth) := goodIn_app (goodIn_of _ (by decide +kernel)) ggX5_mostOfSize_X4_partsWidth
theorem dX5_mostOfSize_0 : decode cX5_mostOfSize 0 = .ok (.aload_n 0, 1) := by decide +kernel
theorem dX5_mostOfSize_1 : decode cX5_mostOfSize 1 = .ok (.getfield 27, 3) := by decide +kernel
theorem dX5_mostOfSize_4 : decode cX5_mostOfSize 4 = .ok (.iload_n 1, 1) := by decide +kernel
theorem dX5_mostOfSize_5 : decode cX5_mostOfSize 5 = .ok (.iload_n 2, 1) := by decide +kernel
theorem dX5_mostOfSize_6 : decode cX5_mostOfSize 6 = .ok (.invokevirtual 73, 3) := by decide +kernel
theorem dX5_mostOfSize_9 : decode cX5_mostOfSize 9 = .ok (.aload_n 0, 1) := by decide +kernel
theorem dX5_mostOfSize_10 : decode cX5_mostOfSize 10 = .ok (.iload_n 1, 1) := by decide +kernel
theorem dX5_mostOfSize_11 : decode cX5_mostOfSize 11 = .ok (.iload_n 2, 1) := by decide +kernel
theorem dX5_mostOfSize_12 : decode cX5_mostOfSize 12 = .ok (.iload_n 3, 1) := by decide +kernel
theorem dX5_mostOfSize_13 : decode cX5_mostOfSize 13 = .ok (.iconst 1, 1) := by decide +kernel
theorem dX5_mostOfSize_14 : decode cX5_mostOfSize 14 = .ok (.iadd, 1) := by decide +kernel
theorem dX5_mostOfSize_15 : decode cX5_mostOfSize 15 = .ok (.invokevirtual 43, 3) := by decide +kernel
theorem dX5_mostOfSize_18 : decode cX5_mostOfSize 18 = .ok (.invokestatic 78, 3) := by decide +kernel
theorem dX5_mostOfSize_21 : decode cX5_mostOfSize 21 = .ok (.istore 4, 2) := by decide +kernel
theorem dX5_mostOfSize_23 : decode cX5_mostOfSize 23 = .ok (.aload_n 0, 1) := by decide +kernel
theorem dX5_mostOfSize_24 : decode cX5_mostOfSize 24 = .ok (.getfield 23, 3) := by decide +kernel
theorem dX5_mostOfSize_27 : decode cX5_mostOfSize 27 = .ok (.iload_n 1, 1) := by decide +kernel
theorem dX5_mostOfSize_28 : decode cX5_mostOfSize 28 = .ok (.iload_n 2, 1) := by decide +kernel
theorem dX5_mostOfSize_29 : decode cX5_mostOfSize 29 = .ok (.iload_n 3, 1) := by decide +kernel
theorem dX5_mostOfSize_30 : decode cX5_mostOfSize 30 = .ok (.invokevirtual 83, 3) := by decide +kernel
theorem dX5_mostOfSize_33 : decode cX5_mostOfSize 33 = .ok (.istore 5, 2) := by decide +kernel
theorem dX5_mostOfSize_35 : decode cX5_mostOfSize 35 = .ok (.aload_n 0, 1) := by decide +kernel
theorem dX5_mostOfSize_36 : decode cX5_mostOfSize 36 = .ok (.getfield 23, 3) := by decide +kernel
theorem dX5_mostOfSize_39 : decode cX5_mostOfSize 39 = .ok (.iload_n 3, 1) := by decide +kernel
theorem dX5_mostOfSize_40 : decode cX5_mostOfSize 40 = .ok (.invokevirtual 86, 3) := by decide +kernel
theorem dX5_mostOfSize_43 : decode cX5_mostOfSize 43 = .ok (.istore 6, 2) := by decide +kernel
theorem dX5_mostOfSize_45 : decode cX5_mostOfSize 45 = .ok (.iconst 1, 1) := by decide +kernel
theorem dX5_mostOfSize_46 : decode cX5_mostOfSize 46 = .ok (.istore 7, 2) := by decide +kernel
theorem dX5_mostOfSize_48 : decode cX5_mostOfSize 48 = .ok (.iload 7, 2) := by decide +kernel
theorem dX5_mostOfSize_50 : decode cX5_mostOfSize 50 = .ok (.iload 5, 2) := by decide +kernel
theorem dX5_mostOfSize_52 : decode cX5_mostOfSize 52 = .ok (.if_icmp .gt 78, 3) := by decide +kernel
theorem dX5_mostOfSize_55 : decode cX5_mostOfSize 55 = .ok (.iload 7, 2) := by decide +kernel
theorem dX5_mostOfSize_57 : decode cX5_mostOfSize 57 = .ok (.aload_n 0, 1) := by decide +kernel
theorem dX5_mostOfSize_58 : decode cX5_mostOfSize 58 = .ok (.getfield 23, 3) := by decide +kernel
theorem dX5_mostOfSize_61 : decode cX5_mostOfSize 61 = .ok (.getfield 90, 3) := by decide +kernel
theorem dX5_mostOfSize_64 : decode cX5_mostOfSize 64 = .ok (.iadd, 1) := by decide +kernel
theorem dX5_mostOfSize_65 : decode cX5_mostOfSize 65 = .ok (.istore 8, 2) := by decide +kernel
theorem dX5_mostOfSize_67 : decode cX5_mostOfSize 67 = .ok (.iload 6, 2) := by decide +kernel
theorem dX5_mostOfSize_69 : decode cX5_mostOfSize 69 = .ok (.ifCond .eq 25, 3) := by decide +kernel
theorem dX5_mostOfSize_72 : decode cX5_mostOfSize 72 = .ok (.aload_n 0, 1) := by decide +kernel
theorem dX5_mostOfSize_73 : decode cX5_mostOfSize 73 = .ok (.iload 7, 2) := by decide +kernel
theorem dX5_mostOfSize_75 : decode cX5_mostOfSize 75 = .ok (.iload_n 2, 1) := by decide +kernel
theorem dX5_mostOfSize_76 : decode cX5_mostOfSize 76 = .ok (.iload_n 3, 1) := by decide +kernel
theorem dX5_mostOfSize_77 : decode cX5_mostOfSize 77 = .ok (.invokevirtual 43, 3) := by decide +kernel
theorem dX5_mostOfSize_80 : decode cX5_mostOfSize 80 = .ok (.aload_n 0, 1) := by decide +kernel
theorem dX5_mostOfSize_81 : decode cX5_mostOfSize 81 = .ok (.iload_n 1, 1) := by decide +kernel
theorem dX5_mostOfSize_82 : decode cX5_mostOfSize 82 = .ok (.iload 8, 2) := by decide +kernel
theorem dX5_mostOfSize_84 : decode cX5_mostOfSize 84 = .ok (.isub, 1) := by decide +kernel
theorem dX5_mostOfSize_85 : decode cX5_mostOfSize 85 = .ok (.iload_n 2, 1) := by decide +kernel
theorem dX5_mostOfSize_86 : decode cX5_mostOfSize 86 = .ok (.iload_n 3, 1) := by decide +kernel
theorem dX5_mostOfSize_87 : decode cX5_mostOfSize 87 = .ok (.invokevirtual 43, 3) := by decide +kernel
theorem dX5_mostOfSize_90 : decode cX5_mostOfSize 90 = .ok (.iadd, 1) := by decide +kernel
