theorem dX7_kind_55 : decode cX7_kind 55 = .ok (.iastore, 1) := by decide +kernel
theorem dX7_kind_56 : decode cX7_kind 56 = .ok (.aload_n 0, 1) := by decide +kernel
theorem dX7_kind_57 : decode cX7_kind 57 = .ok (.getfield 35, 3) := by decide +kernel
theorem dX7_kind_60 : decode cX7_kind 60 = .ok (.aload_n 0, 1) := by decide +kernel
theorem dX7_kind_61 : decode cX7_kind 61 = .ok (.getfield 133, 3) := by decide +kernel
theorem dX7_kind_64 : decode cX7_kind 64 = .ok (.iload_n 2, 1) := by decide +kernel
theorem dX7_kind_65 : decode cX7_kind 65 = .ok (.iastore, 1) := by decide +kernel
theorem dX7_kind_66 : decode cX7_kind 66 = .ok (.aload_n 0, 1) := by decide +kernel
theorem dX7_kind_67 : decode cX7_kind 67 = .ok (.getfield 38, 3) := by decide +kernel
theorem dX7_kind_70 : decode cX7_kind 70 = .ok (.aload_n 0, 1) := by decide +kernel
theorem dX7_kind_71 : decode cX7_kind 71 = .ok (.getfield 133, 3) := by decide +kernel
theorem dX7_kind_74 : decode cX7_kind 74 = .ok (.iload_n 3, 1) := by decide +kernel
theorem dX7_kind_75 : decode cX7_kind 75 = .ok (.iastore, 1) := by decide +kernel
theorem dX7_kind_76 : decode cX7_kind 76 = .ok (.aload_n 0, 1) := by decide +kernel
theorem dX7_kind_77 : decode cX7_kind 77 = .ok (.getfield 41, 3) := by decide +kernel
theorem dX7_kind_80 : decode cX7_kind 80 = .ok (.aload_n 0, 1) := by decide +kernel
theorem dX7_kind_81 : decode cX7_kind 81 = .ok (.getfield 133, 3) := by decide +kernel
theorem dX7_kind_84 : decode cX7_kind 84 = .ok (.iload 4, 2) := by decide +kernel
theorem dX7_kind_86 : decode cX7_kind 86 = .ok (.bastore, 1) := by decide +kernel
theorem dX7_kind_87 : decode cX7_kind 87 = .ok (.aload_n 0, 1) := by decide +kernel
theorem dX7_kind_88 : decode cX7_kind 88 = .ok (.dup, 1) := by decide +kernel
theorem dX7_kind_89 : decode cX7_kind 89 = .ok (.getfield 133, 3) := by decide +kernel
theorem dX7_kind_92 : decode cX7_kind 92 = .ok (.iconst 1, 1) := by decide +kernel
theorem dX7_kind_93 : decode cX7_kind 93 = .ok (.iadd, 1) := by decide +kernel
theorem dX7_kind_94 : decode cX7_kind 94 = .ok (.putfield 133, 3) := by decide +kernel
theorem dX7_kind_97 : decode cX7_kind 97 = .ok (.aload_n 0, 1) := by decide +kernel
theorem dX7_kind_98 : decode cX7_kind 98 = .ok (.iconst 0, 1) := by decide +kernel
theorem dX7_kind_99 : decode cX7_kind 99 = .ok (.putfield 125, 3) := by decide +kernel
theorem dX7_kind_102 : decode cX7_kind 102 = .ok (.aload_n 0, 1) := by decide +kernel
theorem dX7_kind_103 : decode cX7_kind 103 = .ok (.getfield 133, 3) := by decide +kernel
theorem dX7_kind_106 : decode cX7_kind 106 = .ok (.iconst 1, 1) := by decide +kernel
theorem dX7_kind_107 : decode cX7_kind 107 = .ok (.isub, 1) := by decide +kernel
theorem dX7_kind_108 : decode cX7_kind 108 = .ok (.ireturn, 1) := by decide +kernel
set_option maxRecDepth 100000 in
theorem ggX7_value_X7_within : GoodIn wsX7_value wsX7_within := goodIn_r _ [7] rfl (by decide +kernel)
set_option maxRecDepth 100000 in
theorem gX7_value_X7_within : GoodIn wsX7_value (va_wsS RX7 112 yX7_within wsX7_within) := goodIn_app (goodIn_of _ (by decide +kernel)) ggX7_value_X7_within
theorem dX7_value_0 : decode cX7_value 0 = .ok (.iload_n 1, 1) := by decide +kernel
theorem dX7_value_1 : decode cX7_value 1 = .ok (.iconst 0, 1) := by decide +kernel
theorem dX7_value_2 : decode cX7_value 2 = .ok (.aload_n 0, 1) := by decide +kernel
theorem dX7_value_3 : decode cX7_value 3 = .ok (.getfield 133, 3) := by decide +kernel
theorem dX7_value_6 : decode cX7_value 6 = .ok (.iconst 1, 1) := by decide +kernel
theorem dX7_value_7 : decode cX7_value 7 = .ok (.isub, 1) := by decide +kernel
theorem dX7_value_8 : decode cX7_value 8 = .ok (.invokestatic 112, 3) := by decide +kernel
theorem dX7_value_11 : decode cX7_value 11 = .ok (.ifCond .ne 6, 3) := by decide +kernel
theorem dX7_value_14 : decode cX7_value 14 = .ok (.bipush (-2), 2) := by decide +kernel
theorem dX7_value_16 : decode cX7_value 16 = .ok (.ireturn, 1) := by decide +kernel
theorem dX7_value_17 : decode cX7_value 17 = .ok (.iload_n 2, 1) := by decide +kernel
theorem dX7_value_18 : decode cX7_value 18 = .ok (.iconst 1, 1) := by decide +kernel
theorem dX7_value_19 : decode cX7_value 19 = .ok (.sipush 1000, 3) := by decide +kernel
theorem dX7_value_22 : decode cX7_value 22 = .ok (.invokestatic 112, 3) := by decide +kernel
theorem dX7_value_25 : decode cX7_value 25 = .ok (.ifCond .ne 6, 3) := by decide +kernel
theorem dX7_value_28 : decode cX7_value 28 = .ok (.bipush (-3), 2) := by decide +kernel
theorem dX7_value_30 : decode cX7_value 30 = .ok (.ireturn, 1) := by decide +kernel
theorem dX7_value_31 : decode cX7_value 31 = .ok (.aload_n 0, 1) := by decide +kernel
theorem dX7_value_32 : decode cX7_value 32 = .ok (.getfield 38, 3) := by decide +kernel
theorem dX7_value_35 : decode cX7_value 35 = .ok (.iload_n 1, 1) := by decide +kernel
theorem dX7_value_36 : decode cX7_value 36 = .ok (.iaload, 1) := by decide +kernel
theorem dX7_value_37 : decode cX7_value 37 = .ok (.istore_n 3, 1) := by decide +kernel
theorem dX7_value_38 : decode cX7_value 38 = .ok (.aload_n 0, 1) := by decide +kernel
theorem dX7_value_39 : decode cX7_value 39 = .ok (.getfield 38, 3) := by decide +kernel
theorem dX7_value_42 : decode cX7_value 42 = .ok (.iload_n 1, 1) := by decide +kernel
theorem dX7_value_43 : decode cX7_value 43 = .ok (.iload_n 2, 1) := by decide +kernel
theorem dX7_value_44 : decode cX7_value 44 = .ok (.iastore, 1) := by decide +kernel
theorem dX7_value_45 : decode cX7_value 45 = .ok (.aload_n 0, 1) := by decide +kernel
theorem dX7_value_46 : decode cX7_value 46 = .ok (.iconst 0, 1) := by decide +kernel
theorem dX7_value_47 : decode cX7_value 47 = .ok (.putfield 125, 3) := by decide +kernel
theorem dX7_value_50 : decode cX7_value 50 = .ok (.iload_n 3, 1) := by decide +kernel
theorem dX7_value_51 : decode cX7_value 51 = .ok (.ireturn, 1) := by decide +kernel
theorem dX7_at_0 : decode cX7_at 0 = .ok (.sipush 136, 3) := by decide +kernel
theorem dX7_at_3 : decode cX7_at 3 = .ok (.iload_n 1, 1) := by decide +kernel
theorem dX7_at_4 : decode cX7_at 4 = .ok (.iconst 1, 1) := by decide +kernel
theorem dX7_at_5 : decode cX7_at 5 = .ok (.isub, 1) := by decide +kernel
theorem dX7_at_6 : decode cX7_at 6 = .ok (.imul, 1) := by decide +kernel
theorem dX7_at_7 : decode cX7_at 7 = .ok (.aload_n 0, 1) := by decide +kernel
theorem dX7_at_8 : decode cX7_at 8 = .ok (.getfield 45, 3) := by decide +kernel
theorem dX7_at_11 : decode cX7_at 11 = .ok (.bipush 16, 2) := by decide +kernel
theorem dX7_at_13 : decode cX7_at 13 = .ok (.iload_n 2, 1) := by decide +kernel
theorem dX7_at_14 : decode cX7_at 14 = .ok (.imul, 1) := by decide +kernel
theorem dX7_at_15 : decode cX7_at 15 = .ok (.iload 4, 2) := by decide +kernel
theorem dX7_at_17 : decode cX7_at 17 = .ok (.iadd, 1) := by decide +kernel
theorem dX7_at_18 : decode cX7_at 18 = .ok (.iconst 1, 1) := by decide +kernel
theorem dX7_at_19 : decode cX7_at 19 = .ok (.isub, 1) := by decide +kernel
theorem dX7_at_20 : decode cX7_at 20 = .ok (.iaload, 1) := by decide +kernel
theorem dX7_at_21 : decode cX7_at 21 = .ok (.iadd, 1) := by decide +kernel
theorem dX7_at_22 : decode cX7_at 22 = .ok (.sipush 136, 3) := by decide +kernel
theorem dX7_at_25 : decode cX7_at 25 = .ok (.imul, 1) := by decide +kernel
theorem dX7_at_26 : decode cX7_at 26 = .ok (.aload_n 0, 1) := by decide +kernel
theorem dX7_at_27 : decode cX7_at 27 = .ok (.getfield 45, 3) := by decide +kernel
theorem dX7_at_30 : decode cX7_at 30 = .ok (.bipush 16, 2) := by decide +kernel
theorem dX7_at_32 : decode cX7_at 32 = .ok (.iload_n 3, 1) := by decide +kernel
theorem dX7_at_33 : decode cX7_at 33 = .ok (.imul, 1) := by decide +kernel
theorem dX7_at_34 : decode cX7_at 34 = .ok (.iload 5, 2) := by decide +kernel
theorem dX7_at_36 : decode cX7_at 36 = .ok (.iadd, 1) := by decide +kernel
theorem dX7_at_37 : decode cX7_at 37 = .ok (.iconst 1, 1) := by decide +kernel
theorem dX7_at_38 : decode cX7_at 38 = .ok (.isub, 1) := by decide +kernel
theorem dX7_at_39 : decode cX7_at 39 = .ok (.iaload, 1) := by decide +kernel
theorem dX7_at_40 : decode cX7_at 40 = .ok (.iadd, 1) := by decide +kernel
theorem dX7_at_41 : decode cX7_at 41 = .ok (.ireturn, 1) := by decide +kernel
theorem dX7_isSpoiled_0 : decode cX7_isSpoiled 0 = .ok (.iconst 0, 1) := by decide +kernel
theorem dX7_isSpoiled_1 : decode cX7_isSpoiled 1 = .ok (.istore 5, 2) := by decide +kernel
theorem dX7_isSpoiled_3 : decode cX7_isSpoiled 3 = .ok (.iconst 0, 1) := by decide +kernel
theorem dX7_isSpoiled_4 : decode cX7_isSpoiled 4 = .ok (.istore 6, 2) := by decide +kernel
theorem dX7_isSpoiled_6 : decode cX7_isSpoiled 6 = .ok (.iload 6, 2) := by decide +kernel
theorem dX7_isSpoiled_8 : decode cX7_isSpoiled 8 = .ok (.aload_n 0, 1) := by decide +kernel
theorem dX7_isSpoiled_9 : decode cX7_isSpoiled 9 = .ok (.getfield 122, 3) := by decide +kernel
theorem dX7_isSpoiled_12 : decode cX7_isSpoiled 12 = .ok (.if_icmp .ge 98, 3) := by decide +kernel
theorem dX7_isSpoiled_15 : decode cX7_isSpoiled 15 = .ok (.aload_n 0, 1) := by decide +kernel
theorem dX7_isSpoiled_16 : decode cX7_isSpoiled 16 = .ok (.getfield 19, 3) := by decide +kernel
theorem dX7_isSpoiled_19 : decode cX7_isSpoiled 19 = .ok (.iload 6, 2) := by decide +kernel
theorem dX7_isSpoiled_21 : decode cX7_isSpoiled 21 = .ok (.iaload, 1) := by decide +kernel
theorem dX7_isSpoiled_22 : decode cX7_isSpoiled 22 = .ok (.iload_n 1, 1) := by decide +kernel
theorem dX7_isSpoiled_23 : decode cX7_isSpoiled 23 = .ok (.iload_n 3, 1) := by decide +kernel
theorem dX7_isSpoiled_24 : decode cX7_isSpoiled 24 = .ok (.iadd, 1) := by decide +kernel
theorem dX7_isSpoiled_25 : decode cX7_isSpoiled 25 = .ok (.if_icmp .ge 55, 3) := by decide +kernel
theorem dX7_isSpoiled_28 : decode cX7_isSpoiled 28 = .ok (.aload_n 0, 1) := by decide +kernel
theorem dX7_isSpoiled_29 : decode cX7_isSpoiled 29 = .ok (.getfield 19, 3) := by decide +kernel
theorem dX7_isSpoiled_32 : decode cX7_isSpoiled 32 = .ok (.iload 6, 2) := by decide +kernel
theorem dX7_isSpoiled_34 : decode cX7_isSpoiled 34 = .ok (.iaload, 1) := by decide +kernel
theorem dX7_isSpoiled_35 : decode cX7_isSpoiled 35 = .ok (.aload_n 0, 1) := by decide +kernel
theorem dX7_isSpoiled_36 : decode cX7_isSpoiled 36 = .ok (.getfield 26, 3) := by decide +kernel
theorem dX7_isSpoiled_39 : decode cX7_isSpoiled 39 = .ok (.iload 6, 2) := by decide +kernel
theorem dX7_isSpoiled_41 : decode cX7_isSpoiled 41 = .ok (.iaload, 1) := by decide +kernel
theorem dX7_isSpoiled_42 : decode cX7_isSpoiled 42 = .ok (.iadd, 1) := by decide +kernel
theorem dX7_isSpoiled_43 : decode cX7_isSpoiled 43 = .ok (.iload_n 1, 1) := by decide +kernel
theorem dX7_isSpoiled_44 : decode cX7_isSpoiled 44 = .ok (.if_icmp .le 36, 3) := by decide +kernel
theorem dX7_isSpoiled_47 : decode cX7_isSpoiled 47 = .ok (.aload_n 0, 1) := by decide +kernel
theorem dX7_isSpoiled_48 : decode cX7_isSpoiled 48 = .ok (.getfield 23, 3) := by decide +kernel
theorem dX7_isSpoiled_51 : decode cX7_isSpoiled 51 = .ok (.iload 6, 2) := by decide +kernel
theorem dX7_isSpoiled_53 : decode cX7_isSpoiled 53 = .ok (.iaload, 1) := by decide +kernel
theorem dX7_isSpoiled_54 : decode cX7_isSpoiled 54 = .ok (.iload_n 2, 1) := by decide +kernel
theorem dX7_isSpoiled_55 : decode cX7_isSpoiled 55 = .ok (.iload 4, 2) := by decide +kernel
theorem dX7_isSpoiled_57 : decode cX7_isSpoiled 57 = .ok (.iadd, 1) := by decide +kernel
theorem dX7_isSpoiled_58 : decode cX7_isSpoiled 58 = .ok (.if_icmp .ge 22, 3) := by decide +kernel
theorem dX7_isSpoiled_61 : decode cX7_isSpoiled 61 = .ok (.aload_n 0, 1) := by decide +kernel
theorem dX7_isSpoiled_62 : decode cX7_isSpoiled 62 = .ok (.getfield 23, 3) := by decide +kernel
theorem dX7_isSpoiled_65 : decode cX7_isSpoiled 65 = .ok (.iload 6, 2) := by decide +kernel
theorem dX7_isSpoiled_67 : decode cX7_isSpoiled 67 = .ok (.iaload, 1) := by decide +kernel
theorem dX7_isSpoiled_68 : decode cX7_isSpoiled 68 = .ok (.aload_n 0, 1) := by decide +kernel
theorem dX7_isSpoiled_69 : decode cX7_isSpoiled 69 = .ok (.getfield 29, 3) := by decide +kernel
theorem dX7_isSpoiled_72 : decode cX7_isSpoiled 72 = .ok (.iload 6, 2) := by decide +kernel
theorem dX7_isSpoiled_74 : decode cX7_isSpoiled 74 = .ok (.iaload, 1) := by decide +kernel
theorem dX7_isSpoiled_75 : decode cX7_isSpoiled 75 = .ok (.iadd, 1) := by decide +kernel
theorem dX7_isSpoiled_76 : decode cX7_isSpoiled 76 = .ok (.iload_n 2, 1) := by decide +kernel
theorem dX7_isSpoiled_77 : decode cX7_isSpoiled 77 = .ok (.if_icmp .gt 7, 3) := by decide +kernel
theorem dX7_isSpoiled_80 : decode cX7_isSpoiled 80 = .ok (.iconst 1, 1) := by decide +kernel
theorem dX7_isSpoiled_81 : decode cX7_isSpoiled 81 = .ok (.goto 4, 3) := by decide +kernel
theorem dX7_isSpoiled_84 : decode cX7_isSpoiled 84 = .ok (.iconst 0, 1) := by decide +kernel
theorem dX7_isSpoiled_85 : decode cX7_isSpoiled 85 = .ok (.istore 7, 2) := by decide +kernel
theorem dX7_isSpoiled_87 : decode cX7_isSpoiled 87 = .ok (.iload 5, 2) := by decide +kernel
theorem dX7_isSpoiled_89 : decode cX7_isSpoiled 89 = .ok (.ifCond .ne 8, 3) := by decide +kernel
theorem dX7_isSpoiled_92 : decode cX7_isSpoiled 92 = .ok (.iload 7, 2) := by decide +kernel
theorem dX7_isSpoiled_94 : decode cX7_isSpoiled 94 = .ok (.ifCond .ne 7, 3) := by decide +kernel
theorem dX7_isSpoiled_97 : decode cX7_isSpoiled 97 = .ok (.iconst 1, 1) := by decide +kernel
theorem dX7_isSpoiled_98 : decode cX7_isSpoiled 98 = .ok (.goto 4, 3) := by decide +kernel
theorem dX7_isSpoiled_101 : decode cX7_isSpoiled 101 = .ok (.iconst 0, 1) := by decide +kernel
theorem dX7_isSpoiled_102 : decode cX7_isSpoiled 102 = .ok (.istore 5, 2) := by decide +kernel
theorem dX7_isSpoiled_104 : decode cX7_isSpoiled 104 = .ok (.iinc 6 1, 3) := by decide +kernel
theorem dX7_isSpoiled_107 : decode cX7_isSpoiled 107 = .ok (.goto (-101), 3) := by decide +kernel
theorem dX7_isSpoiled_110 : decode cX7_isSpoiled 110 = .ok (.iload 5, 2) := by decide +kernel
theorem dX7_isSpoiled_112 : decode cX7_isSpoiled 112 = .ok (.ireturn, 1) := by decide +kernel
theorem dX7_isLike_0 : decode cX7_isLike 0 = .ok (.iload_n 2, 1) := by decide +kernel
theorem dX7_isLike_1 : decode cX7_isLike 1 = .ok (.ifCond .ne 32, 3) := by decide +kernel
theorem dX7_isLike_4 : decode cX7_isLike 4 = .ok (.aload_n 0, 1) := by decide +kernel
theorem dX7_isLike_5 : decode cX7_isLike 5 = .ok (.getfield 32, 3) := by decide +kernel
theorem dX7_isLike_8 : decode cX7_isLike 8 = .ok (.iload_n 1, 1) := by decide +kernel
theorem dX7_isLike_9 : decode cX7_isLike 9 = .ok (.iaload, 1) := by decide +kernel
theorem dX7_isLike_10 : decode cX7_isLike 10 = .ok (.iload_n 3, 1) := by decide +kernel
theorem dX7_isLike_11 : decode cX7_isLike 11 = .ok (.if_icmp .ne 18, 3) := by decide +kernel
theorem dX7_isLike_14 : decode cX7_isLike 14 = .ok (.aload_n 0, 1) := by decide +kernel
theorem dX7_isLike_15 : decode cX7_isLike 15 = .ok (.getfield 35, 3) := by decide +kernel
theorem dX7_isLike_18 : decode cX7_isLike 18 = .ok (.iload_n 1, 1) := by decide +kernel
theorem dX7_isLike_19 : decode cX7_isLike 19 = .ok (.iaload, 1) := by decide +kernel
theorem dX7_isLike_20 : decode cX7_isLike 20 = .ok (.iload 4, 2) := by decide +kernel
theorem dX7_isLike_22 : decode cX7_isLike 22 = .ok (.if_icmp .ne 7, 3) := by decide +kernel
theorem dX7_isLike_25 : decode cX7_isLike 25 = .ok (.iconst 1, 1) := by decide +kernel
theorem dX7_isLike_26 : decode cX7_isLike 26 = .ok (.goto 42, 3) := by decide +kernel
theorem dX7_isLike_29 : decode cX7_isLike 29 = .ok (.iconst 0, 1) := by decide +kernel
theorem dX7_isLike_30 : decode cX7_isLike 30 = .ok (.goto 38, 3) := by decide +kernel
theorem dX7_isLike_33 : decode cX7_isLike 33 = .ok (.aload_n 0, 1) := by decide +kernel
theorem dX7_isLike_34 : decode cX7_isLike 34 = .ok (.getfield 41, 3) := by decide +kernel
theorem dX7_isLike_37 : decode cX7_isLike 37 = .ok (.iload_n 1, 1) := by decide +kernel
theorem dX7_isLike_38 : decode cX7_isLike 38 = .ok (.baload, 1) := by decide +kernel
theorem dX7_isLike_39 : decode cX7_isLike 39 = .ok (.ifCond .eq 28, 3) := by decide +kernel
theorem dX7_isLike_42 : decode cX7_isLike 42 = .ok (.aload_n 0, 1) := by decide +kernel
theorem dX7_isLike_43 : decode cX7_isLike 43 = .ok (.getfield 35, 3) := by decide +kernel
theorem dX7_isLike_46 : decode cX7_isLike 46 = .ok (.iload_n 1, 1) := by decide +kernel
theorem dX7_isLike_47 : decode cX7_isLike 47 = .ok (.iaload, 1) := by decide +kernel
theorem dX7_isLike_48 : decode cX7_isLike 48 = .ok (.iload_n 3, 1) := by decide +kernel
theorem dX7_isLike_49 : decode cX7_isLike 49 = .ok (.if_icmp .ne 18, 3) := by decide +kernel
theorem dX7_isLike_52 : decode cX7_isLike 52 = .ok (.aload_n 0, 1) := by decide +kernel
theorem dX7_isLike_53 : decode cX7_isLike 53 = .ok (.getfield 32, 3) := by decide +kernel
theorem dX7_isLike_56 : decode cX7_isLike 56 = .ok (.iload_n 1, 1) := by decide +kernel
theorem dX7_isLike_57 : decode cX7_isLike 57 = .ok (.iaload, 1) := by decide +kernel
theorem dX7_isLike_58 : decode cX7_isLike 58 = .ok (.iload 4, 2) := by decide +kernel
theorem dX7_isLike_60 : decode cX7_isLike 60 = .ok (.if_icmp .ne 7, 3) := by decide +kernel
theorem dX7_isLike_63 : decode cX7_isLike 63 = .ok (.iconst 1, 1) := by decide +kernel
theorem dX7_isLike_64 : decode cX7_isLike 64 = .ok (.goto 4, 3) := by decide +kernel
theorem dX7_isLike_67 : decode cX7_isLike 67 = .ok (.iconst 0, 1) := by decide +kernel
theorem dX7_isLike_68 : decode cX7_isLike 68 = .ok (.ireturn, 1) := by decide +kernel
set_option maxRecDepth 100000 in
theorem ggX7_bestPiece_X7_isLike : GoodIn wsX7_bestPiece wsX7_isLike := goodIn_r _ [7, 8, 9, 10, 20, 21, 22, 23, 24, 25, 26, 27, 28, 29, 30, 31, 32, 33, 34, 35, 36, 37, 38, 39, 40, 41, 42, 43, 44, 45, 46, 47, 48, 49, 50, 51, 52, 53, 54, 55, 56, 57, 58, 59, 60, 61, 62, 63, 64, 65, 66] rfl (by decide +kernel)
set_option maxRecDepth 100000 in
theorem gX7_bestPiece_X7_isLike : GoodIn wsX7_bestPiece (wsV RX7 136 RX7 yX7_isLike wsX7_isLike) := goodIn_app (goodIn_of _ (by decide +kernel)) ggX7_bestPiece_X7_isLike
set_option maxRecDepth 100000 in
theorem ggX7_bestPiece_X7_isSpoiled : GoodIn wsX7_bestPiece wsX7_isSpoiled := goodIn_r _ [14, 15, 16, 17, 18, 19, 20, 21, 22, 23, 24, 25, 26, 27, 28, 29, 30, 31, 32, 33, 34, 35, 36, 37, 38, 39, 40, 41, 42, 43, 44, 45, 46, 47, 48, 49, 50, 51, 52, 53, 54, 55, 56, 57, 58, 59, 60, 61, 62, 63, 64, 65, 66] rfl (by decide +kernel)
set_option maxRecDepth 100000 in
theorem gX7_bestPiece_X7_isSpoiled : GoodIn wsX7_bestPiece (wsV RX7 139 RX7 yX7_isSpoiled wsX7_isSpoiled) := goodIn_app (goodIn_of _ (by decide +kernel)) ggX7_bestPiece_X7_isSpoiled
theorem dX7_bestPiece_0 : decode cX7_bestPiece 0 = .ok (.iconst 0, 1) := by decide +kernel
theorem dX7_bestPiece_1 : decode cX7_bestPiece 1 = .ok (.istore 5, 2) := by decide +kernel
theorem dX7_bestPiece_3 : decode cX7_bestPiece 3 = .ok (.iconst 0, 1) := by decide +kernel
theorem dX7_bestPiece_4 : decode cX7_bestPiece 4 = .ok (.istore 6, 2) := by decide +kernel
theorem dX7_bestPiece_6 : decode cX7_bestPiece 6 = .ok (.iload 6, 2) := by decide +kernel
theorem dX7_bestPiece_8 : decode cX7_bestPiece 8 = .ok (.aload_n 0, 1) := by decide +kernel
theorem dX7_bestPiece_9 : decode cX7_bestPiece 9 = .ok (.getfield 133, 3) := by decide +kernel
theorem dX7_bestPiece_12 : decode cX7_bestPiece 12 = .ok (.if_icmp .ge 56, 3) := by decide +kernel
theorem dX7_bestPiece_15 : decode cX7_bestPiece 15 = .ok (.aload_n 0, 1) := by decide +kernel
theorem dX7_bestPiece_16 : decode cX7_bestPiece 16 = .ok (.iload 6, 2) := by decide +kernel
theorem dX7_bestPiece_18 : decode cX7_bestPiece 18 = .ok (.iconst 0, 1) := by decide +kernel
theorem dX7_bestPiece_19 : decode cX7_bestPiece 19 = .ok (.iload_n 3, 1) := by decide +kernel
theorem dX7_bestPiece_20 : decode cX7_bestPiece 20 = .ok (.iload 4, 2) := by decide +kernel
theorem dX7_bestPiece_22 : decode cX7_bestPiece 22 = .ok (.invokevirtual 136, 3) := by decide +kernel
theorem dX7_bestPiece_25 : decode cX7_bestPiece 25 = .ok (.ifCond .ne 16, 3) := by decide +kernel
theorem dX7_bestPiece_28 : decode cX7_bestPiece 28 = .ok (.aload_n 0, 1) := by decide +kernel
theorem dX7_bestPiece_29 : decode cX7_bestPiece 29 = .ok (.iload 6, 2) := by decide +kernel
theorem dX7_bestPiece_31 : decode cX7_bestPiece 31 = .ok (.iconst 1, 1) := by decide +kernel
theorem dX7_bestPiece_32 : decode cX7_bestPiece 32 = .ok (.iload_n 3, 1) := by decide +kernel
theorem dX7_bestPiece_33 : decode cX7_bestPiece 33 = .ok (.iload 4, 2) := by decide +kernel
theorem dX7_bestPiece_35 : decode cX7_bestPiece 35 = .ok (.invokevirtual 136, 3) := by decide +kernel
theorem dX7_bestPiece_38 : decode cX7_bestPiece 38 = .ok (.ifCond .eq 24, 3) := by decide +kernel
theorem dX7_bestPiece_41 : decode cX7_bestPiece 41 = .ok (.aload_n 0, 1) := by decide +kernel
theorem dX7_bestPiece_42 : decode cX7_bestPiece 42 = .ok (.getfield 38, 3) := by decide +kernel
theorem dX7_bestPiece_45 : decode cX7_bestPiece 45 = .ok (.iload 6, 2) := by decide +kernel
theorem dX7_bestPiece_47 : decode cX7_bestPiece 47 = .ok (.iaload, 1) := by decide +kernel
theorem dX7_bestPiece_48 : decode cX7_bestPiece 48 = .ok (.iload 5, 2) := by decide +kernel
theorem dX7_bestPiece_50 : decode cX7_bestPiece 50 = .ok (.if_icmp .le 12, 3) := by decide +kernel
theorem dX7_bestPiece_53 : decode cX7_bestPiece 53 = .ok (.aload_n 0, 1) := by decide +kernel
theorem dX7_bestPiece_54 : decode cX7_bestPiece 54 = .ok (.getfield 38, 3) := by decide +kernel
theorem dX7_bestPiece_57 : decode cX7_bestPiece 57 = .ok (.iload 6, 2) := by decide +kernel
theorem dX7_bestPiece_59 : decode cX7_bestPiece 59 = .ok (.iaload, 1) := by decide +kernel
theorem dX7_bestPiece_60 : decode cX7_bestPiece 60 = .ok (.istore 5, 2) := by decide +kernel
theorem dX7_bestPiece_62 : decode cX7_bestPiece 62 = .ok (.iinc 6 1, 3) := by decide +kernel
theorem dX7_bestPiece_65 : decode cX7_bestPiece 65 = .ok (.goto (-59), 3) := by decide +kernel
theorem dX7_bestPiece_68 : decode cX7_bestPiece 68 = .ok (.iload 5, 2) := by decide +kernel
theorem dX7_bestPiece_70 : decode cX7_bestPiece 70 = .ok (.ifCond .le 19, 3) := by decide +kernel
theorem dX7_bestPiece_73 : decode cX7_bestPiece 73 = .ok (.aload_n 0, 1) := by decide +kernel
theorem dX7_bestPiece_74 : decode cX7_bestPiece 74 = .ok (.iload_n 1, 1) := by decide +kernel
theorem dX7_bestPiece_75 : decode cX7_bestPiece 75 = .ok (.iload_n 2, 1) := by decide +kernel
theorem dX7_bestPiece_76 : decode cX7_bestPiece 76 = .ok (.iload_n 3, 1) := by decide +kernel
theorem dX7_bestPiece_77 : decode cX7_bestPiece 77 = .ok (.iload 4, 2) := by decide +kernel
theorem dX7_bestPiece_79 : decode cX7_bestPiece 79 = .ok (.invokevirtual 139, 3) := by decide +kernel
theorem dX7_bestPiece_82 : decode cX7_bestPiece 82 = .ok (.ifCond .eq 7, 3) := by decide +kernel
theorem dX7_bestPiece_85 : decode cX7_bestPiece 85 = .ok (.iconst 0, 1) := by decide +kernel
theorem dX7_bestPiece_86 : decode cX7_bestPiece 86 = .ok (.goto 5, 3) := by decide +kernel
theorem dX7_bestPiece_89 : decode cX7_bestPiece 89 = .ok (.iload 5, 2) := by decide +kernel
theorem dX7_bestPiece_91 : decode cX7_bestPiece 91 = .ok (.ireturn, 1) := by decide +kernel
theorem dX7_wayOf_0 : decode cX7_wayOf 0 = .ok (.iload_n 1, 1) := by decide +kernel
theorem dX7_wayOf_1 : decode cX7_wayOf 1 = .ok (.iconst 2, 1) := by decide +kernel
theorem dX7_wayOf_2 : decode cX7_wayOf 2 = .ok (.irem, 1) := by decide +kernel
theorem dX7_wayOf_3 : decode cX7_wayOf 3 = .ok (.iconst 1, 1) := by decide +kernel
theorem dX7_wayOf_4 : decode cX7_wayOf 4 = .ok (.if_icmp .ne 10, 3) := by decide +kernel
theorem dX7_wayOf_7 : decode cX7_wayOf 7 = .ok (.aload_n 0, 1) := by decide +kernel
theorem dX7_wayOf_8 : decode cX7_wayOf 8 = .ok (.getfield 119, 3) := by decide +kernel
theorem dX7_wayOf_11 : decode cX7_wayOf 11 = .ok (.goto 9, 3) := by decide +kernel
theorem dX7_wayOf_14 : decode cX7_wayOf 14 = .ok (.iconst 1, 1) := by decide +kernel
theorem dX7_wayOf_15 : decode cX7_wayOf 15 = .ok (.aload_n 0, 1) := by decide +kernel
theorem dX7_wayOf_16 : decode cX7_wayOf 16 = .ok (.getfield 119, 3) := by decide +kernel
theorem dX7_wayOf_19 : decode cX7_wayOf 19 = .ok (.isub, 1) := by decide +kernel
theorem dX7_wayOf_20 : decode cX7_wayOf 20 = .ok (.ireturn, 1) := by decide +kernel
set_option maxRecDepth 100000 in
theorem ggX7_both_X7_wayOf : GoodIn wsX7_both wsX7_wayOf := goodIn_r _ [7, 8, 14, 15, 16, 17, 18, 19, 20, 21, 22, 23, 24, 25, 26, 27, 28, 29, 30, 31, 32, 33, 34, 35, 36, 37, 38, 39, 40, 41, 42, 43, 44, 45, 46, 47, 48, 49, 50, 51, 52, 53, 54, 55, 56, 57, 58, 59, 60] rfl (by decide +kernel)
set_option maxRecDepth 100000 in
theorem gX7_both_X7_wayOf : GoodIn wsX7_both (wsV RX7 142 RX7 yX7_wayOf wsX7_wayOf) := goodIn_app (goodIn_of _ (by decide +kernel)) ggX7_both_X7_wayOf
set_option maxRecDepth 100000 in
theorem ggX7_both_X7_at : GoodIn wsX7_both wsX7_at := goodIn_r _ [12, 13, 14, 15, 16, 17, 18, 19, 20, 21, 22, 23, 24, 25, 26, 27, 28, 29, 30, 31, 32, 33, 34, 35, 36, 37, 38, 39, 40, 41, 42, 43, 44, 45, 46, 47, 48, 49, 50, 51, 52, 53, 54, 55, 56, 57, 58, 59, 60] rfl (by decide +kernel)
set_option maxRecDepth 100000 in
theorem gX7_both_X7_at : GoodIn wsX7_both (wsV RX7 146 RX7 yX7_at wsX7_at) := goodIn_app (goodIn_of _ (by decide +kernel)) ggX7_both_X7_at
theorem dX7_both_0 : decode cX7_both 0 = .ok (.aload_n 0, 1) := by decide +kernel
theorem dX7_both_1 : decode cX7_both 1 = .ok (.iload_n 1, 1) := by decide +kernel
theorem dX7_both_2 : decode cX7_both 2 = .ok (.invokevirtual 142, 3) := by decide +kernel
theorem dX7_both_5 : decode cX7_both 5 = .ok (.ifCond .ne 53, 3) := by decide +kernel
theorem dX7_both_8 : decode cX7_both 8 = .ok (.aload_n 0, 1) := by decide +kernel
theorem dX7_both_9 : decode cX7_both 9 = .ok (.getfield 49, 3) := by decide +kernel
theorem dX7_both_12 : decode cX7_both 12 = .ok (.aload_n 0, 1) := by decide +kernel
theorem dX7_both_13 : decode cX7_both 13 = .ok (.iload_n 1, 1) := by decide +kernel
theorem dX7_both_14 : decode cX7_both 14 = .ok (.iload_n 2, 1) := by decide +kernel
theorem dX7_both_15 : decode cX7_both 15 = .ok (.iload_n 3, 1) := by decide +kernel
theorem dX7_both_16 : decode cX7_both 16 = .ok (.iload 6, 2) := by decide +kernel
theorem dX7_both_18 : decode cX7_both 18 = .ok (.iload 5, 2) := by decide +kernel
theorem dX7_both_20 : decode cX7_both 20 = .ok (.invokevirtual 146, 3) := by decide +kernel
theorem dX7_both_23 : decode cX7_both 23 = .ok (.iaload, 1) := by decide +kernel
theorem dX7_both_24 : decode cX7_both 24 = .ok (.aload_n 0, 1) := by decide +kernel
theorem dX7_both_25 : decode cX7_both 25 = .ok (.getfield 49, 3) := by decide +kernel
theorem dX7_both_28 : decode cX7_both 28 = .ok (.aload_n 0, 1) := by decide +kernel
theorem dX7_both_29 : decode cX7_both 29 = .ok (.iload_n 1, 1) := by decide +kernel
theorem dX7_both_30 : decode cX7_both 30 = .ok (.iload_n 2, 1) := by decide +kernel
theorem dX7_both_31 : decode cX7_both 31 = .ok (.iload 6, 2) := by decide +kernel
theorem dX7_both_33 : decode cX7_both 33 = .ok (.iadd, 1) := by decide +kernel
theorem dX7_both_34 : decode cX7_both 34 = .ok (.aload_n 0, 1) := by decide +kernel
theorem dX7_both_35 : decode cX7_both 35 = .ok (.getfield 116, 3) := by decide +kernel
theorem dX7_both_38 : decode cX7_both 38 = .ok (.iadd, 1) := by decide +kernel
theorem dX7_both_39 : decode cX7_both 39 = .ok (.iload_n 3, 1) := by decide +kernel
theorem dX7_both_40 : decode cX7_both 40 = .ok (.iload 4, 2) := by decide +kernel
theorem dX7_both_42 : decode cX7_both 42 = .ok (.iload 6, 2) := by decide +kernel
theorem dX7_both_44 : decode cX7_both 44 = .ok (.isub, 1) := by decide +kernel
theorem dX7_both_45 : decode cX7_both 45 = .ok (.aload_n 0, 1) := by decide +kernel
theorem dX7_both_46 : decode cX7_both 46 = .ok (.getfield 116, 3) := by decide +kernel
theorem dX7_both_49 : decode cX7_both 49 = .ok (.isub, 1) := by decide +kernel
theorem dX7_both_50 : decode cX7_both 50 = .ok (.iload 5, 2) := by decide +kernel
theorem dX7_both_52 : decode cX7_both 52 = .ok (.invokevirtual 146, 3) := by decide +kernel
theorem dX7_both_55 : decode cX7_both 55 = .ok (.iaload, 1) := by decide +kernel
theorem dX7_both_56 : decode cX7_both 56 = .ok (.iadd, 1) := by decide +kernel
theorem dX7_both_57 : decode cX7_both 57 = .ok (.ireturn, 1) := by decide +kernel
theorem dX7_both_58 : decode cX7_both 58 = .ok (.aload_n 0, 1) := by decide +kernel
theorem dX7_both_59 : decode cX7_both 59 = .ok (.getfield 49, 3) := by decide +kernel
theorem dX7_both_62 : decode cX7_both 62 = .ok (.aload_n 0, 1) := by decide +kernel
theorem dX7_both_63 : decode cX7_both 63 = .ok (.iload_n 1, 1) := by decide +kernel
theorem dX7_both_64 : decode cX7_both 64 = .ok (.iload_n 2, 1) := by decide +kernel
theorem dX7_both_65 : decode cX7_both 65 = .ok (.iload_n 3, 1) := by decide +kernel
theorem dX7_both_66 : decode cX7_both 66 = .ok (.iload 4, 2) := by decide +kernel
theorem dX7_both_68 : decode cX7_both 68 = .ok (.iload 6, 2) := by decide +kernel
theorem dX7_both_70 : decode cX7_both 70 = .ok (.invokevirtual 146, 3) := by decide +kernel
theorem dX7_both_73 : decode cX7_both 73 = .ok (.iaload, 1) := by decide +kernel
theorem dX7_both_74 : decode cX7_both 74 = .ok (.aload_n 0, 1) := by decide +kernel
theorem dX7_both_75 : decode cX7_both 75 = .ok (.getfield 49, 3) := by decide +kernel
theorem dX7_both_78 : decode cX7_both 78 = .ok (.aload_n 0, 1) := by decide +kernel
theorem dX7_both_79 : decode cX7_both 79 = .ok (.iload_n 1, 1) := by decide +kernel
theorem dX7_both_80 : decode cX7_both 80 = .ok (.iload_n 2, 1) := by decide +kernel
theorem dX7_both_81 : decode cX7_both 81 = .ok (.iload_n 3, 1) := by decide +kernel
theorem dX7_both_82 : decode cX7_both 82 = .ok (.iload 6, 2) := by decide +kernel
theorem dX7_both_84 : decode cX7_both 84 = .ok (.iadd, 1) := by decide +kernel
theorem dX7_both_85 : decode cX7_both 85 = .ok (.aload_n 0, 1) := by decide +kernel
theorem dX7_both_86 : decode cX7_both 86 = .ok (.getfield 116, 3) := by decide +kernel
theorem dX7_both_89 : decode cX7_both 89 = .ok (.iadd, 1) := by decide +kernel
theorem dX7_both_90 : decode cX7_both 90 = .ok (.iload 4, 2) := by decide +kernel
theorem dX7_both_92 : decode cX7_both 92 = .ok (.iload 5, 2) := by decide +kernel
theorem dX7_both_94 : decode cX7_both 94 = .ok (.iload 6, 2) := by decide +kernel
theorem dX7_both_96 : decode cX7_both 96 = .ok (.isub, 1) := by decide +kernel
theorem dX7_both_97 : decode cX7_both 97 = .ok (.aload_n 0, 1) := by decide +kernel
theorem dX7_both_98 : decode cX7_both 98 = .ok (.getfield 116, 3) := by decide +kernel
theorem dX7_both_101 : decode cX7_both 101 = .ok (.isub, 1) := by decide +kernel
theorem dX7_both_102 : decode cX7_both 102 = .ok (.invokevirtual 146, 3) := by decide +kernel
theorem dX7_both_105 : decode cX7_both 105 = .ok (.iaload, 1) := by decide +kernel
theorem dX7_both_106 : decode cX7_both 106 = .ok (.iadd, 1) := by decide +kernel
theorem dX7_both_107 : decode cX7_both 107 = .ok (.ireturn, 1) := by decide +kernel
set_option maxRecDepth 100000 in
theorem ggX7_work_X7_workPart : GoodIn wsX7_work wsX7_workPart := goodIn_r _ [8, 9, 10, 11, 12, 13, 14, 7, 15, 16, 17, 18, 19, 20, 21, 22, 23, 24, 25, 26, 27, 28, 29, 30, 31, 32, 33, 34, 35, 36, 37, 38, 39, 40, 41, 42, 43, 44, 45, 46, 47, 78, 79, 80, 81, 82, 83, 84, 85, 86, 87, 88, 89, 90, 91, 92, 93, 94, 95, 96, 97, 98, 99, 100, 101, 102, 103, 104, 105, 106, 107, 108, 109, 110, 111, 112, 113, 114, 115, 116, 117, 118, 119, 120, 121, 122, 123, 124] rfl (by decide +kernel)
set_option maxRecDepth 100000 in
theorem gX7_work_X7_workPart : GoodIn wsX7_work (wsV RX7 150 RX7 yX7_workPart wsX7_workPart) := goodIn_app (goodIn_of _ (by decide +kernel)) ggX7_work_X7_workPart
set_option maxRecDepth 100000 in
theorem ggX7_work_X7_layPlan : GoodIn wsX7_work wsX7_layPlan := goodIn_r _ [51, 52, 53, 54, 2, 3, 55, 56, 57, 58, 7, 59, 60, 61, 62, 63, 11, 10, 64, 65, 66, 67, 68, 69, 43, 44, 45, 46, 47, 70, 71, 72, 73, 16, 17, 74, 75, 76, 77, 25, 26, 27, 28, 29, 30, 31, 32, 33, 18, 19, 20, 21, 22, 23, 24, 34, 35, 36, 37, 38, 39, 40, 41, 42, 78, 79, 80, 81, 82, 83, 84, 85, 86, 87, 88, 89, 90, 91, 92, 93, 94, 95, 96, 97, 98, 99, 100, 101, 102, 103, 104, 105, 106, 107, 108, 109, 110, 111, 112, 113, 114, 115, 116, 117, 118, 119, 120, 121, 122, 123, 124] rfl (by decide +kernel)
set_option maxRecDepth 100000 in
theorem gX7_work_X7_layPlan : GoodIn wsX7_work (wsV RX7 154 RX7 yX7_layPlan wsX7_layPlan) := goodIn_app (goodIn_of _ (by decide +kernel)) ggX7_work_X7_layPlan
theorem dX7_work_0 : decode cX7_work 0 = .ok (.aload_n 0, 1) := by decide +kernel
theorem dX7_work_1 : decode cX7_work 1 = .ok (.getfield 125, 3) := by decide +kernel
theorem dX7_work_4 : decode cX7_work 4 = .ok (.ifCond .eq 4, 3) := by decide +kernel
theorem dX7_work_7 : decode cX7_work 7 = .ok (.return_, 1) := by decide +kernel
theorem dX7_work_8 : decode cX7_work 8 = .ok (.aload_n 0, 1) := by decide +kernel
theorem dX7_work_9 : decode cX7_work 9 = .ok (.iconst 1, 1) := by decide +kernel
theorem dX7_work_10 : decode cX7_work 10 = .ok (.putfield 125, 3) := by decide +kernel
theorem dX7_work_13 : decode cX7_work 13 = .ok (.iconst 1, 1) := by decide +kernel
theorem dX7_work_14 : decode cX7_work 14 = .ok (.istore_n 1, 1) := by decide +kernel
theorem dX7_work_15 : decode cX7_work 15 = .ok (.iload_n 1, 1) := by decide +kernel
theorem dX7_work_16 : decode cX7_work 16 = .ok (.aload_n 0, 1) := by decide +kernel
theorem dX7_work_17 : decode cX7_work 17 = .ok (.getfield 7, 3) := by decide +kernel
theorem dX7_work_20 : decode cX7_work 20 = .ok (.if_icmp .gt 72, 3) := by decide +kernel
theorem dX7_work_23 : decode cX7_work 23 = .ok (.iconst 1, 1) := by decide +kernel
theorem dX7_work_24 : decode cX7_work 24 = .ok (.istore_n 2, 1) := by decide +kernel
theorem dX7_work_25 : decode cX7_work 25 = .ok (.iload_n 2, 1) := by decide +kernel
theorem dX7_work_26 : decode cX7_work 26 = .ok (.aload_n 0, 1) := by decide +kernel
theorem dX7_work_27 : decode cX7_work 27 = .ok (.getfield 13, 3) := by decide +kernel
theorem dX7_work_30 : decode cX7_work 30 = .ok (.if_icmp .gt 56, 3) := by decide +kernel
theorem dX7_work_33 : decode cX7_work 33 = .ok (.iconst 0, 1) := by decide +kernel
theorem dX7_work_34 : decode cX7_work 34 = .ok (.istore_n 3, 1) := by decide +kernel
theorem dX7_work_35 : decode cX7_work 35 = .ok (.iload_n 3, 1) := by decide +kernel
theorem dX7_work_36 : decode cX7_work 36 = .ok (.iload_n 1, 1) := by decide +kernel
theorem dX7_work_37 : decode cX7_work 37 = .ok (.iadd, 1) := by decide +kernel
theorem dX7_work_38 : decode cX7_work 38 = .ok (.aload_n 0, 1) := by decide +kernel
theorem dX7_work_39 : decode cX7_work 39 = .ok (.getfield 7, 3) := by decide +kernel
theorem dX7_work_42 : decode cX7_work 42 = .ok (.if_icmp .gt 38, 3) := by decide +kernel
theorem dX7_work_45 : decode cX7_work 45 = .ok (.iconst 0, 1) := by decide +kernel
theorem dX7_work_46 : decode cX7_work 46 = .ok (.istore 4, 2) := by decide +kernel
theorem dX7_work_48 : decode cX7_work 48 = .ok (.iload 4, 2) := by decide +kernel
theorem dX7_work_50 : decode cX7_work 50 = .ok (.iload_n 2, 1) := by decide +kernel
theorem dX7_work_51 : decode cX7_work 51 = .ok (.iadd, 1) := by decide +kernel
theorem dX7_work_52 : decode cX7_work 52 = .ok (.aload_n 0, 1) := by decide +kernel
theorem dX7_work_53 : decode cX7_work 53 = .ok (.getfield 13, 3) := by decide +kernel
theorem dX7_work_56 : decode cX7_work 56 = .ok (.if_icmp .gt 18, 3) := by decide +kernel
theorem dX7_work_59 : decode cX7_work 59 = .ok (.aload_n 0, 1) := by decide +kernel
theorem dX7_work_60 : decode cX7_work 60 = .ok (.iload_n 3, 1) := by decide +kernel
theorem dX7_work_61 : decode cX7_work 61 = .ok (.iload 4, 2) := by decide +kernel
theorem dX7_work_63 : decode cX7_work 63 = .ok (.iload_n 1, 1) := by decide +kernel
theorem dX7_work_64 : decode cX7_work 64 = .ok (.iload_n 2, 1) := by decide +kernel
theorem dX7_work_65 : decode cX7_work 65 = .ok (.invokevirtual 150, 3) := by decide +kernel
theorem dX7_work_68 : decode cX7_work 68 = .ok (.iinc 4 1, 3) := by decide +kernel
theorem dX7_work_71 : decode cX7_work 71 = .ok (.goto (-23), 3) := by decide +kernel
theorem dX7_work_74 : decode cX7_work 74 = .ok (.iinc 3 1, 3) := by decide +kernel
theorem dX7_work_77 : decode cX7_work 77 = .ok (.goto (-42), 3) := by decide +kernel
theorem dX7_work_80 : decode cX7_work 80 = .ok (.iinc 2 1, 3) := by decide +kernel
theorem dX7_work_83 : decode cX7_work 83 = .ok (.goto (-58), 3) := by decide +kernel
theorem dX7_work_86 : decode cX7_work 86 = .ok (.iinc 1 1, 3) := by decide +kernel
theorem dX7_work_89 : decode cX7_work 89 = .ok (.goto (-74), 3) := by decide +kernel
theorem dX7_work_92 : decode cX7_work 92 = .ok (.aload_n 0, 1) := by decide +kernel
theorem dX7_work_93 : decode cX7_work 93 = .ok (.invokevirtual 154, 3) := by decide +kernel
theorem dX7_work_96 : decode cX7_work 96 = .ok (.return_, 1) := by decide +kernel
set_option maxRecDepth 100000 in
theorem ggX7_workPart_X7_bestPiece : GoodIn wsX7_workPart wsX7_bestPiece := goodIn_r _ [8, 9, 10, 11, 12, 13, 7, 14, 15, 16, 17, 18, 19, 20, 21, 22, 23, 24, 25, 26, 41, 42, 43, 44, 45, 46, 47, 48, 49, 50, 51, 52, 53, 54, 55, 56, 57, 58, 59, 60, 61, 62, 63, 64, 65, 66, 67, 68, 69, 70, 71, 72, 73, 74, 75, 76, 77, 78, 79, 80, 81, 82, 83, 84, 85, 86, 87] rfl (by decide +kernel)
set_option maxRecDepth 100000 in
theorem gX7_workPart_X7_bestPiece : GoodIn wsX7_workPart (wsV RX7 157 RX7 yX7_bestPiece wsX7_bestPiece) := goodIn_app (goodIn_of _ (by decide +kernel)) ggX7_workPart_X7_bestPiece
set_option maxRecDepth 100000 in
theorem ggX7_workPart_X7_wayOf : GoodIn wsX7_workPart wsX7_wayOf := goodIn_r _ [30, 31, 41, 42, 43, 44, 45, 46, 47, 48, 49, 50, 51, 52, 53, 54, 55, 56, 57, 58, 59, 60, 61, 62, 63, 64, 65, 66, 67, 68, 69, 70, 71, 72, 73, 74, 75, 76, 77, 78, 79, 80, 81, 82, 83, 84, 85, 86, 87] rfl (by decide +kernel)
set_option maxRecDepth 100000 in
theorem gX7_workPart_X7_wayOf : GoodIn wsX7_workPart (wsV RX7 142 RX7 yX7_wayOf wsX7_wayOf) := goodIn_app (goodIn_of _ (by decide +kernel)) ggX7_workPart_X7_wayOf
set_option maxRecDepth 100000 in
theorem ggX7_workPart_X7_both : GoodIn wsX7_workPart wsX7_both := goodIn_r _ [35, 3, 2, 27, 28, 29, 7, 30, 31, 36, 37, 38, 39, 40, 41, 42, 43, 44, 45, 46, 47, 48, 49, 50, 51, 52, 53, 54, 55, 56, 57, 58, 59, 60, 61, 62, 63, 64, 65, 66, 67, 68, 69, 70, 71, 72, 73, 74, 75, 76, 77, 78, 79, 80, 81, 82, 83, 84, 85, 86, 87] rfl (by decide +kernel)
set_option maxRecDepth 100000 in
theorem gX7_workPart_X7_both : GoodIn wsX7_workPart (wsV RX7 161 RX7 yX7_both wsX7_both) := goodIn_app (goodIn_of _ (by decide +kernel)) ggX7_workPart_X7_both
set_option maxRecDepth 100000 in
theorem ggX7_workPart_X7_at : GoodIn wsX7_workPart wsX7_at := goodIn_r _ [39, 40, 41, 42, 43, 44, 45, 46, 47, 48, 49, 50, 51, 52, 53, 54, 55, 56, 57, 58, 59, 60, 61, 62, 63, 64, 65, 66, 67, 68, 69, 70, 71, 72, 73, 74, 75, 76, 77, 78, 79, 80, 81, 82, 83, 84, 85, 86, 87] rfl (by decide +kernel)
set_option maxRecDepth 100000 in
theorem gX7_workPart_X7_at : GoodIn wsX7_workPart (wsV RX7 146 RX7 yX7_at wsX7_at) := goodIn_app (goodIn_of _ (by decide +kernel)) ggX7_workPart_X7_at
theorem dX7_workPart_0 : decode cX7_workPart 0 = .ok (.aload_n 0, 1) := by decide +kernel
theorem dX7_workPart_1 : decode cX7_workPart 1 = .ok (.iload_n 1, 1) := by decide +kernel
theorem dX7_workPart_2 : decode cX7_workPart 2 = .ok (.iload_n 2, 1) := by decide +kernel
theorem dX7_workPart_3 : decode cX7_workPart 3 = .ok (.iload_n 3, 1) := by decide +kernel
theorem dX7_workPart_4 : decode cX7_workPart 4 = .ok (.iload 4, 2) := by decide +kernel
theorem dX7_workPart_6 : decode cX7_workPart 6 = .ok (.invokevirtual 157, 3) := by decide +kernel
theorem dX7_workPart_9 : decode cX7_workPart 9 = .ok (.istore 5, 2) := by decide +kernel
theorem dX7_workPart_11 : decode cX7_workPart 11 = .ok (.aload_n 0, 1) := by decide +kernel
theorem dX7_workPart_12 : decode cX7_workPart 12 = .ok (.getfield 16, 3) := by decide +kernel
theorem dX7_workPart_15 : decode cX7_workPart 15 = .ok (.istore 6, 2) := by decide +kernel
theorem dX7_workPart_17 : decode cX7_workPart 17 = .ok (.iload 6, 2) := by decide +kernel
theorem dX7_workPart_19 : decode cX7_workPart 19 = .ok (.ifCond .le 145, 3) := by decide +kernel
theorem dX7_workPart_22 : decode cX7_workPart 22 = .ok (.iload 5, 2) := by decide +kernel
theorem dX7_workPart_24 : decode cX7_workPart 24 = .ok (.istore 7, 2) := by decide +kernel
theorem dX7_workPart_26 : decode cX7_workPart 26 = .ok (.aload_n 0, 1) := by decide +kernel
theorem dX7_workPart_27 : decode cX7_workPart 27 = .ok (.iload 6, 2) := by decide +kernel
theorem dX7_workPart_29 : decode cX7_workPart 29 = .ok (.invokevirtual 142, 3) := by decide +kernel
theorem dX7_workPart_32 : decode cX7_workPart 32 = .ok (.ifCond .ne 7, 3) := by decide +kernel
theorem dX7_workPart_35 : decode cX7_workPart 35 = .ok (.iload_n 3, 1) := by decide +kernel
theorem dX7_workPart_36 : decode cX7_workPart 36 = .ok (.goto 5, 3) := by decide +kernel
theorem dX7_workPart_39 : decode cX7_workPart 39 = .ok (.iload 4, 2) := by decide +kernel
theorem dX7_workPart_41 : decode cX7_workPart 41 = .ok (.istore 8, 2) := by decide +kernel
theorem dX7_workPart_43 : decode cX7_workPart 43 = .ok (.iconst 1, 1) := by decide +kernel
theorem dX7_workPart_44 : decode cX7_workPart 44 = .ok (.istore 9, 2) := by decide +kernel
theorem dX7_workPart_46 : decode cX7_workPart 46 = .ok (.iload 9, 2) := by decide +kernel
theorem dX7_workPart_48 : decode cX7_workPart 48 = .ok (.aload_n 0, 1) := by decide +kernel
theorem dX7_workPart_49 : decode cX7_workPart 49 = .ok (.getfield 116, 3) := by decide +kernel
theorem dX7_workPart_52 : decode cX7_workPart 52 = .ok (.iadd, 1) := by decide +kernel
theorem dX7_workPart_53 : decode cX7_workPart 53 = .ok (.iload 8, 2) := by decide +kernel
theorem dX7_workPart_55 : decode cX7_workPart 55 = .ok (.if_icmp .ge 40, 3) := by decide +kernel
theorem dX7_workPart_58 : decode cX7_workPart 58 = .ok (.aload_n 0, 1) := by decide +kernel
theorem dX7_workPart_59 : decode cX7_workPart 59 = .ok (.iload 6, 2) := by decide +kernel
theorem dX7_workPart_61 : decode cX7_workPart 61 = .ok (.iload_n 1, 1) := by decide +kernel
theorem dX7_workPart_62 : decode cX7_workPart 62 = .ok (.iload_n 2, 1) := by decide +kernel
theorem dX7_workPart_63 : decode cX7_workPart 63 = .ok (.iload_n 3, 1) := by decide +kernel
theorem dX7_workPart_64 : decode cX7_workPart 64 = .ok (.iload 4, 2) := by decide +kernel
theorem dX7_workPart_66 : decode cX7_workPart 66 = .ok (.iload 9, 2) := by decide +kernel
theorem dX7_workPart_68 : decode cX7_workPart 68 = .ok (.invokevirtual 161, 3) := by decide +kernel
theorem dX7_workPart_71 : decode cX7_workPart 71 = .ok (.istore 10, 2) := by decide +kernel
theorem dX7_workPart_73 : decode cX7_workPart 73 = .ok (.iload 10, 2) := by decide +kernel
theorem dX7_workPart_75 : decode cX7_workPart 75 = .ok (.iload 7, 2) := by decide +kernel
theorem dX7_workPart_77 : decode cX7_workPart 77 = .ok (.if_icmp .le 8, 3) := by decide +kernel
theorem dX7_workPart_80 : decode cX7_workPart 80 = .ok (.iload 10, 2) := by decide +kernel
theorem dX7_workPart_82 : decode cX7_workPart 82 = .ok (.goto 5, 3) := by decide +kernel
theorem dX7_workPart_85 : decode cX7_workPart 85 = .ok (.iload 7, 2) := by decide +kernel
theorem dX7_workPart_87 : decode cX7_workPart 87 = .ok (.istore 7, 2) := by decide +kernel
theorem dX7_workPart_89 : decode cX7_workPart 89 = .ok (.iinc 9 1, 3) := by decide +kernel
theorem dX7_workPart_92 : decode cX7_workPart 92 = .ok (.goto (-46), 3) := by decide +kernel
theorem dX7_workPart_95 : decode cX7_workPart 95 = .ok (.iload 6, 2) := by decide +kernel
theorem dX7_workPart_97 : decode cX7_workPart 97 = .ok (.aload_n 0, 1) := by decide +kernel
theorem dX7_workPart_98 : decode cX7_workPart 98 = .ok (.getfield 16, 3) := by decide +kernel
theorem dX7_workPart_101 : decode cX7_workPart 101 = .ok (.if_icmp .ge 39, 3) := by decide +kernel
theorem dX7_workPart_104 : decode cX7_workPart 104 = .ok (.aload_n 0, 1) := by decide +kernel
theorem dX7_workPart_105 : decode cX7_workPart 105 = .ok (.getfield 49, 3) := by decide +kernel
theorem dX7_workPart_108 : decode cX7_workPart 108 = .ok (.aload_n 0, 1) := by decide +kernel
theorem dX7_workPart_109 : decode cX7_workPart 109 = .ok (.iload 6, 2) := by decide +kernel
theorem dX7_workPart_111 : decode cX7_workPart 111 = .ok (.iconst 1, 1) := by decide +kernel
theorem dX7_workPart_112 : decode cX7_workPart 112 = .ok (.iadd, 1) := by decide +kernel
theorem dX7_workPart_113 : decode cX7_workPart 113 = .ok (.iload_n 1, 1) := by decide +kernel
theorem dX7_workPart_114 : decode cX7_workPart 114 = .ok (.iload_n 2, 1) := by decide +kernel
theorem dX7_workPart_115 : decode cX7_workPart 115 = .ok (.iload_n 3, 1) := by decide +kernel
theorem dX7_workPart_116 : decode cX7_workPart 116 = .ok (.iload 4, 2) := by decide +kernel
theorem dX7_workPart_118 : decode cX7_workPart 118 = .ok (.invokevirtual 146, 3) := by decide +kernel
theorem dX7_workPart_121 : decode cX7_workPart 121 = .ok (.iaload, 1) := by decide +kernel
theorem dX7_workPart_122 : decode cX7_workPart 122 = .ok (.istore 9, 2) := by decide +kernel
theorem dX7_workPart_124 : decode cX7_workPart 124 = .ok (.iload 9, 2) := by decide +kernel
theorem dX7_workPart_126 : decode cX7_workPart 126 = .ok (.iload 7, 2) := by decide +kernel
theorem dX7_workPart_128 : decode cX7_workPart 128 = .ok (.if_icmp .le 8, 3) := by decide +kernel
theorem dX7_workPart_131 : decode cX7_workPart 131 = .ok (.iload 9, 2) := by decide +kernel
theorem dX7_workPart_133 : decode cX7_workPart 133 = .ok (.goto 5, 3) := by decide +kernel
theorem dX7_workPart_136 : decode cX7_workPart 136 = .ok (.iload 7, 2) := by decide +kernel
theorem dX7_workPart_138 : decode cX7_workPart 138 = .ok (.istore 7, 2) := by decide +kernel
theorem dX7_workPart_140 : decode cX7_workPart 140 = .ok (.aload_n 0, 1) := by decide +kernel
theorem dX7_workPart_141 : decode cX7_workPart 141 = .ok (.getfield 49, 3) := by decide +kernel
theorem dX7_workPart_144 : decode cX7_workPart 144 = .ok (.aload_n 0, 1) := by decide +kernel
theorem dX7_workPart_145 : decode cX7_workPart 145 = .ok (.iload 6, 2) := by decide +kernel
theorem dX7_workPart_147 : decode cX7_workPart 147 = .ok (.iload_n 1, 1) := by decide +kernel
theorem dX7_workPart_148 : decode cX7_workPart 148 = .ok (.iload_n 2, 1) := by decide +kernel
theorem dX7_workPart_149 : decode cX7_workPart 149 = .ok (.iload_n 3, 1) := by decide +kernel
theorem dX7_workPart_150 : decode cX7_workPart 150 = .ok (.iload 4, 2) := by decide +kernel
theorem dX7_workPart_152 : decode cX7_workPart 152 = .ok (.invokevirtual 146, 3) := by decide +kernel
theorem dX7_workPart_155 : decode cX7_workPart 155 = .ok (.iload 7, 2) := by decide +kernel
theorem dX7_workPart_157 : decode cX7_workPart 157 = .ok (.iastore, 1) := by decide +kernel
theorem dX7_workPart_158 : decode cX7_workPart 158 = .ok (.iinc 6 (-1), 3) := by decide +kernel
theorem dX7_workPart_161 : decode cX7_workPart 161 = .ok (.goto (-144), 3) := by decide +kernel
theorem dX7_workPart_164 : decode cX7_workPart 164 = .ok (.return_, 1) := by decide +kernel
theorem dX7_lay_0 : decode cX7_lay 0 = .ok (.aload_n 0, 1) := by decide +kernel
theorem dX7_lay_1 : decode cX7_lay 1 = .ok (.getfield 82, 3) := by decide +kernel
theorem dX7_lay_4 : decode cX7_lay 4 = .ok (.aload_n 0, 1) := by decide +kernel
theorem dX7_lay_5 : decode cX7_lay 5 = .ok (.getfield 165, 3) := by decide +kernel
theorem dX7_lay_8 : decode cX7_lay 8 = .ok (.iload_n 1, 1) := by decide +kernel
theorem dX7_lay_9 : decode cX7_lay 9 = .ok (.iastore, 1) := by decide +kernel
theorem dX7_lay_10 : decode cX7_lay 10 = .ok (.aload_n 0, 1) := by decide +kernel
theorem dX7_lay_11 : decode cX7_lay 11 = .ok (.getfield 82, 3) := by decide +kernel
theorem dX7_lay_14 : decode cX7_lay 14 = .ok (.aload_n 0, 1) := by decide +kernel
theorem dX7_lay_15 : decode cX7_lay 15 = .ok (.getfield 165, 3) := by decide +kernel
theorem dX7_lay_18 : decode cX7_lay 18 = .ok (.iconst 1, 1) := by decide +kernel
theorem dX7_lay_19 : decode cX7_lay 19 = .ok (.iadd, 1) := by decide +kernel
theorem dX7_lay_20 : decode cX7_lay 20 = .ok (.iload_n 2, 1) := by decide +kernel
theorem dX7_lay_21 : decode cX7_lay 21 = .ok (.iastore, 1) := by decide +kernel
theorem dX7_lay_22 : decode cX7_lay 22 = .ok (.aload_n 0, 1) := by decide +kernel
theorem dX7_lay_23 : decode cX7_lay 23 = .ok (.getfield 82, 3) := by decide +kernel
theorem dX7_lay_26 : decode cX7_lay 26 = .ok (.aload_n 0, 1) := by decide +kernel
theorem dX7_lay_27 : decode cX7_lay 27 = .ok (.getfield 165, 3) := by decide +kernel
theorem dX7_lay_30 : decode cX7_lay 30 = .ok (.iconst 2, 1) := by decide +kernel
theorem dX7_lay_31 : decode cX7_lay 31 = .ok (.iadd, 1) := by decide +kernel
theorem dX7_lay_32 : decode cX7_lay 32 = .ok (.iload_n 3, 1) := by decide +kernel
theorem dX7_lay_33 : decode cX7_lay 33 = .ok (.iastore, 1) := by decide +kernel
theorem dX7_lay_34 : decode cX7_lay 34 = .ok (.aload_n 0, 1) := by decide +kernel
theorem dX7_lay_35 : decode cX7_lay 35 = .ok (.getfield 82, 3) := by decide +kernel
theorem dX7_lay_38 : decode cX7_lay 38 = .ok (.aload_n 0, 1) := by decide +kernel
theorem dX7_lay_39 : decode cX7_lay 39 = .ok (.getfield 165, 3) := by decide +kernel
theorem dX7_lay_42 : decode cX7_lay 42 = .ok (.iconst 3, 1) := by decide +kernel
theorem dX7_lay_43 : decode cX7_lay 43 = .ok (.iadd, 1) := by decide +kernel
theorem dX7_lay_44 : decode cX7_lay 44 = .ok (.iload 4, 2) := by decide +kernel
theorem dX7_lay_46 : decode cX7_lay 46 = .ok (.iastore, 1) := by decide +kernel
theorem dX7_lay_47 : decode cX7_lay 47 = .ok (.aload_n 0, 1) := by decide +kernel
theorem dX7_lay_48 : decode cX7_lay 48 = .ok (.getfield 82, 3) := by decide +kernel
theorem dX7_lay_51 : decode cX7_lay 51 = .ok (.aload_n 0, 1) := by decide +kernel
theorem dX7_lay_52 : decode cX7_lay 52 = .ok (.getfield 165, 3) := by decide +kernel
theorem dX7_lay_55 : decode cX7_lay 55 = .ok (.iconst 4, 1) := by decide +kernel
theorem dX7_lay_56 : decode cX7_lay 56 = .ok (.iadd, 1) := by decide +kernel
theorem dX7_lay_57 : decode cX7_lay 57 = .ok (.iload 5, 2) := by decide +kernel
theorem dX7_lay_59 : decode cX7_lay 59 = .ok (.iastore, 1) := by decide +kernel
theorem dX7_lay_60 : decode cX7_lay 60 = .ok (.aload_n 0, 1) := by decide +kernel
theorem dX7_lay_61 : decode cX7_lay 61 = .ok (.dup, 1) := by decide +kernel
theorem dX7_lay_62 : decode cX7_lay 62 = .ok (.getfield 165, 3) := by decide +kernel
theorem dX7_lay_65 : decode cX7_lay 65 = .ok (.iconst 5, 1) := by decide +kernel
theorem dX7_lay_66 : decode cX7_lay 66 = .ok (.iadd, 1) := by decide +kernel
theorem dX7_lay_67 : decode cX7_lay 67 = .ok (.putfield 165, 3) := by decide +kernel
theorem dX7_lay_70 : decode cX7_lay 70 = .ok (.return_, 1) := by decide +kernel
set_option maxRecDepth 100000 in
theorem ggX7_layPlan_X7_lay : GoodIn wsX7_layPlan wsX7_lay := goodIn_r _ [11, 6, 3, 64, 65, 66, 67, 68, 69, 70, 71, 72, 73, 74, 75, 76, 77, 78, 79, 80, 81, 82, 83, 84, 85, 86, 87, 88, 89, 90, 91, 92, 93, 94, 95, 96, 97, 98, 99, 100, 101, 102, 103, 104, 105, 106, 107, 108, 109, 110] rfl (by decide +kernel)
set_option maxRecDepth 100000 in
theorem gX7_layPlan_X7_lay : GoodIn wsX7_layPlan (wsV RX7 174 RX7 yX7_lay wsX7_lay) := goodIn_app (goodIn_of _ (by decide +kernel)) ggX7_layPlan_X7_lay
set_option maxRecDepth 100000 in
theorem ggX7_layPlan_X7_layPart : GoodIn wsX7_layPlan wsX7_layPart := goodIn_r _ [15, 16, 17, 18, 2, 19, 20, 21, 22, 23, 24, 25, 26, 10, 27, 28, 29, 30, 31, 32, 33, 34, 35, 1, 36, 37, 38, 39, 40, 41, 42, 43, 44, 45, 46, 47, 48, 49, 50, 51, 52, 53, 54, 55, 56, 57, 58, 59, 60, 61, 62, 63, 7, 8, 9, 11, 6, 3, 64, 65, 66, 67, 68, 69, 70, 71, 72, 73, 74, 75, 76, 77, 78, 79, 80, 81, 82, 83, 84, 85, 86, 87, 88, 89, 90, 91, 92, 93, 94, 95, 96, 97, 98, 99, 100, 101, 102, 103, 104, 105, 106, 107, 108, 109, 110] rfl (by decide +kernel)
set_option maxRecDepth 100000 in
theorem gX7_layPlan_X7_layPart : GoodIn wsX7_layPlan (wsV RX7 178 RX7 yX7_layPart wsX7_layPart) := goodIn_app (goodIn_of _ (by decide +kernel)) ggX7_layPlan_X7_layPart
theorem dX7_layPlan_0 : decode cX7_layPlan 0 = .ok (.aload_n 0, 1) := by decide +kernel
theorem dX7_layPlan_1 : decode cX7_layPlan 1 = .ok (.iconst 0, 1) := by decide +kernel
theorem dX7_layPlan_2 : decode cX7_layPlan 2 = .ok (.putfield 168, 3) := by decide +kernel
theorem dX7_layPlan_5 : decode cX7_layPlan 5 = .ok (.aload_n 0, 1) := by decide +kernel
theorem dX7_layPlan_6 : decode cX7_layPlan 6 = .ok (.iconst 0, 1) := by decide +kernel
theorem dX7_layPlan_7 : decode cX7_layPlan 7 = .ok (.putfield 171, 3) := by decide +kernel
theorem dX7_layPlan_10 : decode cX7_layPlan 10 = .ok (.aload_n 0, 1) := by decide +kernel
theorem dX7_layPlan_11 : decode cX7_layPlan 11 = .ok (.iconst 0, 1) := by decide +kernel
theorem dX7_layPlan_12 : decode cX7_layPlan 12 = .ok (.putfield 165, 3) := by decide +kernel
theorem dX7_layPlan_15 : decode cX7_layPlan 15 = .ok (.aload_n 0, 1) := by decide +kernel
theorem dX7_layPlan_16 : decode cX7_layPlan 16 = .ok (.iconst 1, 1) := by decide +kernel
theorem dX7_layPlan_17 : decode cX7_layPlan 17 = .ok (.iconst 0, 1) := by decide +kernel
theorem dX7_layPlan_18 : decode cX7_layPlan 18 = .ok (.iconst 0, 1) := by decide +kernel
theorem dX7_layPlan_19 : decode cX7_layPlan 19 = .ok (.aload_n 0, 1) := by decide +kernel
theorem dX7_layPlan_20 : decode cX7_layPlan 20 = .ok (.getfield 7, 3) := by decide +kernel
theorem dX7_layPlan_23 : decode cX7_layPlan 23 = .ok (.aload_n 0, 1) := by decide +kernel
theorem dX7_layPlan_24 : decode cX7_layPlan 24 = .ok (.getfield 13, 3) := by decide +kernel
theorem dX7_layPlan_27 : decode cX7_layPlan 27 = .ok (.invokevirtual 174, 3) := by decide +kernel
theorem dX7_layPlan_30 : decode cX7_layPlan 30 = .ok (.aload_n 0, 1) := by decide +kernel
theorem dX7_layPlan_31 : decode cX7_layPlan 31 = .ok (.getfield 165, 3) := by decide +kernel
theorem dX7_layPlan_34 : decode cX7_layPlan 34 = .ok (.ifCond .le 73, 3) := by decide +kernel
theorem dX7_layPlan_37 : decode cX7_layPlan 37 = .ok (.aload_n 0, 1) := by decide +kernel
theorem dX7_layPlan_38 : decode cX7_layPlan 38 = .ok (.dup, 1) := by decide +kernel
theorem dX7_layPlan_39 : decode cX7_layPlan 39 = .ok (.getfield 165, 3) := by decide +kernel
theorem dX7_layPlan_42 : decode cX7_layPlan 42 = .ok (.iconst 5, 1) := by decide +kernel
theorem dX7_layPlan_43 : decode cX7_layPlan 43 = .ok (.isub, 1) := by decide +kernel
theorem dX7_layPlan_44 : decode cX7_layPlan 44 = .ok (.putfield 165, 3) := by decide +kernel
theorem dX7_layPlan_47 : decode cX7_layPlan 47 = .ok (.aload_n 0, 1) := by decide +kernel
theorem dX7_layPlan_48 : decode cX7_layPlan 48 = .ok (.aload_n 0, 1) := by decide +kernel
theorem dX7_layPlan_49 : decode cX7_layPlan 49 = .ok (.getfield 82, 3) := by decide +kernel
theorem dX7_layPlan_52 : decode cX7_layPlan 52 = .ok (.aload_n 0, 1) := by decide +kernel
theorem dX7_layPlan_53 : decode cX7_layPlan 53 = .ok (.getfield 165, 3) := by decide +kernel
theorem dX7_layPlan_56 : decode cX7_layPlan 56 = .ok (.iaload, 1) := by decide +kernel
theorem dX7_layPlan_57 : decode cX7_layPlan 57 = .ok (.aload_n 0, 1) := by decide +kernel
theorem dX7_layPlan_58 : decode cX7_layPlan 58 = .ok (.getfield 82, 3) := by decide +kernel
theorem dX7_layPlan_61 : decode cX7_layPlan 61 = .ok (.aload_n 0, 1) := by decide +kernel
theorem dX7_layPlan_62 : decode cX7_layPlan 62 = .ok (.getfield 165, 3) := by decide +kernel
theorem dX7_layPlan_65 : decode cX7_layPlan 65 = .ok (.iconst 1, 1) := by decide +kernel
theorem dX7_layPlan_66 : decode cX7_layPlan 66 = .ok (.iadd, 1) := by decide +kernel
theorem dX7_layPlan_67 : decode cX7_layPlan 67 = .ok (.iaload, 1) := by decide +kernel
theorem dX7_layPlan_68 : decode cX7_layPlan 68 = .ok (.aload_n 0, 1) := by decide +kernel
theorem dX7_layPlan_69 : decode cX7_layPlan 69 = .ok (.getfield 82, 3) := by decide +kernel
theorem dX7_layPlan_72 : decode cX7_layPlan 72 = .ok (.aload_n 0, 1) := by decide +kernel
theorem dX7_layPlan_73 : decode cX7_layPlan 73 = .ok (.getfield 165, 3) := by decide +kernel
theorem dX7_layPlan_76 : decode cX7_layPlan 76 = .ok (.iconst 2, 1) := by decide +kernel
theorem dX7_layPlan_77 : decode cX7_layPlan 77 = .ok (.iadd, 1) := by decide +kernel
theorem dX7_layPlan_78 : decode cX7_layPlan 78 = .ok (.iaload, 1) := by decide +kernel
theorem dX7_layPlan_79 : decode cX7_layPlan 79 = .ok (.aload_n 0, 1) := by decide +kernel
theorem dX7_layPlan_80 : decode cX7_layPlan 80 = .ok (.getfield 82, 3) := by decide +kernel
theorem dX7_layPlan_83 : decode cX7_layPlan 83 = .ok (.aload_n 0, 1) := by decide +kernel
theorem dX7_layPlan_84 : decode cX7_layPlan 84 = .ok (.getfield 165, 3) := by decide +kernel
theorem dX7_layPlan_87 : decode cX7_layPlan 87 = .ok (.iconst 3, 1) := by decide +kernel
theorem dX7_layPlan_88 : decode cX7_layPlan 88 = .ok (.iadd, 1) := by decide +kernel
theorem dX7_layPlan_89 : decode cX7_layPlan 89 = .ok (.iaload, 1) := by decide +kernel
theorem dX7_layPlan_90 : decode cX7_layPlan 90 = .ok (.aload_n 0, 1) := by decide +kernel
theorem dX7_layPlan_91 : decode cX7_layPlan 91 = .ok (.getfield 82, 3) := by decide +kernel
theorem dX7_layPlan_94 : decode cX7_layPlan 94 = .ok (.aload_n 0, 1) := by decide +kernel
theorem dX7_layPlan_95 : decode cX7_layPlan 95 = .ok (.getfield 165, 3) := by decide +kernel
theorem dX7_layPlan_98 : decode cX7_layPlan 98 = .ok (.iconst 4, 1) := by decide +kernel
theorem dX7_layPlan_99 : decode cX7_layPlan 99 = .ok (.iadd, 1) := by decide +kernel
theorem dX7_layPlan_100 : decode cX7_layPlan 100 = .ok (.iaload, 1) := by decide +kernel
theorem dX7_layPlan_101 : decode cX7_layPlan 101 = .ok (.invokevirtual 178, 3) := by decide +kernel
theorem dX7_layPlan_104 : decode cX7_layPlan 104 = .ok (.goto (-74), 3) := by decide +kernel
theorem dX7_layPlan_107 : decode cX7_layPlan 107 = .ok (.return_, 1) := by decide +kernel
set_option maxRecDepth 100000 in
theorem ggX7_layPart_X7_at : GoodIn wsX7_layPart wsX7_at := goodIn_r _ [14, 15, 58, 59, 60, 61, 62, 63, 64, 65, 66, 67, 68, 69, 70, 71, 72, 73, 74, 75, 76, 77, 78, 79, 80, 81, 82, 83, 84, 85, 86, 87, 88, 89, 90, 91, 92, 93, 94, 95, 96, 97, 98, 99, 100, 101, 102, 103, 104] rfl (by decide +kernel)
set_option maxRecDepth 100000 in
theorem gX7_layPart_X7_at : GoodIn wsX7_layPart (wsV RX7 146 RX7 yX7_at wsX7_at) := goodIn_app (goodIn_of _ (by decide +kernel)) ggX7_layPart_X7_at
