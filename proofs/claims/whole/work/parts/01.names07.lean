theorem dX7_work_13 : decode cX7_work 13 = .ok (.iconst 1, 1) := by decide +kernel
theorem dX7_work_14 : decode cX7_work 14 = .ok (.istore_n 1, 1) := by decide +kernel
theorem dX7_work_15 : decode cX7_work 15 = .ok (.iload_n 1, 1) := by decide +kernel
theorem dX7_work_16 : decode cX7_work 16 = .ok (.aload_n 0, 1) := by decide +kernel
theorem dX7_work_17 : decode cX7_work 17 = .ok (.getfield 7, 3) := by decide +kernel
theorem dX7_work_20 : decode cX7_work 20 = .ok (.if_icmp .gt 72, 3) := by decide +kernel
theorem dX7_work_23 : decode cX7_work 23 = .ok (.iconst 1, 1) := by decide +kernel
theorem dX7_work_24 : decode cX7_work 24 = .ok (.istore_n 2, 1) := by decide +kernel
theorem dX7_work_25 : decode cX7_work 25 = .ok (.iload_n 2, 1) := by decide +kernel
theorem dX7_work_26 : decode cX7_work 26 = .ok (.aload_n 0, 1) := by decide +kernel
theorem dX7_work_27 : decode cX7_work 27 = .ok (.getfield 13, 3) := by decide +kernel
theorem dX7_work_30 : decode cX7_work 30 = .ok (.if_icmp .gt 56, 3) := by decide +kernel
theorem dX7_work_33 : decode cX7_work 33 = .ok (.iconst 0, 1) := by decide +kernel
theorem dX7_work_34 : decode cX7_work 34 = .ok (.istore_n 3, 1) := by decide +kernel
theorem dX7_work_35 : decode cX7_work 35 = .ok (.iload_n 3, 1) := by decide +kernel
theorem dX7_work_36 : decode cX7_work 36 = .ok (.iload_n 1, 1) := by decide +kernel
theorem dX7_work_37 : decode cX7_work 37 = .ok (.iadd, 1) := by decide +kernel
theorem dX7_work_38 : decode cX7_work 38 = .ok (.aload_n 0, 1) := by decide +kernel
theorem dX7_work_39 : decode cX7_work 39 = .ok (.getfield 7, 3) := by decide +kernel
theorem dX7_work_42 : decode cX7_work 42 = .ok (.if_icmp .gt 38, 3) := by decide +kernel
theorem dX7_work_45 : decode cX7_work 45 = .ok (.iconst 0, 1) := by decide +kernel
theorem dX7_work_46 : decode cX7_work 46 = .ok (.istore 4, 2) := by decide +kernel
theorem dX7_work_48 : decode cX7_work 48 = .ok (.iload 4, 2) := by decide +kernel
theorem dX7_work_50 : decode cX7_work 50 = .ok (.iload_n 2, 1) := by decide +kernel
theorem dX7_work_51 : decode cX7_work 51 = .ok (.iadd, 1) := by decide +kernel
theorem dX7_work_52 : decode cX7_work 52 = .ok (.aload_n 0, 1) := by decide +kernel
theorem dX7_work_53 : decode cX7_work 53 = .ok (.getfield 13, 3) := by decide +kernel
theorem dX7_work_56 : decode cX7_work 56 = .ok (.if_icmp .gt 18, 3) := by decide +kernel
theorem dX7_work_59 : decode cX7_work 59 = .ok (.aload_n 0, 1) := by decide +kernel
theorem dX7_work_60 : decode cX7_work 60 = .ok (.iload_n 3, 1) := by decide +kernel
theorem dX7_work_61 : decode cX7_work 61 = .ok (.iload 4, 2) := by decide +kernel
theorem dX7_work_63 : decode cX7_work 63 = .ok (.iload_n 1, 1) := by decide +kernel
theorem dX7_work_64 : decode cX7_work 64 = .ok (.iload_n 2, 1) := by decide +kernel
theorem dX7_work_65 : decode cX7_work 65 = .ok (.invokevirtual 150, 3) := by decide +kernel
theorem dX7_work_68 : decode cX7_work 68 = .ok (.iinc 4 1, 3) := by decide +kernel
theorem dX7_work_71 : decode cX7_work 71 = .ok (.goto (-23), 3) := by decide +kernel
theorem dX7_work_74 : decode cX7_work 74 = .ok (.iinc 3 1, 3) := by decide +kernel
theorem dX7_work_77 : decode cX7_work 77 = .ok (.goto (-42), 3) := by decide +kernel
theorem dX7_work_80 : decode cX7_work 80 = .ok (.iinc 2 1, 3) := by decide +kernel
theorem dX7_work_83 : decode cX7_work 83 = .ok (.goto (-58), 3) := by decide +kernel
theorem dX7_work_86 : decode cX7_work 86 = .ok (.iinc 1 1, 3) := by decide +kernel
theorem dX7_work_89 : decode cX7_work 89 = .ok (.goto (-74), 3) := by decide +kernel
theorem dX7_work_92 : decode cX7_work 92 = .ok (.aload_n 0, 1) := by decide +kernel
theorem dX7_work_93 : decode cX7_work 93 = .ok (.invokevirtual 154, 3) := by decide +kernel
theorem dX7_work_96 : decode cX7_work 96 = .ok (.return_, 1) := by decide +kernel
set_option maxRecDepth 100000 in
theorem ggX7_workPart_X7_bestPiece : GoodIn wsX7_workPart wsX7_bestPiece := goodIn_r _ [8, 9, 10, 11, 12, 13, 7, 14, 15, 16, 17, 18, 19, 20, 21, 22, 23, 24, 25, 26, 41, 42, 43, 44, 45, 46, 47, 48, 49, 50, 51, 52, 53, 54, 55, 56, 57, 58, 59, 60, 61, 62, 63, 64, 65, 66, 67, 68, 69, 70, 71, 72, 73, 74, 75, 76, 77, 78, 79, 80, 81, 82, 83, 84, 85, 86, 87] rfl (by decide +kernel)
set_option maxRecDepth 100000 in
theorem gX7_workPart_X7_bestPiece : GoodIn wsX7_workPart (wsV RX7 157 RX7 yX7_bestPiece wsX7_bestPiece) := goodIn_app (goodIn_of _ (by decide +kernel)) ggX7_workPart_X7_bestPiece
set_option maxRecDepth 100000 in
theorem ggX7_workPart_X7_wayOf : GoodIn wsX7_workPart wsX7_wayOf := goodIn_r _ [30, 31, 41, 42, 43, 44, 45, 46, 47, 48, 49, 50, 51, 52, 53, 54, 55, 56, 57, 58, 59, 60, 61, 62, 63, 64, 65, 66, 67, 68, 69, 70, 71, 72, 73, 74, 75, 76, 77, 78, 79, 80, 81, 82, 83, 84, 85, 86, 87] rfl (by decide +kernel)
set_option maxRecDepth 100000 in
theorem gX7_workPart_X7_wayOf : GoodIn wsX7_workPart (wsV RX7 142 RX7 yX7_wayOf wsX7_wayOf) := goodIn_app (goodIn_of _ (by decide +kernel)) ggX7_workPart_X7_wayOf
set_option maxRecDepth 100000 in
theorem ggX7_workPart_X7_both : GoodIn wsX7_workPart wsX7_both := goodIn_r _ [35, 3, 2, 27, 28, 29, 7, 30, 31, 36, 37, 38, 39, 40, 41, 42, 43, 44, 45, 46, 47, 48, 49, 50, 51, 52, 53, 54, 55, 56, 57, 58, 59, 60, 61, 62, 63, 64, 65, 66, 67, 68, 69, 70, 71, 72, 73, 74, 75, 76, 77, 78, 79, 80, 81, 82, 83, 84, 85, 86, 87] rfl (by decide +kernel)
set_option maxRecDepth 100000 in
theorem gX7_workPart_X7_both : GoodIn wsX7_workPart (wsV RX7 161 RX7 yX7_both wsX7_both) := goodIn_app (goodIn_of _ (by decide +kernel)) ggX7_workPart_X7_both
set_option maxRecDepth 100000 in
theorem ggX7_workPart_X7_at : GoodIn wsX7_workPart wsX7_at := goodIn_r _ [39, 40, 41, 42, 43, 44, 45, 46, 47, 48, 49, 50, 51, 52, 53, 54, 55, 56, 57, 58, 59, 60, 61, 62, 63, 64, 65, 66, 67, 68, 69, 70, 71, 72, 73, 74, 75, 76, 77, 78, 79, 80, 81, 82, 83, 84, 85, 86, 87] rfl (by decide +kernel)
set_option maxRecDepth 100000 in
theorem gX7_workPart_X7_at : GoodIn wsX7_workPart (wsV RX7 146 RX7 yX7_at wsX7_at) := goodIn_app (goodIn_of _ (by decide +kernel)) ggX7_workPart_X7_at
theorem dX7_workPart_0 : decode cX7_workPart 0 = .ok (.aload_n 0, 1) := by decide +kernel
theorem dX7_workPart_1 : decode cX7_workPart 1 = .ok (.iload_n 1, 1) := by decide +kernel
theorem dX7_workPart_2 : decode cX7_workPart 2 = .ok (.iload_n 2, 1) := by decide +kernel
theorem dX7_workPart_3 : decode cX7_workPart 3 = .ok (.iload_n 3, 1) := by decide +kernel
theorem dX7_workPart_4 : decode cX7_workPart 4 = .ok (.iload 4, 2) := by decide +kernel
theorem dX7_workPart_6 : decode cX7_workPart 6 = .ok (.invokevirtual 157, 3) := by decide +kernel
theorem dX7_workPart_9 : decode cX7_workPart 9 = .ok (.istore 5, 2) := by decide +kernel
theorem dX7_workPart_11 : decode cX7_workPart 11 = .ok (.aload_n 0, 1) := by decide +kernel
theorem dX7_workPart_12 : decode cX7_workPart 12 = .ok (.getfield 16, 3) := by decide +kernel
theorem dX7_workPart_15 : decode cX7_workPart 15 = .ok (.istore 6, 2) := by decide +kernel
theorem dX7_workPart_17 : decode cX7_workPart 17 = .ok (.iload 6, 2) := by decide +kernel
theorem dX7_workPart_19 : decode cX7_workPart 19 = .ok (.ifCond .le 145, 3) := by decide +kernel
theorem dX7_workPart_22 : decode cX7_workPart 22 = .ok (.iload 5, 2) := by decide +kernel
theorem dX7_workPart_24 : decode cX7_workPart 24 = .ok (.istore 7, 2) := by decide +kernel
theorem dX7_workPart_26 : decode cX7_workPart 26 = .ok (.aload_n 0, 1) := by decide +kernel
theorem dX7_workPart_27 : decode cX7_workPart 27 = .ok (.iload 6, 2) := by decide +kernel
theorem dX7_workPart_29 : decode cX7_workPart 29 = .ok (.invokevirtual 142, 3) := by decide +kernel
theorem dX7_workPart_32 : decode cX7_workPart 32 = .ok (.ifCond .ne 7, 3) := by decide +kernel
theorem dX7_workPart_35 : decode cX7_workPart 35 = .ok (.iload_n 3, 1) := by decide +kernel
theorem dX7_workPart_36 : decode cX7_workPart 36 = .ok (.goto 5, 3) := by decide +kernel
theorem dX7_workPart_39 : decode cX7_workPart 39 = .ok (.iload 4, 2) := by decide +kernel
theorem dX7_workPart_41 : decode cX7_workPart 41 = .ok (.istore 8, 2) := by decide +kernel
theorem dX7_workPart_43 : decode cX7_workPart 43 = .ok (.iconst 1, 1) := by decide +kernel
theorem dX7_workPart_44 : decode cX7_workPart 44 = .ok (.istore 9, 2) := by decide +kernel
theorem dX7_workPart_46 : decode cX7_workPart 46 = .ok (.iload 9, 2) := by decide +kernel
theorem dX7_workPart_48 : decode cX7_workPart 48 = .ok (.aload_n 0, 1) := by decide +kernel
theorem dX7_workPart_49 : decode cX7_workPart 49 = .ok (.getfield 116, 3) := by decide +kernel
theorem dX7_workPart_52 : decode cX7_workPart 52 = .ok (.iadd, 1) := by decide +kernel
theorem dX7_workPart_53 : decode cX7_workPart 53 = .ok (.iload 8, 2) := by decide +kernel
theorem dX7_workPart_55 : decode cX7_workPart 55 = .ok (.if_icmp .ge 40, 3) := by decide +kernel
theorem dX7_workPart_58 : decode cX7_workPart 58 = .ok (.aload_n 0, 1) := by decide +kernel
theorem dX7_workPart_59 : decode cX7_workPart 59 = .ok (.iload 6, 2) := by decide +kernel
theorem dX7_workPart_61 : decode cX7_workPart 61 = .ok (.iload_n 1, 1) := by decide +kernel
theorem dX7_workPart_62 : decode cX7_workPart 62 = .ok (.iload_n 2, 1) := by decide +kernel
theorem dX7_workPart_63 : decode cX7_workPart 63 = .ok (.iload_n 3, 1) := by decide +kernel
theorem dX7_workPart_64 : decode cX7_workPart 64 = .ok (.iload 4, 2) := by decide +kernel
theorem dX7_workPart_66 : decode cX7_workPart 66 = .ok (.iload 9, 2) := by decide +kernel
theorem dX7_workPart_68 : decode cX7_workPart 68 = .ok (.invokevirtual 161, 3) := by decide +kernel
theorem dX7_workPart_71 : decode cX7_workPart 71 = .ok (.istore 10, 2) := by decide +kernel
theorem dX7_workPart_73 : decode cX7_workPart 73 = .ok (.iload 10, 2) := by decide +kernel
theorem dX7_workPart_75 : decode cX7_workPart 75 = .ok (.iload 7, 2) := by decide +kernel
theorem dX7_workPart_77 : decode cX7_workPart 77 = .ok (.if_icmp .le 8, 3) := by decide +kernel
theorem dX7_workPart_80 : decode cX7_workPart 80 = .ok (.iload 10, 2) := by decide +kernel
theorem dX7_workPart_82 : decode cX7_workPart 82 = .ok (.goto 5, 3) := by decide +kernel
theorem dX7_workPart_85 : decode cX7_workPart 85 = .ok (.iload 7, 2) := by decide +kernel
theorem dX7_workPart_87 : decode cX7_workPart 87 = .ok (.istore 7, 2) := by decide +kernel
theorem dX7_workPart_89 : decode cX7_workPart 89 = .ok (.iinc 9 1, 3) := by decide +kernel
theorem dX7_workPart_92 : decode cX7_workPart 92 = .ok (.goto (-46), 3) := by decide +kernel
theorem dX7_workPart_95 : decode cX7_workPart 95 = .ok (.iload 6, 2) := by decide +kernel
theorem dX7_workPart_97 : decode cX7_workPart 97 = .ok (.aload_n 0, 1) := by decide +kernel
theorem dX7_workPart_98 : decode cX7_workPart 98 = .ok (.getfield 16, 3) := by decide +kernel
theorem dX7_workPart_101 : decode cX7_workPart 101 = .ok (.if_icmp .ge 39, 3) := by decide +kernel
theorem dX7_workPart_104 : decode cX7_workPart 104 = .ok (.aload_n 0, 1) := by decide +kernel
theorem dX7_workPart_105 : decode cX7_workPart 105 = .ok (.getfield 49, 3) := by decide +kernel
theorem dX7_workPart_108 : decode cX7_workPart 108 = .ok (.aload_n 0, 1) := by decide +kernel
theorem dX7_workPart_109 : decode cX7_workPart 109 = .ok (.iload 6, 2) := by decide +kernel
theorem dX7_workPart_111 : decode cX7_workPart 111 = .ok (.iconst 1, 1) := by decide +kernel
theorem dX7_workPart_112 : decode cX7_workPart 112 = .ok (.iadd, 1) := by decide +kernel
theorem dX7_workPart_113 : decode cX7_workPart 113 = .ok (.iload_n 1, 1) := by decide +kernel
theorem dX7_workPart_114 : decode cX7_workPart 114 = .ok (.iload_n 2, 1) := by decide +kernel
theorem dX7_workPart_115 : decode cX7_workPart 115 = .ok (.iload_n 3, 1) := by decide +kernel
theorem dX7_workPart_116 : decode cX7_workPart 116 = .ok (.iload 4, 2) := by decide +kernel
theorem dX7_workPart_118 : decode cX7_workPart 118 = .ok (.invokevirtual 146, 3) := by decide +kernel
theorem dX7_workPart_121 : decode cX7_workPart 121 = .ok (.iaload, 1) := by decide +kernel
theorem dX7_workPart_122 : decode cX7_workPart 122 = .ok (.istore 9, 2) := by decide +kernel
theorem dX7_workPart_124 : decode cX7_workPart 124 = .ok (.iload 9, 2) := by decide +kernel
theorem dX7_workPart_126 : decode cX7_workPart 126 = .ok (.iload 7, 2) := by decide +kernel
theorem dX7_workPart_128 : decode cX7_workPart 128 = .ok (.if_icmp .le 8, 3) := by decide +kernel
theorem dX7_workPart_131 : decode cX7_workPart 131 = .ok (.iload 9, 2) := by decide +kernel
theorem dX7_workPart_133 : decode cX7_workPart 133 = .ok (.goto 5, 3) := by decide +kernel
theorem dX7_workPart_136 : decode cX7_workPart 136 = .ok (.iload 7, 2) := by decide +kernel
theorem dX7_workPart_138 : decode cX7_workPart 138 = .ok (.istore 7, 2) := by decide +kernel
theorem dX7_workPart_140 : decode cX7_workPart 140 = .ok (.aload_n 0, 1) := by decide +kernel
theorem dX7_workPart_141 : decode cX7_workPart 141 = .ok (.getfield 49, 3) := by decide +kernel
theorem dX7_workPart_144 : decode cX7_workPart 144 = .ok (.aload_n 0, 1) := by decide +kernel
theorem dX7_workPart_145 : decode cX7_workPart 145 = .ok (.iload 6, 2) := by decide +kernel
theorem dX7_workPart_147 : decode cX7_workPart 147 = .ok (.iload_n 1, 1) := by decide +kernel
theorem dX7_workPart_148 : decode cX7_workPart 148 = .ok (.iload_n 2, 1) := by decide +kernel
theorem dX7_workPart_149 : decode cX7_workPart 149 = .ok (.iload_n 3, 1) := by decide +kernel
theorem dX7_workPart_150 : decode cX7_workPart 150 = .ok (.iload 4, 2) := by decide +kernel
theorem dX7_workPart_152 : decode cX7_workPart 152 = .ok (.invokevirtual 146, 3) := by decide +kernel
theorem dX7_workPart_155 : decode cX7_workPart 155 = .ok (.iload 7, 2) := by decide +kernel
theorem dX7_workPart_157 : decode cX7_workPart 157 = .ok (.iastore, 1) := by decide +kernel
theorem dX7_workPart_158 : decode cX7_workPart 158 = .ok (.iinc 6 (-1), 3) := by decide +kernel
theorem dX7_workPart_161 : decode cX7_workPart 161 = .ok (.goto (-144), 3) := by decide +kernel
theorem dX7_workPart_164 : decode cX7_workPart 164 = .ok (.return_, 1) := by decide +kernel
theorem dX7_lay_0 : decode cX7_lay 0 = .ok (.aload_n 0, 1) := by decide +kernel
theorem dX7_lay_1 : decode cX7_lay 1 = .ok (.getfield 82, 3) := by decide +kernel
theorem dX7_lay_4 : decode cX7_lay 4 = .ok (.aload_n 0, 1) := by decide +kernel
theorem dX7_lay_5 : decode cX7_lay 5 = .ok (.getfield 165, 3) := by decide +kernel
theorem dX7_lay_8 : decode cX7_lay 8 = .ok (.iload_n 1, 1) := by decide +kernel
theorem dX7_lay_9 : decode cX7_lay 9 = .ok (.iastore, 1) := by decide +kernel
theorem dX7_lay_10 : decode cX7_lay 10 = .ok (.aload_n 0, 1) := by decide +kernel
theorem dX7_lay_11 : decode cX7_lay 11 = .ok (.getfield 82, 3) := by decide +kernel
theorem dX7_lay_14 : decode cX7_lay 14 = .ok (.aload_n 0, 1) := by decide +kernel
theorem dX7_lay_15 : decode cX7_lay 15 = .ok (.getfield 165, 3) := by decide +kernel
theorem dX7_lay_18 : decode cX7_lay 18 = .ok (.iconst 1, 1) := by decide +kernel
theorem dX7_lay_19 : decode cX7_lay 19 = .ok (.iadd, 1) := by decide +kernel
theorem dX7_lay_20 : decode cX7_lay 20 = .ok (.iload_n 2, 1) := by decide +kernel
theorem dX7_lay_21 : decode cX7_lay 21 = .ok (.iastore, 1) := by decide +kernel
theorem dX7_lay_22 : decode cX7_lay 22 = .ok (.aload_n 0, 1) := by decide +kernel
theorem dX7_lay_23 : decode cX7_lay 23 = .ok (.getfield 82, 3) := by decide +kernel
theorem dX7_lay_26 : decode cX7_lay 26 = .ok (.aload_n 0, 1) := by decide +kernel
theorem dX7_lay_27 : decode cX7_lay 27 = .ok (.getfield 165, 3) := by decide +kernel
theorem dX7_lay_30 : decode cX7_lay 30 = .ok (.iconst 2, 1) := by decide +kernel
theorem dX7_lay_31 : decode cX7_lay 31 = .ok (.iadd, 1) := by decide +kernel
theorem dX7_lay_32 : decode cX7_lay 32 = .ok (.iload_n 3, 1) := by decide +kernel
theorem dX7_lay_33 : decode cX7_lay 33 = .ok (.iastore, 1) := by decide +kernel
theorem dX7_lay_34 : decode cX7_lay 34 = .ok (.aload_n 0, 1) := by decide +kernel
theorem dX7_lay_35 : decode cX7_lay 35 = .ok (.getfield 82, 3) := by decide +kernel
theorem dX7_lay_38 : decode cX7_lay 38 = .ok (.aload_n 0, 1) := by decide +kernel
theorem dX7_lay_39 : decode cX7_lay 39 = .ok (.getfield 165, 3) := by decide +kernel
theorem dX7_lay_42 : decode cX7_lay 42 = .ok (.iconst 3, 1) := by decide +kernel
theorem dX7_lay_43 : decode cX7_lay 43 = .ok (.iadd, 1) := by decide +kernel
theorem dX7_lay_44 : decode cX7_lay 44 = .ok (.iload 4, 2) := by decide +kernel
theorem dX7_lay_46 : decode cX7_lay 46 = .ok (.iastore, 1) := by decide +kernel
theorem dX7_lay_47 : decode cX7_lay 47 = .ok (.aload_n 0, 1) := by decide +kernel
theorem dX7_lay_48 : decode cX7_lay 48 = .ok (.getfield 82, 3) := by decide +kernel
theorem dX7_lay_51 : decode cX7_lay 51 = .ok (.aload_n 0, 1) := by decide +kernel
theorem dX7_lay_52 : decode cX7_lay 52 = .ok (.getfield 165, 3) := by decide +kernel
theorem dX7_lay_55 : decode cX7_lay 55 = .ok (.iconst 4, 1) := by decide +kernel
theorem dX7_lay_56 : decode cX7_lay 56 = .ok (.iadd, 1) := by decide +kernel
theorem dX7_lay_57 : decode cX7_lay 57 = .ok (.iload 5, 2) := by decide +kernel
theorem dX7_lay_59 : decode cX7_lay 59 = .ok (.iastore, 1) := by decide +kernel
theorem dX7_lay_60 : decode cX7_lay 60 = .ok (.aload_n 0, 1) := by decide +kernel
theorem dX7_lay_61 : decode cX7_lay 61 = .ok (.dup, 1) := by decide +kernel
theorem dX7_lay_62 : decode cX7_lay 62 = .ok (.getfield 165, 3) := by decide +kernel
theorem dX7_lay_65 : decode cX7_lay 65 = .ok (.iconst 5, 1) := by decide +kernel
theorem dX7_lay_66 : decode cX7_lay 66 = .ok (.iadd, 1) := by decide +kernel
theorem dX7_lay_67 : decode cX7_lay 67 = .ok (.putfield 165, 3) := by decide +kernel
theorem dX7_lay_70 : decode cX7_lay 70 = .ok (.return_, 1) := by decide +kernel
set_option maxRecDepth 100000 in
theorem ggX7_layPlan_X7_lay : GoodIn wsX7_layPlan wsX7_lay := goodIn_r _ [11, 6, 3, 64, 65, 66, 67, 68, 69, 70, 71, 72, 73, 74, 75, 76, 77, 78, 79, 80, 81, 82, 83, 84, 85, 86, 87, 88, 89, 90, 91, 92, 93, 94, 95, 96, 97, 98, 99, 100, 101, 102, 103, 104, 105, 106, 107, 108, 109, 110] rfl (by decide +kernel)
set_option maxRecDepth 100000 in
theorem gX7_layPlan_X7_lay : GoodIn wsX7_layPlan (wsV RX7 174 RX7 yX7_lay wsX7_lay) := goodIn_app (goodIn_of _ (by decide +kernel)) ggX7_layPlan_X7_lay
set_option maxRecDepth 100000 in
theorem ggX7_layPlan_X7_layPart : GoodIn wsX7_layPlan wsX7_layPart := goodIn_r _ [15, 16, 17, 18, 2, 19, 20, 21, 22, 23, 24, 25, 26, 10, 27, 28, 29, 30, 31, 32, 33, 34, 35, 1, 36, 37, 38, 39, 40, 41, 42, 43, 44, 45, 46, 47, 48, 49, 50, 51, 52, 53, 54, 55, 56, 57, 58, 59, 60, 61, 62, 63, 7, 8, 9, 11, 6, 3, 64, 65, 66, 67, 68, 69, 70, 71, 72, 73, 74, 75, 76, 77, 78, 79, 80, 81, 82, 83, 84, 85, 86, 87, 88, 89, 90, 91, 92, 93, 94, 95, 96, 97, 98, 99, 100, 101, 102, 103, 104, 105, 106, 107, 108, 109, 110] rfl (by decide +kernel)
set_option maxRecDepth 100000 in
theorem gX7_layPlan_X7_layPart : GoodIn wsX7_layPlan (wsV RX7 178 RX7 yX7_layPart wsX7_layPart) := goodIn_app (goodIn_of _ (by decide +kernel)) ggX7_layPlan_X7_layPart
theorem dX7_layPlan_0 : decode cX7_layPlan 0 = .ok (.aload_n 0, 1) := by decide +kernel
theorem dX7_layPlan_1 : decode cX7_layPlan 1 = .ok (.iconst 0, 1) := by decide +kernel
theorem dX7_layPlan_2 : decode cX7_layPlan 2 = .ok (.putfield 168, 3) := by decide +kernel
theorem dX7_layPlan_5 : decode cX7_layPlan 5 = .ok (.aload_n 0, 1) := by decide +kernel
theorem dX7_layPlan_6 : decode cX7_layPlan 6 = .ok (.iconst 0, 1) := by decide +kernel
theorem dX7_layPlan_7 : decode cX7_layPlan 7 = .ok (.putfield 171, 3) := by decide +kernel
theorem dX7_layPlan_10 : decode cX7_layPlan 10 = .ok (.aload_n 0, 1) := by decide +kernel
theorem dX7_layPlan_11 : decode cX7_layPlan 11 = .ok (.iconst 0, 1) := by decide +kernel
theorem dX7_layPlan_12 : decode cX7_layPlan 12 = .ok (.putfield 165, 3) := by decide +kernel
theorem dX7_layPlan_15 : decode cX7_layPlan 15 = .ok (.aload_n 0, 1) := by decide +kernel
theorem dX7_layPlan_16 : decode cX7_layPlan 16 = .ok (.iconst 1, 1) := by decide +kernel
theorem dX7_layPlan_17 : decode cX7_layPlan 17 = .ok (.iconst 0, 1) := by decide +kernel
theorem dX7_layPlan_18 : decode cX7_layPlan 18 = .ok (.iconst 0, 1) := by decide +kernel
theorem dX7_layPlan_19 : decode cX7_layPlan 19 = .ok (.aload_n 0, 1) := by decide +kernel
theorem dX7_layPlan_20 : decode cX7_layPlan 20 = .ok (.getfield 7, 3) := by decide +kernel
theorem dX7_layPlan_23 : decode cX7_layPlan 23 = .ok (.aload_n 0, 1) := by decide +kernel
theorem dX7_layPlan_24 : decode cX7_layPlan 24 = .ok (.getfield 13, 3) := by decide +kernel
theorem dX7_layPlan_27 : decode cX7_layPlan 27 = .ok (.invokevirtual 174, 3) := by decide +kernel
theorem dX7_layPlan_30 : decode cX7_layPlan 30 = .ok (.aload_n 0, 1) := by decide +kernel
theorem dX7_layPlan_31 : decode cX7_layPlan 31 = .ok (.getfield 165, 3) := by decide +kernel
theorem dX7_layPlan_34 : decode cX7_layPlan 34 = .ok (.ifCond .le 73, 3) := by decide +kernel
theorem dX7_layPlan_37 : decode cX7_layPlan 37 = .ok (.aload_n 0, 1) := by decide +kernel
theorem dX7_layPlan_38 : decode cX7_layPlan 38 = .ok (.dup, 1) := by decide +kernel
theorem dX7_layPlan_39 : decode cX7_layPlan 39 = .ok (.getfield 165, 3) := by decide +kernel
theorem dX7_layPlan_42 : decode cX7_layPlan 42 = .ok (.iconst 5, 1) := by decide +kernel
theorem dX7_layPlan_43 : decode cX7_layPlan 43 = .ok (.isub, 1) := by decide +kernel
theorem dX7_layPlan_44 : decode cX7_layPlan 44 = .ok (.putfield 165, 3) := by decide +kernel
theorem dX7_layPlan_47 : decode cX7_layPlan 47 = .ok (.aload_n 0, 1) := by decide +kernel
theorem dX7_layPlan_48 : decode cX7_layPlan 48 = .ok (.aload_n 0, 1) := by decide +kernel
theorem dX7_layPlan_49 : decode cX7_layPlan 49 = .ok (.getfield 82, 3) := by decide +kernel
theorem dX7_layPlan_52 : decode cX7_layPlan 52 = .ok (.aload_n 0, 1) := by decide +kernel
theorem dX7_layPlan_53 : decode cX7_layPlan 53 = .ok (.getfield 165, 3) := by decide +kernel
theorem dX7_layPlan_56 : decode cX7_layPlan 56 = .ok (.iaload, 1) := by decide +kernel
theorem dX7_layPlan_57 : decode cX7_layPlan 57 = .ok (.aload_n 0, 1) := by decide +kernel
theorem dX7_layPlan_58 : decode cX7_layPlan 58 = .ok (.getfield 82, 3) := by decide +kernel
theorem dX7_layPlan_61 : decode cX7_layPlan 61 = .ok (.aload_n 0, 1) := by decide +kernel
theorem dX7_layPlan_62 : decode cX7_layPlan 62 = .ok (.getfield 165, 3) := by decide +kernel
theorem dX7_layPlan_65 : decode cX7_layPlan 65 = .ok (.iconst 1, 1) := by decide +kernel
theorem dX7_layPlan_66 : decode cX7_layPlan 66 = .ok (.iadd, 1) := by decide +kernel
theorem dX7_layPlan_67 : decode cX7_layPlan 67 = .ok (.iaload, 1) := by decide +kernel
theorem dX7_layPlan_68 : decode cX7_layPlan 68 = .ok (.aload_n 0, 1) := by decide +kernel
theorem dX7_layPlan_69 : decode cX7_layPlan 69 = .ok (.getfield 82, 3) := by decide +kernel
theorem dX7_layPlan_72 : decode cX7_layPlan 72 = .ok (.aload_n 0, 1) := by decide +kernel
theorem dX7_layPlan_73 : decode cX7_layPlan 73 = .ok (.getfield 165, 3) := by decide +kernel
theorem dX7_layPlan_76 : decode cX7_layPlan 76 = .ok (.iconst 2, 1) := by decide +kernel
theorem dX7_layPlan_77 : decode cX7_layPlan 77 = .ok (.iadd, 1) := by decide +kernel
theorem dX7_layPlan_78 : decode cX7_layPlan 78 = .ok (.iaload, 1) := by decide +kernel
theorem dX7_layPlan_79 : decode cX7_layPlan 79 = .ok (.aload_n 0, 1) := by decide +kernel
theorem dX7_layPlan_80 : decode cX7_layPlan 80 = .ok (.getfield 82, 3) := by decide +kernel
theorem dX7_layPlan_83 : decode cX7_layPlan 83 = .ok (.aload_n 0, 1) := by decide +kernel
theorem dX7_layPlan_84 : decode cX7_layPlan 84 = .ok (.getfield 165, 3) := by decide +kernel
theorem dX7_layPlan_87 : decode cX7_layPlan 87 = .ok (.iconst 3, 1) := by decide +kernel
theorem dX7_layPlan_88 : decode cX7_layPlan 88 = .ok (.iadd, 1) := by decide +kernel
theorem dX7_layPlan_89 : decode cX7_layPlan 89 = .ok (.iaload, 1) := by decide +kernel
theorem dX7_layPlan_90 : decode cX7_layPlan 90 = .ok (.aload_n 0, 1) := by decide +kernel
theorem dX7_layPlan_91 : decode cX7_layPlan 91 = .ok (.getfield 82, 3) := by decide +kernel
theorem dX7_layPlan_94 : decode cX7_layPlan 94 = .ok (.aload_n 0, 1) := by decide +kernel
theorem dX7_layPlan_95 : decode cX7_layPlan 95 = .ok (.getfield 165, 3) := by decide +kernel
theorem dX7_layPlan_98 : decode cX7_layPlan 98 = .ok (.iconst 4, 1) := by decide +kernel
theorem dX7_layPlan_99 : decode cX7_layPlan 99 = .ok (.iadd, 1) := by decide +kernel
theorem dX7_layPlan_100 : decode cX7_layPlan 100 = .ok (.iaload, 1) := by decide +kernel
theorem dX7_layPlan_101 : decode cX7_layPlan 101 = .ok (.invokevirtual 178, 3) := by decide +kernel
theorem dX7_layPlan_104 : decode cX7_layPlan 104 = .ok (.goto (-74), 3) := by decide +kernel
theorem dX7_layPlan_107 : decode cX7_layPlan 107 = .ok (.return_, 1) := by decide +kernel
set_option maxRecDepth 100000 in
theorem ggX7_layPart_X7_at : GoodIn wsX7_layPart wsX7_at := goodIn_r _ [14, 15, 58, 59, 60, 61, 62, 63, 64, 65, 66, 67, 68, 69, 70, 71, 72, 73, 74, 75, 76, 77, 78, 79, 80, 81, 82, 83, 84, 85, 86, 87, 88, 89, 90, 91, 92, 93, 94, 95, 96, 97, 98, 99, 100, 101, 102, 103, 104] rfl (by decide +kernel)
set_option maxRecDepth 100000 in
theorem gX7_layPart_X7_at : GoodIn wsX7_layPart (wsV RX7 146 RX7 yX7_at wsX7_at) := goodIn_app (goodIn_of _ (by decide +kernel)) ggX7_layPart_X7_at
set_option maxRecDepth 100000 in
theorem ggX7_layPart_X7_isPiece : GoodIn wsX7_layPart wsX7_isPiece := goodIn_r _ [19, 20, 21, 22, 23, 24, 25, 26, 27, 28, 29, 13, 30, 31, 32, 33, 34, 35, 36, 37, 38, 39, 40, 41, 42, 58, 59, 60, 61, 62, 63, 64, 65, 66, 67, 68, 69, 70, 71, 72, 73, 74, 75, 76, 77, 78, 79, 80, 81, 82, 83, 84, 85, 86, 87, 88, 89, 90, 91, 92, 93, 94, 95, 96, 97, 98, 99, 100, 101, 102, 103, 104] rfl (by decide +kernel)
set_option maxRecDepth 100000 in
theorem gX7_layPart_X7_isPiece : GoodIn wsX7_layPart (wsV RX7 181 RX7 yX7_isPiece wsX7_isPiece) := goodIn_app (goodIn_of _ (by decide +kernel)) ggX7_layPart_X7_isPiece
set_option maxRecDepth 100000 in
theorem ggX7_layPart_X7_wayOf : GoodIn wsX7_layPart wsX7_wayOf := goodIn_r _ [46, 47, 58, 59, 60, 61, 62, 63, 64, 65, 66, 67, 68, 69, 70, 71, 72, 73, 74, 75, 76, 77, 78, 79, 80, 81, 82, 83, 84, 85, 86, 87, 88, 89, 90, 91, 92, 93, 94, 95, 96, 97, 98, 99, 100, 101, 102, 103, 104] rfl (by decide +kernel)
set_option maxRecDepth 100000 in
theorem gX7_layPart_X7_wayOf : GoodIn wsX7_layPart (wsV RX7 142 RX7 yX7_wayOf wsX7_wayOf) := goodIn_app (goodIn_of _ (by decide +kernel)) ggX7_layPart_X7_wayOf
set_option maxRecDepth 100000 in
theorem ggX7_layPart_X7_both : GoodIn wsX7_layPart wsX7_both := goodIn_r _ [51, 1, 2, 43, 44, 45, 13, 46, 47, 10, 11, 12, 14, 15, 58, 59, 60, 61, 62, 63, 64, 65, 66, 67, 68, 69, 70, 71, 72, 73, 74, 75, 76, 77, 78, 79, 80, 81, 82, 83, 84, 85, 86, 87, 88, 89, 90, 91, 92, 93, 94, 95, 96, 97, 98, 99, 100, 101, 102, 103, 104] rfl (by decide +kernel)
set_option maxRecDepth 100000 in
theorem gX7_layPart_X7_both : GoodIn wsX7_layPart (wsV RX7 161 RX7 yX7_both wsX7_both) := goodIn_app (goodIn_of _ (by decide +kernel)) ggX7_layPart_X7_both
set_option maxRecDepth 100000 in
theorem ggX7_layPart_X7_lay : GoodIn wsX7_layPart wsX7_lay := goodIn_r _ [55, 56, 57, 58, 59, 60, 61, 62, 63, 64, 65, 66, 67, 68, 69, 70, 71, 72, 73, 74, 75, 76, 77, 78, 79, 80, 81, 82, 83, 84, 85, 86, 87, 88, 89, 90, 91, 92, 93, 94, 95, 96, 97, 98, 99, 100, 101, 102, 103, 104] rfl (by decide +kernel)
set_option maxRecDepth 100000 in
theorem gX7_layPart_X7_lay : GoodIn wsX7_layPart (wsV RX7 174 RX7 yX7_lay wsX7_lay) := goodIn_app (goodIn_of _ (by decide +kernel)) ggX7_layPart_X7_lay
theorem dX7_layPart_0 : decode cX7_layPart 0 = .ok (.aload_n 0, 1) := by decide +kernel
theorem dX7_layPart_1 : decode cX7_layPart 1 = .ok (.getfield 49, 3) := by decide +kernel
theorem dX7_layPart_4 : decode cX7_layPart 4 = .ok (.aload_n 0, 1) := by decide +kernel
theorem dX7_layPart_5 : decode cX7_layPart 5 = .ok (.iload_n 1, 1) := by decide +kernel
theorem dX7_layPart_6 : decode cX7_layPart 6 = .ok (.iload_n 2, 1) := by decide +kernel
theorem dX7_layPart_7 : decode cX7_layPart 7 = .ok (.iload_n 3, 1) := by decide +kernel
theorem dX7_layPart_8 : decode cX7_layPart 8 = .ok (.iload 4, 2) := by decide +kernel
theorem dX7_layPart_10 : decode cX7_layPart 10 = .ok (.iload 5, 2) := by decide +kernel
theorem dX7_layPart_12 : decode cX7_layPart 12 = .ok (.invokevirtual 146, 3) := by decide +kernel
theorem dX7_layPart_15 : decode cX7_layPart 15 = .ok (.iaload, 1) := by decide +kernel
theorem dX7_layPart_16 : decode cX7_layPart 16 = .ok (.istore 6, 2) := by decide +kernel
theorem dX7_layPart_18 : decode cX7_layPart 18 = .ok (.iload 6, 2) := by decide +kernel
theorem dX7_layPart_20 : decode cX7_layPart 20 = .ok (.ifCond .eq 18, 3) := by decide +kernel
theorem dX7_layPart_23 : decode cX7_layPart 23 = .ok (.aload_n 0, 1) := by decide +kernel
theorem dX7_layPart_24 : decode cX7_layPart 24 = .ok (.iload_n 2, 1) := by decide +kernel
theorem dX7_layPart_25 : decode cX7_layPart 25 = .ok (.iload_n 3, 1) := by decide +kernel
theorem dX7_layPart_26 : decode cX7_layPart 26 = .ok (.iload 4, 2) := by decide +kernel
theorem dX7_layPart_28 : decode cX7_layPart 28 = .ok (.iload 5, 2) := by decide +kernel
theorem dX7_layPart_30 : decode cX7_layPart 30 = .ok (.iload 6, 2) := by decide +kernel
theorem dX7_layPart_32 : decode cX7_layPart 32 = .ok (.invokevirtual 181, 3) := by decide +kernel
theorem dX7_layPart_35 : decode cX7_layPart 35 = .ok (.ifCond .eq 4, 3) := by decide +kernel
theorem dX7_layPart_38 : decode cX7_layPart 38 = .ok (.return_, 1) := by decide +kernel
theorem dX7_layPart_39 : decode cX7_layPart 39 = .ok (.aload_n 0, 1) := by decide +kernel
theorem dX7_layPart_40 : decode cX7_layPart 40 = .ok (.iload_n 1, 1) := by decide +kernel
theorem dX7_layPart_41 : decode cX7_layPart 41 = .ok (.invokevirtual 142, 3) := by decide +kernel
theorem dX7_layPart_44 : decode cX7_layPart 44 = .ok (.istore 7, 2) := by decide +kernel
theorem dX7_layPart_46 : decode cX7_layPart 46 = .ok (.iload 7, 2) := by decide +kernel
theorem dX7_layPart_48 : decode cX7_layPart 48 = .ok (.ifCond .ne 8, 3) := by decide +kernel
theorem dX7_layPart_51 : decode cX7_layPart 51 = .ok (.iload 4, 2) := by decide +kernel
theorem dX7_layPart_53 : decode cX7_layPart 53 = .ok (.goto 5, 3) := by decide +kernel
theorem dX7_layPart_56 : decode cX7_layPart 56 = .ok (.iload 5, 2) := by decide +kernel
theorem dX7_layPart_58 : decode cX7_layPart 58 = .ok (.istore 8, 2) := by decide +kernel
theorem dX7_layPart_60 : decode cX7_layPart 60 = .ok (.iconst 1, 1) := by decide +kernel
theorem dX7_layPart_61 : decode cX7_layPart 61 = .ok (.istore 9, 2) := by decide +kernel
theorem dX7_layPart_63 : decode cX7_layPart 63 = .ok (.iload 9, 2) := by decide +kernel
theorem dX7_layPart_65 : decode cX7_layPart 65 = .ok (.aload_n 0, 1) := by decide +kernel
theorem dX7_layPart_66 : decode cX7_layPart 66 = .ok (.getfield 116, 3) := by decide +kernel
theorem dX7_layPart_69 : decode cX7_layPart 69 = .ok (.iadd, 1) := by decide +kernel
theorem dX7_layPart_70 : decode cX7_layPart 70 = .ok (.iload 8, 2) := by decide +kernel
theorem dX7_layPart_72 : decode cX7_layPart 72 = .ok (.if_icmp .ge 199, 3) := by decide +kernel
theorem dX7_layPart_75 : decode cX7_layPart 75 = .ok (.aload_n 0, 1) := by decide +kernel
theorem dX7_layPart_76 : decode cX7_layPart 76 = .ok (.iload_n 1, 1) := by decide +kernel
theorem dX7_layPart_77 : decode cX7_layPart 77 = .ok (.iload_n 2, 1) := by decide +kernel
theorem dX7_layPart_78 : decode cX7_layPart 78 = .ok (.iload_n 3, 1) := by decide +kernel
theorem dX7_layPart_79 : decode cX7_layPart 79 = .ok (.iload 4, 2) := by decide +kernel
theorem dX7_layPart_81 : decode cX7_layPart 81 = .ok (.iload 5, 2) := by decide +kernel
theorem dX7_layPart_83 : decode cX7_layPart 83 = .ok (.iload 9, 2) := by decide +kernel
theorem dX7_layPart_85 : decode cX7_layPart 85 = .ok (.invokevirtual 161, 3) := by decide +kernel
theorem dX7_layPart_88 : decode cX7_layPart 88 = .ok (.iload 6, 2) := by decide +kernel
theorem dX7_layPart_90 : decode cX7_layPart 90 = .ok (.if_icmp .ne 175, 3) := by decide +kernel
theorem dX7_layPart_93 : decode cX7_layPart 93 = .ok (.aload_n 0, 1) := by decide +kernel
theorem dX7_layPart_94 : decode cX7_layPart 94 = .ok (.getfield 64, 3) := by decide +kernel
theorem dX7_layPart_97 : decode cX7_layPart 97 = .ok (.aload_n 0, 1) := by decide +kernel
theorem dX7_layPart_98 : decode cX7_layPart 98 = .ok (.getfield 171, 3) := by decide +kernel
theorem dX7_layPart_101 : decode cX7_layPart 101 = .ok (.iload_n 1, 1) := by decide +kernel
theorem dX7_layPart_102 : decode cX7_layPart 102 = .ok (.iastore, 1) := by decide +kernel
theorem dX7_layPart_103 : decode cX7_layPart 103 = .ok (.aload_n 0, 1) := by decide +kernel
theorem dX7_layPart_104 : decode cX7_layPart 104 = .ok (.getfield 67, 3) := by decide +kernel
theorem dX7_layPart_107 : decode cX7_layPart 107 = .ok (.aload_n 0, 1) := by decide +kernel
theorem dX7_layPart_108 : decode cX7_layPart 108 = .ok (.getfield 171, 3) := by decide +kernel
theorem dX7_layPart_111 : decode cX7_layPart 111 = .ok (.iload 7, 2) := by decide +kernel
theorem dX7_layPart_113 : decode cX7_layPart 113 = .ok (.ifCond .ne 10, 3) := by decide +kernel
theorem dX7_layPart_116 : decode cX7_layPart 116 = .ok (.iload_n 2, 1) := by decide +kernel
theorem dX7_layPart_117 : decode cX7_layPart 117 = .ok (.iload 9, 2) := by decide +kernel
theorem dX7_layPart_119 : decode cX7_layPart 119 = .ok (.iadd, 1) := by decide +kernel
theorem dX7_layPart_120 : decode cX7_layPart 120 = .ok (.goto 7, 3) := by decide +kernel
theorem dX7_layPart_123 : decode cX7_layPart 123 = .ok (.iload_n 3, 1) := by decide +kernel
theorem dX7_layPart_124 : decode cX7_layPart 124 = .ok (.iload 9, 2) := by decide +kernel
theorem dX7_layPart_126 : decode cX7_layPart 126 = .ok (.iadd, 1) := by decide +kernel
theorem dX7_layPart_127 : decode cX7_layPart 127 = .ok (.iastore, 1) := by decide +kernel
theorem dX7_layPart_128 : decode cX7_layPart 128 = .ok (.aload_n 0, 1) := by decide +kernel
theorem dX7_layPart_129 : decode cX7_layPart 129 = .ok (.getfield 70, 3) := by decide +kernel
theorem dX7_layPart_132 : decode cX7_layPart 132 = .ok (.aload_n 0, 1) := by decide +kernel
theorem dX7_layPart_133 : decode cX7_layPart 133 = .ok (.getfield 171, 3) := by decide +kernel
theorem dX7_layPart_136 : decode cX7_layPart 136 = .ok (.iload_n 2, 1) := by decide +kernel
theorem dX7_layPart_137 : decode cX7_layPart 137 = .ok (.iastore, 1) := by decide +kernel
theorem dX7_layPart_138 : decode cX7_layPart 138 = .ok (.aload_n 0, 1) := by decide +kernel
theorem dX7_layPart_139 : decode cX7_layPart 139 = .ok (.getfield 73, 3) := by decide +kernel
theorem dX7_layPart_142 : decode cX7_layPart 142 = .ok (.aload_n 0, 1) := by decide +kernel
theorem dX7_layPart_143 : decode cX7_layPart 143 = .ok (.getfield 171, 3) := by decide +kernel
theorem dX7_layPart_146 : decode cX7_layPart 146 = .ok (.iload_n 3, 1) := by decide +kernel
theorem dX7_layPart_147 : decode cX7_layPart 147 = .ok (.iastore, 1) := by decide +kernel
theorem dX7_layPart_148 : decode cX7_layPart 148 = .ok (.aload_n 0, 1) := by decide +kernel
theorem dX7_layPart_149 : decode cX7_layPart 149 = .ok (.getfield 76, 3) := by decide +kernel
theorem dX7_layPart_152 : decode cX7_layPart 152 = .ok (.aload_n 0, 1) := by decide +kernel
theorem dX7_layPart_153 : decode cX7_layPart 153 = .ok (.getfield 171, 3) := by decide +kernel
theorem dX7_layPart_156 : decode cX7_layPart 156 = .ok (.iload 4, 2) := by decide +kernel
theorem dX7_layPart_158 : decode cX7_layPart 158 = .ok (.iastore, 1) := by decide +kernel
theorem dX7_layPart_159 : decode cX7_layPart 159 = .ok (.aload_n 0, 1) := by decide +kernel
theorem dX7_layPart_160 : decode cX7_layPart 160 = .ok (.getfield 79, 3) := by decide +kernel
theorem dX7_layPart_163 : decode cX7_layPart 163 = .ok (.aload_n 0, 1) := by decide +kernel
theorem dX7_layPart_164 : decode cX7_layPart 164 = .ok (.getfield 171, 3) := by decide +kernel
theorem dX7_layPart_167 : decode cX7_layPart 167 = .ok (.iload 5, 2) := by decide +kernel
theorem dX7_layPart_169 : decode cX7_layPart 169 = .ok (.iastore, 1) := by decide +kernel
theorem dX7_layPart_170 : decode cX7_layPart 170 = .ok (.aload_n 0, 1) := by decide +kernel
theorem dX7_layPart_171 : decode cX7_layPart 171 = .ok (.dup, 1) := by decide +kernel
theorem dX7_layPart_172 : decode cX7_layPart 172 = .ok (.getfield 171, 3) := by decide +kernel
theorem dX7_layPart_175 : decode cX7_layPart 175 = .ok (.iconst 1, 1) := by decide +kernel
theorem dX7_layPart_176 : decode cX7_layPart 176 = .ok (.iadd, 1) := by decide +kernel
theorem dX7_layPart_177 : decode cX7_layPart 177 = .ok (.putfield 171, 3) := by decide +kernel
theorem dX7_layPart_180 : decode cX7_layPart 180 = .ok (.iload 7, 2) := by decide +kernel
theorem dX7_layPart_182 : decode cX7_layPart 182 = .ok (.ifCond .ne 44, 3) := by decide +kernel
theorem dX7_layPart_185 : decode cX7_layPart 185 = .ok (.aload_n 0, 1) := by decide +kernel
theorem dX7_layPart_186 : decode cX7_layPart 186 = .ok (.iload_n 1, 1) := by decide +kernel
theorem dX7_layPart_187 : decode cX7_layPart 187 = .ok (.iload_n 2, 1) := by decide +kernel
theorem dX7_layPart_188 : decode cX7_layPart 188 = .ok (.iload 9, 2) := by decide +kernel
theorem dX7_layPart_190 : decode cX7_layPart 190 = .ok (.iadd, 1) := by decide +kernel
theorem dX7_layPart_191 : decode cX7_layPart 191 = .ok (.aload_n 0, 1) := by decide +kernel
theorem dX7_layPart_192 : decode cX7_layPart 192 = .ok (.getfield 116, 3) := by decide +kernel
theorem dX7_layPart_195 : decode cX7_layPart 195 = .ok (.iadd, 1) := by decide +kernel
theorem dX7_layPart_196 : decode cX7_layPart 196 = .ok (.iload_n 3, 1) := by decide +kernel
theorem dX7_layPart_197 : decode cX7_layPart 197 = .ok (.iload 4, 2) := by decide +kernel
theorem dX7_layPart_199 : decode cX7_layPart 199 = .ok (.iload 9, 2) := by decide +kernel
theorem dX7_layPart_201 : decode cX7_layPart 201 = .ok (.isub, 1) := by decide +kernel
theorem dX7_layPart_202 : decode cX7_layPart 202 = .ok (.aload_n 0, 1) := by decide +kernel
theorem dX7_layPart_203 : decode cX7_layPart 203 = .ok (.getfield 116, 3) := by decide +kernel
theorem dX7_layPart_206 : decode cX7_layPart 206 = .ok (.isub, 1) := by decide +kernel
theorem dX7_layPart_207 : decode cX7_layPart 207 = .ok (.iload 5, 2) := by decide +kernel
theorem dX7_layPart_209 : decode cX7_layPart 209 = .ok (.invokevirtual 174, 3) := by decide +kernel
theorem dX7_layPart_212 : decode cX7_layPart 212 = .ok (.aload_n 0, 1) := by decide +kernel
theorem dX7_layPart_213 : decode cX7_layPart 213 = .ok (.iload_n 1, 1) := by decide +kernel
theorem dX7_layPart_214 : decode cX7_layPart 214 = .ok (.iload_n 2, 1) := by decide +kernel
theorem dX7_layPart_215 : decode cX7_layPart 215 = .ok (.iload_n 3, 1) := by decide +kernel
theorem dX7_layPart_216 : decode cX7_layPart 216 = .ok (.iload 9, 2) := by decide +kernel
theorem dX7_layPart_218 : decode cX7_layPart 218 = .ok (.iload 5, 2) := by decide +kernel
theorem dX7_layPart_220 : decode cX7_layPart 220 = .ok (.invokevirtual 174, 3) := by decide +kernel
theorem dX7_layPart_223 : decode cX7_layPart 223 = .ok (.goto 41, 3) := by decide +kernel
theorem dX7_layPart_226 : decode cX7_layPart 226 = .ok (.aload_n 0, 1) := by decide +kernel
theorem dX7_layPart_227 : decode cX7_layPart 227 = .ok (.iload_n 1, 1) := by decide +kernel
theorem dX7_layPart_228 : decode cX7_layPart 228 = .ok (.iload_n 2, 1) := by decide +kernel
theorem dX7_layPart_229 : decode cX7_layPart 229 = .ok (.iload_n 3, 1) := by decide +kernel
theorem dX7_layPart_230 : decode cX7_layPart 230 = .ok (.iload 9, 2) := by decide +kernel
theorem dX7_layPart_232 : decode cX7_layPart 232 = .ok (.iadd, 1) := by decide +kernel
theorem dX7_layPart_233 : decode cX7_layPart 233 = .ok (.aload_n 0, 1) := by decide +kernel
theorem dX7_layPart_234 : decode cX7_layPart 234 = .ok (.getfield 116, 3) := by decide +kernel
theorem dX7_layPart_237 : decode cX7_layPart 237 = .ok (.iadd, 1) := by decide +kernel
theorem dX7_layPart_238 : decode cX7_layPart 238 = .ok (.iload 4, 2) := by decide +kernel
theorem dX7_layPart_240 : decode cX7_layPart 240 = .ok (.iload 5, 2) := by decide +kernel
theorem dX7_layPart_242 : decode cX7_layPart 242 = .ok (.iload 9, 2) := by decide +kernel
theorem dX7_layPart_244 : decode cX7_layPart 244 = .ok (.isub, 1) := by decide +kernel
theorem dX7_layPart_245 : decode cX7_layPart 245 = .ok (.aload_n 0, 1) := by decide +kernel
theorem dX7_layPart_246 : decode cX7_layPart 246 = .ok (.getfield 116, 3) := by decide +kernel
theorem dX7_layPart_249 : decode cX7_layPart 249 = .ok (.isub, 1) := by decide +kernel
theorem dX7_layPart_250 : decode cX7_layPart 250 = .ok (.invokevirtual 174, 3) := by decide +kernel
theorem dX7_layPart_253 : decode cX7_layPart 253 = .ok (.aload_n 0, 1) := by decide +kernel
theorem dX7_layPart_254 : decode cX7_layPart 254 = .ok (.iload_n 1, 1) := by decide +kernel
theorem dX7_layPart_255 : decode cX7_layPart 255 = .ok (.iload_n 2, 1) := by decide +kernel
theorem dX7_layPart_256 : decode cX7_layPart 256 = .ok (.iload_n 3, 1) := by decide +kernel
theorem dX7_layPart_257 : decode cX7_layPart 257 = .ok (.iload 4, 2) := by decide +kernel
theorem dX7_layPart_259 : decode cX7_layPart 259 = .ok (.iload 9, 2) := by decide +kernel
theorem dX7_layPart_261 : decode cX7_layPart 261 = .ok (.invokevirtual 174, 3) := by decide +kernel
theorem dX7_layPart_264 : decode cX7_layPart 264 = .ok (.return_, 1) := by decide +kernel
theorem dX7_layPart_265 : decode cX7_layPart 265 = .ok (.iinc 9 1, 3) := by decide +kernel
theorem dX7_layPart_268 : decode cX7_layPart 268 = .ok (.goto (-205), 3) := by decide +kernel
theorem dX7_layPart_271 : decode cX7_layPart 271 = .ok (.aload_n 0, 1) := by decide +kernel
theorem dX7_layPart_272 : decode cX7_layPart 272 = .ok (.iload_n 1, 1) := by decide +kernel
theorem dX7_layPart_273 : decode cX7_layPart 273 = .ok (.iconst 1, 1) := by decide +kernel
theorem dX7_layPart_274 : decode cX7_layPart 274 = .ok (.iadd, 1) := by decide +kernel
theorem dX7_layPart_275 : decode cX7_layPart 275 = .ok (.iload_n 2, 1) := by decide +kernel
theorem dX7_layPart_276 : decode cX7_layPart 276 = .ok (.iload_n 3, 1) := by decide +kernel
theorem dX7_layPart_277 : decode cX7_layPart 277 = .ok (.iload 4, 2) := by decide +kernel
theorem dX7_layPart_279 : decode cX7_layPart 279 = .ok (.iload 5, 2) := by decide +kernel
theorem dX7_layPart_281 : decode cX7_layPart 281 = .ok (.invokevirtual 174, 3) := by decide +kernel
theorem dX7_layPart_284 : decode cX7_layPart 284 = .ok (.return_, 1) := by decide +kernel
set_option maxRecDepth 100000 in
theorem ggX7_isPiece_X7_isSpoiled : GoodIn wsX7_isPiece wsX7_isSpoiled := goodIn_r _ [12, 13, 14, 15, 16, 17, 25, 26, 27, 28, 29, 30, 31, 32, 33, 34, 35, 36, 37, 38, 39, 40, 41, 42, 43, 44, 45, 46, 47, 48, 49, 50, 51, 52, 53, 54, 55, 56, 57, 58, 59, 60, 61, 62, 63, 64, 65, 66, 67, 68, 69, 70, 71] rfl (by decide +kernel)
set_option maxRecDepth 100000 in
theorem gX7_isPiece_X7_isSpoiled : GoodIn wsX7_isPiece (wsV RX7 139 RX7 yX7_isSpoiled wsX7_isSpoiled) := goodIn_app (goodIn_of _ (by decide +kernel)) ggX7_isPiece_X7_isSpoiled
set_option maxRecDepth 100000 in
theorem ggX7_isPiece_X7_isLike : GoodIn wsX7_isPiece wsX7_isLike := goodIn_r _ [21, 22, 23, 24, 25, 26, 27, 28, 29, 30, 31, 32, 33, 34, 35, 36, 37, 38, 39, 40, 41, 42, 43, 44, 45, 46, 47, 48, 49, 50, 51, 52, 53, 54, 55, 56, 57, 58, 59, 60, 61, 62, 63, 64, 65, 66, 67, 68, 69, 70, 71] rfl (by decide +kernel)
set_option maxRecDepth 100000 in
theorem gX7_isPiece_X7_isLike : GoodIn wsX7_isPiece (wsV RX7 136 RX7 yX7_isLike wsX7_isLike) := goodIn_app (goodIn_of _ (by decide +kernel)) ggX7_isPiece_X7_isLike
theorem dX7_isPiece_0 : decode cX7_isPiece 0 = .ok (.aload_n 0, 1) := by decide +kernel
theorem dX7_isPiece_1 : decode cX7_isPiece 1 = .ok (.iload_n 1, 1) := by decide +kernel
theorem dX7_isPiece_2 : decode cX7_isPiece 2 = .ok (.iload_n 2, 1) := by decide +kernel
theorem dX7_isPiece_3 : decode cX7_isPiece 3 = .ok (.iload_n 3, 1) := by decide +kernel
theorem dX7_isPiece_4 : decode cX7_isPiece 4 = .ok (.iload 4, 2) := by decide +kernel
theorem dX7_isPiece_6 : decode cX7_isPiece 6 = .ok (.invokevirtual 139, 3) := by decide +kernel
theorem dX7_isPiece_9 : decode cX7_isPiece 9 = .ok (.ifCond .eq 5, 3) := by decide +kernel
theorem dX7_isPiece_12 : decode cX7_isPiece 12 = .ok (.iconst 0, 1) := by decide +kernel
theorem dX7_isPiece_13 : decode cX7_isPiece 13 = .ok (.ireturn, 1) := by decide +kernel
theorem dX7_isPiece_14 : decode cX7_isPiece 14 = .ok (.iconst 0, 1) := by decide +kernel
theorem dX7_isPiece_15 : decode cX7_isPiece 15 = .ok (.istore 6, 2) := by decide +kernel
theorem dX7_isPiece_17 : decode cX7_isPiece 17 = .ok (.iload 6, 2) := by decide +kernel
theorem dX7_isPiece_19 : decode cX7_isPiece 19 = .ok (.aload_n 0, 1) := by decide +kernel
theorem dX7_isPiece_20 : decode cX7_isPiece 20 = .ok (.getfield 133, 3) := by decide +kernel
theorem dX7_isPiece_23 : decode cX7_isPiece 23 = .ok (.if_icmp .ge 104, 3) := by decide +kernel
theorem dX7_isPiece_26 : decode cX7_isPiece 26 = .ok (.iconst 0, 1) := by decide +kernel
theorem dX7_isPiece_27 : decode cX7_isPiece 27 = .ok (.istore 7, 2) := by decide +kernel
theorem dX7_isPiece_29 : decode cX7_isPiece 29 = .ok (.iload 7, 2) := by decide +kernel
theorem dX7_isPiece_31 : decode cX7_isPiece 31 = .ok (.iconst 2, 1) := by decide +kernel
theorem dX7_isPiece_32 : decode cX7_isPiece 32 = .ok (.if_icmp .ge 89, 3) := by decide +kernel
theorem dX7_isPiece_35 : decode cX7_isPiece 35 = .ok (.aload_n 0, 1) := by decide +kernel
theorem dX7_isPiece_36 : decode cX7_isPiece 36 = .ok (.getfield 38, 3) := by decide +kernel
theorem dX7_isPiece_39 : decode cX7_isPiece 39 = .ok (.iload 6, 2) := by decide +kernel
theorem dX7_isPiece_41 : decode cX7_isPiece 41 = .ok (.iaload, 1) := by decide +kernel
theorem dX7_isPiece_42 : decode cX7_isPiece 42 = .ok (.iload 5, 2) := by decide +kernel
theorem dX7_isPiece_44 : decode cX7_isPiece 44 = .ok (.if_icmp .ne 71, 3) := by decide +kernel
theorem dX7_isPiece_47 : decode cX7_isPiece 47 = .ok (.aload_n 0, 1) := by decide +kernel
theorem dX7_isPiece_48 : decode cX7_isPiece 48 = .ok (.iload 6, 2) := by decide +kernel
theorem dX7_isPiece_50 : decode cX7_isPiece 50 = .ok (.iload 7, 2) := by decide +kernel
theorem dX7_isPiece_52 : decode cX7_isPiece 52 = .ok (.iload_n 3, 1) := by decide +kernel
theorem dX7_isPiece_53 : decode cX7_isPiece 53 = .ok (.iload 4, 2) := by decide +kernel
theorem dX7_isPiece_55 : decode cX7_isPiece 55 = .ok (.invokevirtual 136, 3) := by decide +kernel
theorem dX7_isPiece_58 : decode cX7_isPiece 58 = .ok (.ifCond .eq 57, 3) := by decide +kernel
theorem dX7_isPiece_61 : decode cX7_isPiece 61 = .ok (.aload_n 0, 1) := by decide +kernel
theorem dX7_isPiece_62 : decode cX7_isPiece 62 = .ok (.getfield 52, 3) := by decide +kernel
theorem dX7_isPiece_65 : decode cX7_isPiece 65 = .ok (.aload_n 0, 1) := by decide +kernel
theorem dX7_isPiece_66 : decode cX7_isPiece 66 = .ok (.getfield 168, 3) := by decide +kernel
theorem dX7_isPiece_69 : decode cX7_isPiece 69 = .ok (.iload 6, 2) := by decide +kernel
theorem dX7_isPiece_71 : decode cX7_isPiece 71 = .ok (.iastore, 1) := by decide +kernel
theorem dX7_isPiece_72 : decode cX7_isPiece 72 = .ok (.aload_n 0, 1) := by decide +kernel
theorem dX7_isPiece_73 : decode cX7_isPiece 73 = .ok (.getfield 55, 3) := by decide +kernel
theorem dX7_isPiece_76 : decode cX7_isPiece 76 = .ok (.aload_n 0, 1) := by decide +kernel
theorem dX7_isPiece_77 : decode cX7_isPiece 77 = .ok (.getfield 168, 3) := by decide +kernel
theorem dX7_isPiece_80 : decode cX7_isPiece 80 = .ok (.iload_n 1, 1) := by decide +kernel
theorem dX7_isPiece_81 : decode cX7_isPiece 81 = .ok (.iastore, 1) := by decide +kernel
theorem dX7_isPiece_82 : decode cX7_isPiece 82 = .ok (.aload_n 0, 1) := by decide +kernel
theorem dX7_isPiece_83 : decode cX7_isPiece 83 = .ok (.getfield 58, 3) := by decide +kernel
theorem dX7_isPiece_86 : decode cX7_isPiece 86 = .ok (.aload_n 0, 1) := by decide +kernel
theorem dX7_isPiece_87 : decode cX7_isPiece 87 = .ok (.getfield 168, 3) := by decide +kernel
theorem dX7_isPiece_90 : decode cX7_isPiece 90 = .ok (.iload_n 2, 1) := by decide +kernel
theorem dX7_isPiece_91 : decode cX7_isPiece 91 = .ok (.iastore, 1) := by decide +kernel
theorem dX7_isPiece_92 : decode cX7_isPiece 92 = .ok (.aload_n 0, 1) := by decide +kernel
theorem dX7_isPiece_93 : decode cX7_isPiece 93 = .ok (.getfield 61, 3) := by decide +kernel
theorem dX7_isPiece_96 : decode cX7_isPiece 96 = .ok (.aload_n 0, 1) := by decide +kernel
theorem dX7_isPiece_97 : decode cX7_isPiece 97 = .ok (.getfield 168, 3) := by decide +kernel
theorem dX7_isPiece_100 : decode cX7_isPiece 100 = .ok (.iload 7, 2) := by decide +kernel
theorem dX7_isPiece_102 : decode cX7_isPiece 102 = .ok (.iastore, 1) := by decide +kernel
theorem dX7_isPiece_103 : decode cX7_isPiece 103 = .ok (.aload_n 0, 1) := by decide +kernel
theorem dX7_isPiece_104 : decode cX7_isPiece 104 = .ok (.dup, 1) := by decide +kernel
theorem dX7_isPiece_105 : decode cX7_isPiece 105 = .ok (.getfield 168, 3) := by decide +kernel
theorem dX7_isPiece_108 : decode cX7_isPiece 108 = .ok (.iconst 1, 1) := by decide +kernel
theorem dX7_isPiece_109 : decode cX7_isPiece 109 = .ok (.iadd, 1) := by decide +kernel
theorem dX7_isPiece_110 : decode cX7_isPiece 110 = .ok (.putfield 168, 3) := by decide +kernel
theorem dX7_isPiece_113 : decode cX7_isPiece 113 = .ok (.iconst 1, 1) := by decide +kernel
theorem dX7_isPiece_114 : decode cX7_isPiece 114 = .ok (.ireturn, 1) := by decide +kernel
theorem dX7_isPiece_115 : decode cX7_isPiece 115 = .ok (.iinc 7 1, 3) := by decide +kernel
theorem dX7_isPiece_118 : decode cX7_isPiece 118 = .ok (.goto (-89), 3) := by decide +kernel
theorem dX7_isPiece_121 : decode cX7_isPiece 121 = .ok (.iinc 6 1, 3) := by decide +kernel
theorem dX7_isPiece_124 : decode cX7_isPiece 124 = .ok (.goto (-107), 3) := by decide +kernel
theorem dX7_isPiece_127 : decode cX7_isPiece 127 = .ok (.iconst 0, 1) := by decide +kernel
theorem dX7_isPiece_128 : decode cX7_isPiece 128 = .ok (.ireturn, 1) := by decide +kernel
set_option maxRecDepth 100000 in
theorem ggX7_worth_X7_lies : GoodIn wsX7_worth wsX7_lies := goodIn_r _ [7, 8, 9, 10, 11, 6, 12, 89, 90, 91, 92, 93, 94, 95, 96, 97, 98, 99, 100, 101, 102, 103, 104, 105, 106, 107, 108, 109, 110, 111, 112, 113, 114, 115, 116, 117, 118, 119, 120, 121, 122, 123, 124, 125, 126, 127, 128, 129, 130, 131, 132, 133, 134, 135] rfl (by decide +kernel)
set_option maxRecDepth 100000 in
theorem gX7_worth_X7_lies : GoodIn wsX7_worth (wsV RX7 129 RX7 yX7_lies wsX7_lies) := goodIn_app (goodIn_of _ (by decide +kernel)) ggX7_worth_X7_lies
set_option maxRecDepth 100000 in
theorem ggX7_worth_X7_within : GoodIn wsX7_worth wsX7_within := goodIn_r _ [12] rfl (by decide +kernel)
set_option maxRecDepth 100000 in
theorem gX7_worth_X7_within : GoodIn wsX7_worth (va_wsS RX7 112 yX7_within wsX7_within) := goodIn_app (goodIn_of _ (by decide +kernel)) ggX7_worth_X7_within
set_option maxRecDepth 100000 in
theorem ggX7_worth_X7_work : GoodIn wsX7_worth wsX7_work := goodIn_r _ [16, 17, 8, 9, 18, 19, 20, 6, 21, 1, 22, 2, 23, 24, 25, 26, 27, 28, 29, 30, 31, 32, 33, 34, 35, 36, 37, 38, 39, 40, 41, 42, 43, 44, 45, 46, 47, 48, 49, 50, 51, 52, 53, 54, 55, 56, 57, 58, 59, 60, 61, 62, 63, 64, 65, 66, 67, 68, 69, 70, 71, 72, 73, 74, 75, 76, 77, 78, 79, 80, 81, 82, 83, 84, 85, 86, 87, 88, 89, 90, 91, 92, 93, 94, 95, 96, 97, 98, 99, 100, 101, 102, 103, 104, 105, 106, 107, 108, 109, 110, 111, 112, 113, 114, 115, 116, 117, 118, 119, 120, 121, 122, 123, 124, 125, 126, 127, 128, 129, 130, 131, 132, 133, 134, 135] rfl (by decide +kernel)
set_option maxRecDepth 100000 in
theorem gX7_worth_X7_work : GoodIn wsX7_worth (wsV RX7 185 RX7 yX7_work wsX7_work) := goodIn_app (goodIn_of _ (by decide +kernel)) ggX7_worth_X7_work
set_option maxRecDepth 100000 in
theorem ggX7_worth_X7_at : GoodIn wsX7_worth wsX7_at := goodIn_r _ [57, 58, 89, 90, 91, 92, 93, 94, 95, 96, 97, 98, 99, 100, 101, 102, 103, 104, 105, 106, 107, 108, 109, 110, 111, 112, 113, 114, 115, 116, 117, 118, 119, 120, 121, 122, 123, 124, 125, 126, 127, 128, 129, 130, 131, 132, 133, 134, 135] rfl (by decide +kernel)
set_option maxRecDepth 100000 in
theorem gX7_worth_X7_at : GoodIn wsX7_worth (wsV RX7 146 RX7 yX7_at wsX7_at) := goodIn_app (goodIn_of _ (by decide +kernel)) ggX7_worth_X7_at
theorem dX7_worth_0 : decode cX7_worth 0 = .ok (.aload_n 0, 1) := by decide +kernel
theorem dX7_worth_1 : decode cX7_worth 1 = .ok (.iload_n 1, 1) := by decide +kernel
theorem dX7_worth_2 : decode cX7_worth 2 = .ok (.iload_n 2, 1) := by decide +kernel
theorem dX7_worth_3 : decode cX7_worth 3 = .ok (.iload_n 3, 1) := by decide +kernel
theorem dX7_worth_4 : decode cX7_worth 4 = .ok (.iload 4, 2) := by decide +kernel
theorem dX7_worth_6 : decode cX7_worth 6 = .ok (.invokevirtual 129, 3) := by decide +kernel
theorem dX7_worth_9 : decode cX7_worth 9 = .ok (.ifCond .eq 16, 3) := by decide +kernel
theorem dX7_worth_12 : decode cX7_worth 12 = .ok (.iload 5, 2) := by decide +kernel
theorem dX7_worth_14 : decode cX7_worth 14 = .ok (.iconst 1, 1) := by decide +kernel
theorem dX7_worth_15 : decode cX7_worth 15 = .ok (.aload_n 0, 1) := by decide +kernel
theorem dX7_worth_16 : decode cX7_worth 16 = .ok (.getfield 16, 3) := by decide +kernel
theorem dX7_worth_19 : decode cX7_worth 19 = .ok (.invokestatic 112, 3) := by decide +kernel
theorem dX7_worth_22 : decode cX7_worth 22 = .ok (.ifCond .ne 6, 3) := by decide +kernel
theorem dX7_worth_25 : decode cX7_worth 25 = .ok (.bipush (-3), 2) := by decide +kernel
theorem dX7_worth_27 : decode cX7_worth 27 = .ok (.ireturn, 1) := by decide +kernel
theorem dX7_worth_28 : decode cX7_worth 28 = .ok (.aload_n 0, 1) := by decide +kernel
theorem dX7_worth_29 : decode cX7_worth 29 = .ok (.invokevirtual 185, 3) := by decide +kernel
theorem dX7_worth_32 : decode cX7_worth 32 = .ok (.aload_n 0, 1) := by decide +kernel
theorem dX7_worth_33 : decode cX7_worth 33 = .ok (.getfield 49, 3) := by decide +kernel
theorem dX7_worth_36 : decode cX7_worth 36 = .ok (.aload_n 0, 1) := by decide +kernel
theorem dX7_worth_37 : decode cX7_worth 37 = .ok (.iload 5, 2) := by decide +kernel
theorem dX7_worth_39 : decode cX7_worth 39 = .ok (.iload_n 1, 1) := by decide +kernel
theorem dX7_worth_40 : decode cX7_worth 40 = .ok (.iload_n 2, 1) := by decide +kernel
theorem dX7_worth_41 : decode cX7_worth 41 = .ok (.iload_n 3, 1) := by decide +kernel
theorem dX7_worth_42 : decode cX7_worth 42 = .ok (.iload 4, 2) := by decide +kernel
theorem dX7_worth_44 : decode cX7_worth 44 = .ok (.invokevirtual 146, 3) := by decide +kernel
theorem dX7_worth_47 : decode cX7_worth 47 = .ok (.iaload, 1) := by decide +kernel
theorem dX7_worth_48 : decode cX7_worth 48 = .ok (.ireturn, 1) := by decide +kernel
set_option maxRecDepth 100000 in
theorem ggX7_pieces_X7_work : GoodIn wsX7_pieces wsX7_work := goodIn_r _ [6, 7, 8, 9, 10, 11, 12, 5, 13, 14, 15, 16, 17, 18, 19, 20, 21, 22, 23, 24, 25, 26, 27, 28, 29, 30, 31, 32, 33, 34, 35, 36, 37, 38, 39, 40, 41, 42, 43, 44, 45, 46, 47, 48, 49, 50, 51, 52, 53, 54, 55, 56, 1, 57, 58, 59, 60, 61, 62, 63, 64, 65, 66, 67, 68, 69, 70, 71, 72, 73, 74, 75, 76, 77, 78, 79, 80, 81, 82, 83, 84, 85, 86, 87, 88, 89, 90, 91, 92, 93, 94, 95, 96, 97, 98, 99, 100, 101, 102, 103, 104, 105, 106, 107, 108, 109, 110, 111, 112, 113, 114, 115, 116, 117, 118, 119, 120, 121, 122, 123, 124, 125, 126, 127, 128] rfl (by decide +kernel)
set_option maxRecDepth 100000 in
theorem gX7_pieces_X7_work : GoodIn wsX7_pieces (wsV RX7 185 RX7 yX7_work wsX7_work) := goodIn_app (goodIn_of _ (by decide +kernel)) ggX7_pieces_X7_work
theorem dX7_pieces_0 : decode cX7_pieces 0 = .ok (.aload_n 0, 1) := by decide +kernel
theorem dX7_pieces_1 : decode cX7_pieces 1 = .ok (.invokevirtual 185, 3) := by decide +kernel
theorem dX7_pieces_4 : decode cX7_pieces 4 = .ok (.aload_n 0, 1) := by decide +kernel
theorem dX7_pieces_5 : decode cX7_pieces 5 = .ok (.getfield 168, 3) := by decide +kernel
theorem dX7_pieces_8 : decode cX7_pieces 8 = .ok (.ireturn, 1) := by decide +kernel
theorem dX7_pieceSide_0 : decode cX7_pieceSide 0 = .ok (.aload_n 0, 1) := by decide +kernel
theorem dX7_pieceSide_1 : decode cX7_pieceSide 1 = .ok (.getfield 52, 3) := by decide +kernel
theorem dX7_pieceSide_4 : decode cX7_pieceSide 4 = .ok (.iload_n 1, 1) := by decide +kernel
theorem dX7_pieceSide_5 : decode cX7_pieceSide 5 = .ok (.iaload, 1) := by decide +kernel
theorem dX7_pieceSide_6 : decode cX7_pieceSide 6 = .ok (.istore_n 3, 1) := by decide +kernel
theorem dX7_pieceSide_7 : decode cX7_pieceSide 7 = .ok (.iload_n 2, 1) := by decide +kernel
theorem dX7_pieceSide_8 : decode cX7_pieceSide 8 = .ok (.aload_n 0, 1) := by decide +kernel
theorem dX7_pieceSide_9 : decode cX7_pieceSide 9 = .ok (.getfield 61, 3) := by decide +kernel
theorem dX7_pieceSide_12 : decode cX7_pieceSide 12 = .ok (.iload_n 1, 1) := by decide +kernel
theorem dX7_pieceSide_13 : decode cX7_pieceSide 13 = .ok (.iaload, 1) := by decide +kernel
theorem dX7_pieceSide_14 : decode cX7_pieceSide 14 = .ok (.ifCond .ne 7, 3) := by decide +kernel
theorem dX7_pieceSide_17 : decode cX7_pieceSide 17 = .ok (.iconst 1, 1) := by decide +kernel
theorem dX7_pieceSide_18 : decode cX7_pieceSide 18 = .ok (.goto 4, 3) := by decide +kernel
theorem dX7_pieceSide_21 : decode cX7_pieceSide 21 = .ok (.iconst 0, 1) := by decide +kernel
theorem dX7_pieceSide_22 : decode cX7_pieceSide 22 = .ok (.if_icmp .ne 12, 3) := by decide +kernel
theorem dX7_pieceSide_25 : decode cX7_pieceSide 25 = .ok (.aload_n 0, 1) := by decide +kernel
theorem dX7_pieceSide_26 : decode cX7_pieceSide 26 = .ok (.getfield 32, 3) := by decide +kernel
theorem dX7_pieceSide_29 : decode cX7_pieceSide 29 = .ok (.iload_n 3, 1) := by decide +kernel
theorem dX7_pieceSide_30 : decode cX7_pieceSide 30 = .ok (.iaload, 1) := by decide +kernel
theorem dX7_pieceSide_31 : decode cX7_pieceSide 31 = .ok (.goto 9, 3) := by decide +kernel
