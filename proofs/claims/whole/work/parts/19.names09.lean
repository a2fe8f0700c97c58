theorem dX7_list_152 : decode cX7_list 152 = .ok (.iaload, 1) := by decide +kernel
theorem dX7_list_153 : decode cX7_list 153 = .ok (.iadd, 1) := by decide +kernel
theorem dX7_list_154 : decode cX7_list 154 = .ok (.aload_n 0, 1) := by decide +kernel
theorem dX7_list_155 : decode cX7_list 155 = .ok (.getfield 100, 3) := by decide +kernel
theorem dX7_list_158 : decode cX7_list 158 = .ok (.iload_n 2, 1) := by decide +kernel
theorem dX7_list_159 : decode cX7_list 159 = .ok (.iaload, 1) := by decide +kernel
theorem dX7_list_160 : decode cX7_list 160 = .ok (.iconst 1, 1) := by decide +kernel
theorem dX7_list_161 : decode cX7_list 161 = .ok (.iadd, 1) := by decide +kernel
theorem dX7_list_162 : decode cX7_list 162 = .ok (.invokevirtual 220, 3) := by decide +kernel
theorem dX7_list_165 : decode cX7_list 165 = .ok (.iinc 3 1, 3) := by decide +kernel
theorem dX7_list_168 : decode cX7_list 168 = .ok (.goto (-73), 3) := by decide +kernel
theorem dX7_list_171 : decode cX7_list 171 = .ok (.iinc 2 1, 3) := by decide +kernel
theorem dX7_list_174 : decode cX7_list 174 = .ok (.goto (-86), 3) := by decide +kernel
theorem dX7_list_177 : decode cX7_list 177 = .ok (.aload_n 0, 1) := by decide +kernel
theorem dX7_list_178 : decode cX7_list 178 = .ok (.aload_n 0, 1) := by decide +kernel
theorem dX7_list_179 : decode cX7_list 179 = .ok (.getfield 97, 3) := by decide +kernel
theorem dX7_list_182 : decode cX7_list 182 = .ok (.iload_n 1, 1) := by decide +kernel
theorem dX7_list_183 : decode cX7_list 183 = .ok (.iaload, 1) := by decide +kernel
theorem dX7_list_184 : decode cX7_list 184 = .ok (.iconst (-1), 1) := by decide +kernel
theorem dX7_list_185 : decode cX7_list 185 = .ok (.if_icmp .ne 7, 3) := by decide +kernel
theorem dX7_list_188 : decode cX7_list 188 = .ok (.iconst 1, 1) := by decide +kernel
theorem dX7_list_189 : decode cX7_list 189 = .ok (.goto 4, 3) := by decide +kernel
theorem dX7_list_192 : decode cX7_list 192 = .ok (.iconst 0, 1) := by decide +kernel
theorem dX7_list_193 : decode cX7_list 193 = .ok (.putfield 224, 3) := by decide +kernel
theorem dX7_list_196 : decode cX7_list 196 = .ok (.aload_n 0, 1) := by decide +kernel
theorem dX7_list_197 : decode cX7_list 197 = .ok (.iconst 0, 1) := by decide +kernel
theorem dX7_list_198 : decode cX7_list 198 = .ok (.putfield 227, 3) := by decide +kernel
theorem dX7_list_201 : decode cX7_list 201 = .ok (.iload_n 1, 1) := by decide +kernel
theorem dX7_list_202 : decode cX7_list 202 = .ok (.istore_n 2, 1) := by decide +kernel
theorem dX7_list_203 : decode cX7_list 203 = .ok (.iload_n 2, 1) := by decide +kernel
theorem dX7_list_204 : decode cX7_list 204 = .ok (.ifCond .le 54, 3) := by decide +kernel
theorem dX7_list_207 : decode cX7_list 207 = .ok (.aload_n 0, 1) := by decide +kernel
theorem dX7_list_208 : decode cX7_list 208 = .ok (.getfield 224, 3) := by decide +kernel
theorem dX7_list_211 : decode cX7_list 211 = .ok (.ifCond .ne 47, 3) := by decide +kernel
theorem dX7_list_214 : decode cX7_list 214 = .ok (.iload_n 2, 1) := by decide +kernel
theorem dX7_list_215 : decode cX7_list 215 = .ok (.istore_n 3, 1) := by decide +kernel
theorem dX7_list_216 : decode cX7_list 216 = .ok (.aload_n 0, 1) := by decide +kernel
theorem dX7_list_217 : decode cX7_list 217 = .ok (.iload_n 3, 1) := by decide +kernel
theorem dX7_list_218 : decode cX7_list 218 = .ok (.iload_n 2, 1) := by decide +kernel
theorem dX7_list_219 : decode cX7_list 219 = .ok (.invokevirtual 230, 3) := by decide +kernel
theorem dX7_list_222 : decode cX7_list 222 = .ok (.ifCond .ne 9, 3) := by decide +kernel
theorem dX7_list_225 : decode cX7_list 225 = .ok (.iinc 3 (-1), 3) := by decide +kernel
theorem dX7_list_228 : decode cX7_list 228 = .ok (.goto (-12), 3) := by decide +kernel
theorem dX7_list_231 : decode cX7_list 231 = .ok (.aload_n 0, 1) := by decide +kernel
theorem dX7_list_232 : decode cX7_list 232 = .ok (.getfield 109, 3) := by decide +kernel
theorem dX7_list_235 : decode cX7_list 235 = .ok (.aload_n 0, 1) := by decide +kernel
theorem dX7_list_236 : decode cX7_list 236 = .ok (.getfield 227, 3) := by decide +kernel
theorem dX7_list_239 : decode cX7_list 239 = .ok (.iload_n 3, 1) := by decide +kernel
theorem dX7_list_240 : decode cX7_list 240 = .ok (.iastore, 1) := by decide +kernel
theorem dX7_list_241 : decode cX7_list 241 = .ok (.aload_n 0, 1) := by decide +kernel
theorem dX7_list_242 : decode cX7_list 242 = .ok (.dup, 1) := by decide +kernel
theorem dX7_list_243 : decode cX7_list 243 = .ok (.getfield 227, 3) := by decide +kernel
theorem dX7_list_246 : decode cX7_list 246 = .ok (.iconst 1, 1) := by decide +kernel
theorem dX7_list_247 : decode cX7_list 247 = .ok (.iadd, 1) := by decide +kernel
theorem dX7_list_248 : decode cX7_list 248 = .ok (.putfield 227, 3) := by decide +kernel
theorem dX7_list_251 : decode cX7_list 251 = .ok (.iload_n 2, 1) := by decide +kernel
theorem dX7_list_252 : decode cX7_list 252 = .ok (.iload_n 3, 1) := by decide +kernel
theorem dX7_list_253 : decode cX7_list 253 = .ok (.isub, 1) := by decide +kernel
theorem dX7_list_254 : decode cX7_list 254 = .ok (.istore_n 2, 1) := by decide +kernel
theorem dX7_list_255 : decode cX7_list 255 = .ok (.goto (-52), 3) := by decide +kernel
theorem dX7_list_258 : decode cX7_list 258 = .ok (.return_, 1) := by decide +kernel
theorem dX7_reach_0 : decode cX7_reach 0 = .ok (.aload_n 0, 1) := by decide +kernel
theorem dX7_reach_1 : decode cX7_reach 1 = .ok (.getfield 97, 3) := by decide +kernel
theorem dX7_reach_4 : decode cX7_reach 4 = .ok (.iload_n 1, 1) := by decide +kernel
theorem dX7_reach_5 : decode cX7_reach 5 = .ok (.iaload, 1) := by decide +kernel
theorem dX7_reach_6 : decode cX7_reach 6 = .ok (.iconst (-1), 1) := by decide +kernel
theorem dX7_reach_7 : decode cX7_reach 7 = .ok (.if_icmp .eq 33, 3) := by decide +kernel
theorem dX7_reach_10 : decode cX7_reach 10 = .ok (.iload_n 2, 1) := by decide +kernel
theorem dX7_reach_11 : decode cX7_reach 11 = .ok (.aload_n 0, 1) := by decide +kernel
theorem dX7_reach_12 : decode cX7_reach 12 = .ok (.getfield 97, 3) := by decide +kernel
theorem dX7_reach_15 : decode cX7_reach 15 = .ok (.iload_n 1, 1) := by decide +kernel
theorem dX7_reach_16 : decode cX7_reach 16 = .ok (.iaload, 1) := by decide +kernel
theorem dX7_reach_17 : decode cX7_reach 17 = .ok (.if_icmp .lt 23, 3) := by decide +kernel
theorem dX7_reach_20 : decode cX7_reach 20 = .ok (.iload_n 2, 1) := by decide +kernel
theorem dX7_reach_21 : decode cX7_reach 21 = .ok (.aload_n 0, 1) := by decide +kernel
theorem dX7_reach_22 : decode cX7_reach 22 = .ok (.getfield 97, 3) := by decide +kernel
theorem dX7_reach_25 : decode cX7_reach 25 = .ok (.iload_n 1, 1) := by decide +kernel
theorem dX7_reach_26 : decode cX7_reach 26 = .ok (.iaload, 1) := by decide +kernel
theorem dX7_reach_27 : decode cX7_reach 27 = .ok (.if_icmp .ne 27, 3) := by decide +kernel
theorem dX7_reach_30 : decode cX7_reach 30 = .ok (.iload_n 3, 1) := by decide +kernel
theorem dX7_reach_31 : decode cX7_reach 31 = .ok (.aload_n 0, 1) := by decide +kernel
theorem dX7_reach_32 : decode cX7_reach 32 = .ok (.getfield 100, 3) := by decide +kernel
theorem dX7_reach_35 : decode cX7_reach 35 = .ok (.iload_n 1, 1) := by decide +kernel
theorem dX7_reach_36 : decode cX7_reach 36 = .ok (.iaload, 1) := by decide +kernel
theorem dX7_reach_37 : decode cX7_reach 37 = .ok (.if_icmp .ge 17, 3) := by decide +kernel
theorem dX7_reach_40 : decode cX7_reach 40 = .ok (.aload_n 0, 1) := by decide +kernel
theorem dX7_reach_41 : decode cX7_reach 41 = .ok (.getfield 97, 3) := by decide +kernel
theorem dX7_reach_44 : decode cX7_reach 44 = .ok (.iload_n 1, 1) := by decide +kernel
theorem dX7_reach_45 : decode cX7_reach 45 = .ok (.iload_n 2, 1) := by decide +kernel
theorem dX7_reach_46 : decode cX7_reach 46 = .ok (.iastore, 1) := by decide +kernel
theorem dX7_reach_47 : decode cX7_reach 47 = .ok (.aload_n 0, 1) := by decide +kernel
theorem dX7_reach_48 : decode cX7_reach 48 = .ok (.getfield 100, 3) := by decide +kernel
theorem dX7_reach_51 : decode cX7_reach 51 = .ok (.iload_n 1, 1) := by decide +kernel
theorem dX7_reach_52 : decode cX7_reach 52 = .ok (.iload_n 3, 1) := by decide +kernel
theorem dX7_reach_53 : decode cX7_reach 53 = .ok (.iastore, 1) := by decide +kernel
theorem dX7_reach_54 : decode cX7_reach 54 = .ok (.return_, 1) := by decide +kernel
set_option maxRecDepth 100000 in
theorem ggX7_isBest_X7_isIn : GoodIn wsX7_isBest wsX7_isIn := goodIn_r _ [8, 9, 10, 7, 11] rfl (by decide +kernel)
set_option maxRecDepth 100000 in
theorem gX7_isBest_X7_isIn : GoodIn wsX7_isBest (va_wsS RX7 212 yX7_isIn wsX7_isIn) := goodIn_app (goodIn_of _ (by decide +kernel)) ggX7_isBest_X7_isIn
theorem dX7_isBest_0 : decode cX7_isBest 0 = .ok (.aload_n 0, 1) := by decide +kernel
theorem dX7_isBest_1 : decode cX7_isBest 1 = .ok (.getfield 103, 3) := by decide +kernel
theorem dX7_isBest_4 : decode cX7_isBest 4 = .ok (.iload_n 1, 1) := by decide +kernel
theorem dX7_isBest_5 : decode cX7_isBest 5 = .ok (.iaload, 1) := by decide +kernel
theorem dX7_isBest_6 : decode cX7_isBest 6 = .ok (.iconst (-1), 1) := by decide +kernel
theorem dX7_isBest_7 : decode cX7_isBest 7 = .ok (.if_icmp .eq 11, 3) := by decide +kernel
theorem dX7_isBest_10 : decode cX7_isBest 10 = .ok (.iload_n 1, 1) := by decide +kernel
theorem dX7_isBest_11 : decode cX7_isBest 11 = .ok (.iload_n 2, 1) := by decide +kernel
theorem dX7_isBest_12 : decode cX7_isBest 12 = .ok (.invokestatic 212, 3) := by decide +kernel
theorem dX7_isBest_15 : decode cX7_isBest 15 = .ok (.ifCond .ne 5, 3) := by decide +kernel
theorem dX7_isBest_18 : decode cX7_isBest 18 = .ok (.iconst 0, 1) := by decide +kernel
theorem dX7_isBest_19 : decode cX7_isBest 19 = .ok (.ireturn, 1) := by decide +kernel
theorem dX7_isBest_20 : decode cX7_isBest 20 = .ok (.aload_n 0, 1) := by decide +kernel
theorem dX7_isBest_21 : decode cX7_isBest 21 = .ok (.getfield 97, 3) := by decide +kernel
theorem dX7_isBest_24 : decode cX7_isBest 24 = .ok (.iload_n 2, 1) := by decide +kernel
theorem dX7_isBest_25 : decode cX7_isBest 25 = .ok (.iload_n 1, 1) := by decide +kernel
theorem dX7_isBest_26 : decode cX7_isBest 26 = .ok (.isub, 1) := by decide +kernel
theorem dX7_isBest_27 : decode cX7_isBest 27 = .ok (.iaload, 1) := by decide +kernel
theorem dX7_isBest_28 : decode cX7_isBest 28 = .ok (.iconst (-1), 1) := by decide +kernel
theorem dX7_isBest_29 : decode cX7_isBest 29 = .ok (.if_icmp .eq 55, 3) := by decide +kernel
theorem dX7_isBest_32 : decode cX7_isBest 32 = .ok (.aload_n 0, 1) := by decide +kernel
theorem dX7_isBest_33 : decode cX7_isBest 33 = .ok (.getfield 97, 3) := by decide +kernel
theorem dX7_isBest_36 : decode cX7_isBest 36 = .ok (.iload_n 2, 1) := by decide +kernel
theorem dX7_isBest_37 : decode cX7_isBest 37 = .ok (.iaload, 1) := by decide +kernel
theorem dX7_isBest_38 : decode cX7_isBest 38 = .ok (.aload_n 0, 1) := by decide +kernel
theorem dX7_isBest_39 : decode cX7_isBest 39 = .ok (.getfield 97, 3) := by decide +kernel
theorem dX7_isBest_42 : decode cX7_isBest 42 = .ok (.iload_n 2, 1) := by decide +kernel
theorem dX7_isBest_43 : decode cX7_isBest 43 = .ok (.iload_n 1, 1) := by decide +kernel
theorem dX7_isBest_44 : decode cX7_isBest 44 = .ok (.isub, 1) := by decide +kernel
theorem dX7_isBest_45 : decode cX7_isBest 45 = .ok (.iaload, 1) := by decide +kernel
theorem dX7_isBest_46 : decode cX7_isBest 46 = .ok (.aload_n 0, 1) := by decide +kernel
theorem dX7_isBest_47 : decode cX7_isBest 47 = .ok (.getfield 88, 3) := by decide +kernel
theorem dX7_isBest_50 : decode cX7_isBest 50 = .ok (.aload_n 0, 1) := by decide +kernel
theorem dX7_isBest_51 : decode cX7_isBest 51 = .ok (.getfield 103, 3) := by decide +kernel
theorem dX7_isBest_54 : decode cX7_isBest 54 = .ok (.iload_n 1, 1) := by decide +kernel
theorem dX7_isBest_55 : decode cX7_isBest 55 = .ok (.iaload, 1) := by decide +kernel
theorem dX7_isBest_56 : decode cX7_isBest 56 = .ok (.iaload, 1) := by decide +kernel
theorem dX7_isBest_57 : decode cX7_isBest 57 = .ok (.iadd, 1) := by decide +kernel
theorem dX7_isBest_58 : decode cX7_isBest 58 = .ok (.if_icmp .ne 26, 3) := by decide +kernel
theorem dX7_isBest_61 : decode cX7_isBest 61 = .ok (.aload_n 0, 1) := by decide +kernel
theorem dX7_isBest_62 : decode cX7_isBest 62 = .ok (.getfield 100, 3) := by decide +kernel
theorem dX7_isBest_65 : decode cX7_isBest 65 = .ok (.iload_n 2, 1) := by decide +kernel
theorem dX7_isBest_66 : decode cX7_isBest 66 = .ok (.iaload, 1) := by decide +kernel
theorem dX7_isBest_67 : decode cX7_isBest 67 = .ok (.aload_n 0, 1) := by decide +kernel
theorem dX7_isBest_68 : decode cX7_isBest 68 = .ok (.getfield 100, 3) := by decide +kernel
theorem dX7_isBest_71 : decode cX7_isBest 71 = .ok (.iload_n 2, 1) := by decide +kernel
theorem dX7_isBest_72 : decode cX7_isBest 72 = .ok (.iload_n 1, 1) := by decide +kernel
theorem dX7_isBest_73 : decode cX7_isBest 73 = .ok (.isub, 1) := by decide +kernel
theorem dX7_isBest_74 : decode cX7_isBest 74 = .ok (.iaload, 1) := by decide +kernel
theorem dX7_isBest_75 : decode cX7_isBest 75 = .ok (.iconst 1, 1) := by decide +kernel
theorem dX7_isBest_76 : decode cX7_isBest 76 = .ok (.iadd, 1) := by decide +kernel
theorem dX7_isBest_77 : decode cX7_isBest 77 = .ok (.if_icmp .ne 7, 3) := by decide +kernel
theorem dX7_isBest_80 : decode cX7_isBest 80 = .ok (.iconst 1, 1) := by decide +kernel
theorem dX7_isBest_81 : decode cX7_isBest 81 = .ok (.goto 4, 3) := by decide +kernel
theorem dX7_isBest_84 : decode cX7_isBest 84 = .ok (.iconst 0, 1) := by decide +kernel
theorem dX7_isBest_85 : decode cX7_isBest 85 = .ok (.ireturn, 1) := by decide +kernel
set_option maxRecDepth 100000 in
theorem ggX7_price_X7_list : GoodIn wsX7_price wsX7_list := goodIn_r _ [7, 8, 2, 9, 10, 11, 1, 12, 13, 14, 15, 16, 6, 17, 18, 19, 20, 21, 22, 23, 24, 25, 26, 27, 28, 29, 30, 31, 32, 33, 34, 35, 36, 37, 38, 39, 40, 41, 42, 43, 44, 45, 46, 47, 48, 49, 50, 51, 52, 53, 54, 55, 56, 57, 58, 59, 60, 61, 62, 63, 64, 65, 66, 67, 68, 69, 70, 71, 72, 73, 74, 75, 76, 77, 78, 79, 80, 81, 82, 83, 84, 85, 86, 87, 88, 89] rfl (by decide +kernel)
set_option maxRecDepth 100000 in
theorem gX7_price_X7_list : GoodIn wsX7_price (wsV RX7 233 RX7 yX7_list wsX7_list) := goodIn_app (goodIn_of _ (by decide +kernel)) ggX7_price_X7_list
set_option maxRecDepth 100000 in
theorem ggX7_price_X7_all : GoodIn wsX7_price wsX7_all := goodIn_r _ [17, 18, 19, 43, 44, 45, 46, 47, 48, 49, 50, 51, 52, 53, 54, 55, 56, 57, 58, 59, 60, 61, 62, 63, 64, 65, 66, 67, 68, 69, 70, 71, 72, 73, 74, 75, 76, 77, 78, 79, 80, 81, 82, 83, 84, 85, 86, 87, 88, 89] rfl (by decide +kernel)
set_option maxRecDepth 100000 in
theorem gX7_price_X7_all : GoodIn wsX7_price (wsV RX7 208 RX7 yX7_all wsX7_all) := goodIn_app (goodIn_of _ (by decide +kernel)) ggX7_price_X7_all
theorem dX7_price_0 : decode cX7_price 0 = .ok (.aload_n 0, 1) := by decide +kernel
theorem dX7_price_1 : decode cX7_price 1 = .ok (.invokevirtual 233, 3) := by decide +kernel
theorem dX7_price_4 : decode cX7_price 4 = .ok (.aload_n 0, 1) := by decide +kernel
theorem dX7_price_5 : decode cX7_price 5 = .ok (.getfield 224, 3) := by decide +kernel
theorem dX7_price_8 : decode cX7_price 8 = .ok (.ifCond .eq 7, 3) := by decide +kernel
theorem dX7_price_11 : decode cX7_price 11 = .ok (.iconst (-1), 1) := by decide +kernel
theorem dX7_price_12 : decode cX7_price 12 = .ok (.goto 12, 3) := by decide +kernel
theorem dX7_price_15 : decode cX7_price 15 = .ok (.aload_n 0, 1) := by decide +kernel
theorem dX7_price_16 : decode cX7_price 16 = .ok (.getfield 97, 3) := by decide +kernel
theorem dX7_price_19 : decode cX7_price 19 = .ok (.aload_n 0, 1) := by decide +kernel
theorem dX7_price_20 : decode cX7_price 20 = .ok (.invokevirtual 208, 3) := by decide +kernel
theorem dX7_price_23 : decode cX7_price 23 = .ok (.iaload, 1) := by decide +kernel
theorem dX7_price_24 : decode cX7_price 24 = .ok (.ireturn, 1) := by decide +kernel
set_option maxRecDepth 100000 in
theorem ggX7_bars_X7_list : GoodIn wsX7_bars wsX7_list := goodIn_r _ [7, 8, 9, 10, 11, 12, 1, 2, 13, 14, 15, 16, 6, 17, 18, 19, 20, 21, 22, 23, 24, 25, 26, 27, 28, 29, 30, 31, 32, 33, 34, 35, 36, 37, 38, 39, 40, 41, 42, 43, 44, 45, 46, 47, 48, 49, 50, 51, 52, 53, 54, 55, 56, 57, 58, 59, 60, 61, 62, 63, 64, 65, 66, 67, 68, 69, 70, 71, 72, 73, 74, 75, 76, 77, 78, 79, 80, 81, 82, 83, 84, 85, 86, 87, 88, 89] rfl (by decide +kernel)
set_option maxRecDepth 100000 in
theorem gX7_bars_X7_list : GoodIn wsX7_bars (wsV RX7 233 RX7 yX7_list wsX7_list) := goodIn_app (goodIn_of _ (by decide +kernel)) ggX7_bars_X7_list
theorem dX7_bars_0 : decode cX7_bars 0 = .ok (.aload_n 0, 1) := by decide +kernel
theorem dX7_bars_1 : decode cX7_bars 1 = .ok (.invokevirtual 233, 3) := by decide +kernel
theorem dX7_bars_4 : decode cX7_bars 4 = .ok (.aload_n 0, 1) := by decide +kernel
theorem dX7_bars_5 : decode cX7_bars 5 = .ok (.getfield 224, 3) := by decide +kernel
theorem dX7_bars_8 : decode cX7_bars 8 = .ok (.ifCond .eq 7, 3) := by decide +kernel
theorem dX7_bars_11 : decode cX7_bars 11 = .ok (.iconst (-1), 1) := by decide +kernel
theorem dX7_bars_12 : decode cX7_bars 12 = .ok (.goto 7, 3) := by decide +kernel
theorem dX7_bars_15 : decode cX7_bars 15 = .ok (.aload_n 0, 1) := by decide +kernel
theorem dX7_bars_16 : decode cX7_bars 16 = .ok (.getfield 227, 3) := by decide +kernel
theorem dX7_bars_19 : decode cX7_bars 19 = .ok (.ireturn, 1) := by decide +kernel
set_option maxRecDepth 100000 in
theorem ggX7_bar_X7_within : GoodIn wsX7_bar wsX7_within := goodIn_r _ [9] rfl (by decide +kernel)
set_option maxRecDepth 100000 in
theorem gX7_bar_X7_within : GoodIn wsX7_bar (va_wsS RX7 112 yX7_within wsX7_within) := goodIn_app (goodIn_of _ (by decide +kernel)) ggX7_bar_X7_within
set_option maxRecDepth 100000 in
theorem ggX7_bar_X7_list : GoodIn wsX7_bar wsX7_list := goodIn_r _ [13, 14, 15, 16, 3, 17, 18, 1, 2, 19, 20, 21, 8, 22, 23, 24, 25, 26, 27, 28, 29, 30, 31, 32, 33, 34, 35, 36, 5, 37, 4, 38, 39, 40, 41, 42, 43, 44, 45, 46, 47, 48, 49, 50, 51, 52, 53, 54, 55, 56, 57, 58, 59, 60, 61, 62, 63, 64, 65, 66, 67, 68, 69, 70, 71, 72, 73, 74, 75, 76, 77, 78, 79, 80, 81, 82, 83, 84, 85, 86, 87, 88, 89, 90, 91, 92] rfl (by decide +kernel)
set_option maxRecDepth 100000 in
theorem gX7_bar_X7_list : GoodIn wsX7_bar (wsV RX7 233 RX7 yX7_list wsX7_list) := goodIn_app (goodIn_of _ (by decide +kernel)) ggX7_bar_X7_list
set_option maxRecDepth 100000 in
theorem ggX7_bar_X7_digit : GoodIn wsX7_bar wsX7_digit := goodIn_r _ [30] rfl (by decide +kernel)
set_option maxRecDepth 100000 in
theorem gX7_bar_X7_digit : GoodIn wsX7_bar (va_wsS RX7 204 yX7_digit wsX7_digit) := goodIn_app (goodIn_of _ (by decide +kernel)) ggX7_bar_X7_digit
theorem dX7_bar_0 : decode cX7_bar 0 = .ok (.iload_n 2, 1) := by decide +kernel
theorem dX7_bar_1 : decode cX7_bar 1 = .ok (.iconst 0, 1) := by decide +kernel
theorem dX7_bar_2 : decode cX7_bar 2 = .ok (.iconst 5, 1) := by decide +kernel
theorem dX7_bar_3 : decode cX7_bar 3 = .ok (.invokestatic 112, 3) := by decide +kernel
theorem dX7_bar_6 : decode cX7_bar 6 = .ok (.ifCond .ne 6, 3) := by decide +kernel
theorem dX7_bar_9 : decode cX7_bar 9 = .ok (.bipush (-3), 2) := by decide +kernel
theorem dX7_bar_11 : decode cX7_bar 11 = .ok (.ireturn, 1) := by decide +kernel
theorem dX7_bar_12 : decode cX7_bar 12 = .ok (.aload_n 0, 1) := by decide +kernel
theorem dX7_bar_13 : decode cX7_bar 13 = .ok (.invokevirtual 233, 3) := by decide +kernel
theorem dX7_bar_16 : decode cX7_bar 16 = .ok (.iload_n 1, 1) := by decide +kernel
theorem dX7_bar_17 : decode cX7_bar 17 = .ok (.iconst 0, 1) := by decide +kernel
theorem dX7_bar_18 : decode cX7_bar 18 = .ok (.aload_n 0, 1) := by decide +kernel
theorem dX7_bar_19 : decode cX7_bar 19 = .ok (.getfield 227, 3) := by decide +kernel
theorem dX7_bar_22 : decode cX7_bar 22 = .ok (.iconst 1, 1) := by decide +kernel
theorem dX7_bar_23 : decode cX7_bar 23 = .ok (.isub, 1) := by decide +kernel
theorem dX7_bar_24 : decode cX7_bar 24 = .ok (.invokestatic 112, 3) := by decide +kernel
theorem dX7_bar_27 : decode cX7_bar 27 = .ok (.ifCond .ne 5, 3) := by decide +kernel
theorem dX7_bar_30 : decode cX7_bar 30 = .ok (.iconst (-1), 1) := by decide +kernel
theorem dX7_bar_31 : decode cX7_bar 31 = .ok (.ireturn, 1) := by decide +kernel
theorem dX7_bar_32 : decode cX7_bar 32 = .ok (.aload_n 0, 1) := by decide +kernel
theorem dX7_bar_33 : decode cX7_bar 33 = .ok (.getfield 109, 3) := by decide +kernel
theorem dX7_bar_36 : decode cX7_bar 36 = .ok (.iload_n 1, 1) := by decide +kernel
theorem dX7_bar_37 : decode cX7_bar 37 = .ok (.iaload, 1) := by decide +kernel
theorem dX7_bar_38 : decode cX7_bar 38 = .ok (.istore_n 3, 1) := by decide +kernel
theorem dX7_bar_39 : decode cX7_bar 39 = .ok (.iload_n 2, 1) := by decide +kernel
theorem dX7_bar_40 : decode cX7_bar 40 = .ok (.ifCond .ne 10, 3) := by decide +kernel
theorem dX7_bar_43 : decode cX7_bar 43 = .ok (.aload_n 0, 1) := by decide +kernel
theorem dX7_bar_44 : decode cX7_bar 44 = .ok (.getfield 103, 3) := by decide +kernel
theorem dX7_bar_47 : decode cX7_bar 47 = .ok (.iload_n 3, 1) := by decide +kernel
theorem dX7_bar_48 : decode cX7_bar 48 = .ok (.iaload, 1) := by decide +kernel
theorem dX7_bar_49 : decode cX7_bar 49 = .ok (.ireturn, 1) := by decide +kernel
theorem dX7_bar_50 : decode cX7_bar 50 = .ok (.iload_n 2, 1) := by decide +kernel
theorem dX7_bar_51 : decode cX7_bar 51 = .ok (.iconst 1, 1) := by decide +kernel
theorem dX7_bar_52 : decode cX7_bar 52 = .ok (.if_icmp .ne 24, 3) := by decide +kernel
theorem dX7_bar_55 : decode cX7_bar 55 = .ok (.aload_n 0, 1) := by decide +kernel
theorem dX7_bar_56 : decode cX7_bar 56 = .ok (.getfield 85, 3) := by decide +kernel
theorem dX7_bar_59 : decode cX7_bar 59 = .ok (.aload_n 0, 1) := by decide +kernel
theorem dX7_bar_60 : decode cX7_bar 60 = .ok (.getfield 103, 3) := by decide +kernel
theorem dX7_bar_63 : decode cX7_bar 63 = .ok (.iload_n 3, 1) := by decide +kernel
theorem dX7_bar_64 : decode cX7_bar 64 = .ok (.iaload, 1) := by decide +kernel
theorem dX7_bar_65 : decode cX7_bar 65 = .ok (.iaload, 1) := by decide +kernel
theorem dX7_bar_66 : decode cX7_bar 66 = .ok (.aload_n 0, 1) := by decide +kernel
theorem dX7_bar_67 : decode cX7_bar 67 = .ok (.getfield 106, 3) := by decide +kernel
theorem dX7_bar_70 : decode cX7_bar 70 = .ok (.iload_n 3, 1) := by decide +kernel
theorem dX7_bar_71 : decode cX7_bar 71 = .ok (.iaload, 1) := by decide +kernel
theorem dX7_bar_72 : decode cX7_bar 72 = .ok (.isub, 1) := by decide +kernel
theorem dX7_bar_73 : decode cX7_bar 73 = .ok (.goto 10, 3) := by decide +kernel
theorem dX7_bar_76 : decode cX7_bar 76 = .ok (.iload_n 3, 1) := by decide +kernel
theorem dX7_bar_77 : decode cX7_bar 77 = .ok (.iload_n 2, 1) := by decide +kernel
theorem dX7_bar_78 : decode cX7_bar 78 = .ok (.iconst 2, 1) := by decide +kernel
theorem dX7_bar_79 : decode cX7_bar 79 = .ok (.isub, 1) := by decide +kernel
theorem dX7_bar_80 : decode cX7_bar 80 = .ok (.invokestatic 204, 3) := by decide +kernel
theorem dX7_bar_83 : decode cX7_bar 83 = .ok (.ireturn, 1) := by decide +kernel
theorem dX7_told_0 : decode cX7_told 0 = .ok (.iload_n 1, 1) := by decide +kernel
theorem dX7_told_1 : decode cX7_told 1 = .ok (.tableswitch 96 0 8 #[51, 56, 61, 66, 71, 76, 81, 86, 91], 51) := by decide +kernel
theorem dX7_told_52 : decode cX7_told 52 = .ok (.aload_n 0, 1) := by decide +kernel
theorem dX7_told_53 : decode cX7_told 53 = .ok (.getfield 7, 3) := by decide +kernel
theorem dX7_told_56 : decode cX7_told 56 = .ok (.ireturn, 1) := by decide +kernel
theorem dX7_told_57 : decode cX7_told 57 = .ok (.aload_n 0, 1) := by decide +kernel
theorem dX7_told_58 : decode cX7_told 58 = .ok (.getfield 13, 3) := by decide +kernel
theorem dX7_told_61 : decode cX7_told 61 = .ok (.ireturn, 1) := by decide +kernel
theorem dX7_told_62 : decode cX7_told 62 = .ok (.aload_n 0, 1) := by decide +kernel
theorem dX7_told_63 : decode cX7_told 63 = .ok (.getfield 116, 3) := by decide +kernel
theorem dX7_told_66 : decode cX7_told 66 = .ok (.ireturn, 1) := by decide +kernel
theorem dX7_told_67 : decode cX7_told 67 = .ok (.aload_n 0, 1) := by decide +kernel
theorem dX7_told_68 : decode cX7_told 68 = .ok (.getfield 16, 3) := by decide +kernel
theorem dX7_told_71 : decode cX7_told 71 = .ok (.ireturn, 1) := by decide +kernel
theorem dX7_told_72 : decode cX7_told 72 = .ok (.aload_n 0, 1) := by decide +kernel
theorem dX7_told_73 : decode cX7_told 73 = .ok (.getfield 119, 3) := by decide +kernel
theorem dX7_told_76 : decode cX7_told 76 = .ok (.ireturn, 1) := by decide +kernel
theorem dX7_told_77 : decode cX7_told 77 = .ok (.aload_n 0, 1) := by decide +kernel
theorem dX7_told_78 : decode cX7_told 78 = .ok (.getfield 122, 3) := by decide +kernel
theorem dX7_told_81 : decode cX7_told 81 = .ok (.ireturn, 1) := by decide +kernel
theorem dX7_told_82 : decode cX7_told 82 = .ok (.aload_n 0, 1) := by decide +kernel
theorem dX7_told_83 : decode cX7_told 83 = .ok (.getfield 133, 3) := by decide +kernel
theorem dX7_told_86 : decode cX7_told 86 = .ok (.ireturn, 1) := by decide +kernel
theorem dX7_told_87 : decode cX7_told 87 = .ok (.aload_n 0, 1) := by decide +kernel
theorem dX7_told_88 : decode cX7_told 88 = .ok (.getfield 192, 3) := by decide +kernel
theorem dX7_told_91 : decode cX7_told 91 = .ok (.ireturn, 1) := by decide +kernel
theorem dX7_told_92 : decode cX7_told 92 = .ok (.aload_n 0, 1) := by decide +kernel
theorem dX7_told_93 : decode cX7_told 93 = .ok (.getfield 198, 3) := by decide +kernel
theorem dX7_told_96 : decode cX7_told 96 = .ok (.ireturn, 1) := by decide +kernel
theorem dX7_told_97 : decode cX7_told 97 = .ok (.iload_n 1, 1) := by decide +kernel
theorem dX7_told_98 : decode cX7_told 98 = .ok (.bipush 9, 2) := by decide +kernel
theorem dX7_told_100 : decode cX7_told 100 = .ok (.if_icmp .ne 10, 3) := by decide +kernel
theorem dX7_told_103 : decode cX7_told 103 = .ok (.aload_n 0, 1) := by decide +kernel
theorem dX7_told_104 : decode cX7_told 104 = .ok (.getfield 201, 3) := by decide +kernel
theorem dX7_told_107 : decode cX7_told 107 = .ok (.goto 5, 3) := by decide +kernel
theorem dX7_told_110 : decode cX7_told 110 = .ok (.bipush (-3), 2) := by decide +kernel
theorem dX7_told_112 : decode cX7_told 112 = .ok (.ireturn, 1) := by decide +kernel
theorem dX7_noKinds_0 : decode cX7_noKinds 0 = .ok (.aload_n 0, 1) := by decide +kernel
theorem dX7_noKinds_1 : decode cX7_noKinds 1 = .ok (.getfield 133, 3) := by decide +kernel
theorem dX7_noKinds_4 : decode cX7_noKinds 4 = .ok (.istore_n 1, 1) := by decide +kernel
theorem dX7_noKinds_5 : decode cX7_noKinds 5 = .ok (.aload_n 0, 1) := by decide +kernel
theorem dX7_noKinds_6 : decode cX7_noKinds 6 = .ok (.iconst 0, 1) := by decide +kernel
theorem dX7_noKinds_7 : decode cX7_noKinds 7 = .ok (.putfield 133, 3) := by decide +kernel
theorem dX7_noKinds_10 : decode cX7_noKinds 10 = .ok (.aload_n 0, 1) := by decide +kernel
theorem dX7_noKinds_11 : decode cX7_noKinds 11 = .ok (.iconst 0, 1) := by decide +kernel
theorem dX7_noKinds_12 : decode cX7_noKinds 12 = .ok (.putfield 125, 3) := by decide +kernel
theorem dX7_noKinds_15 : decode cX7_noKinds 15 = .ok (.iload_n 1, 1) := by decide +kernel
theorem dX7_noKinds_16 : decode cX7_noKinds 16 = .ok (.ireturn, 1) := by decide +kernel
theorem dX7_noBars_0 : decode cX7_noBars 0 = .ok (.aload_n 0, 1) := by decide +kernel
theorem dX7_noBars_1 : decode cX7_noBars 1 = .ok (.getfield 192, 3) := by decide +kernel
theorem dX7_noBars_4 : decode cX7_noBars 4 = .ok (.aload_n 0, 1) := by decide +kernel
theorem dX7_noBars_5 : decode cX7_noBars 5 = .ok (.getfield 198, 3) := by decide +kernel
theorem dX7_noBars_8 : decode cX7_noBars 8 = .ok (.iadd, 1) := by decide +kernel
theorem dX7_noBars_9 : decode cX7_noBars 9 = .ok (.istore_n 1, 1) := by decide +kernel
theorem dX7_noBars_10 : decode cX7_noBars 10 = .ok (.aload_n 0, 1) := by decide +kernel
theorem dX7_noBars_11 : decode cX7_noBars 11 = .ok (.iconst 0, 1) := by decide +kernel
theorem dX7_noBars_12 : decode cX7_noBars 12 = .ok (.putfield 192, 3) := by decide +kernel
theorem dX7_noBars_15 : decode cX7_noBars 15 = .ok (.aload_n 0, 1) := by decide +kernel
theorem dX7_noBars_16 : decode cX7_noBars 16 = .ok (.iconst 0, 1) := by decide +kernel
theorem dX7_noBars_17 : decode cX7_noBars 17 = .ok (.putfield 198, 3) := by decide +kernel
theorem dX7_noBars_20 : decode cX7_noBars 20 = .ok (.aload_n 0, 1) := by decide +kernel
theorem dX7_noBars_21 : decode cX7_noBars 21 = .ok (.iconst 0, 1) := by decide +kernel
theorem dX7_noBars_22 : decode cX7_noBars 22 = .ok (.putfield 195, 3) := by decide +kernel
theorem dX7_noBars_25 : decode cX7_noBars 25 = .ok (.iload_n 1, 1) := by decide +kernel
theorem dX7_noBars_26 : decode cX7_noBars 26 = .ok (.ireturn, 1) := by decide +kernel
