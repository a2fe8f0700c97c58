set_option maxRecDepth 100000 in
theorem ggX7_layPart_X7_isPiece : GoodIn wsX7_layPart wsX7_isPiece := goodIn_r _ [19, 20, 21, 22, 23, 24, 25, 26, 27, 28, 29, 13, 30, 31, 32, 33, 34, 35, 36, 37, 38, 39, 40, 41, 42, 58, 59, 60, 61, 62, 63, 64, 65, 66, 67, 68, 69, 70, 71, 72, 73, 74, 75, 76, 77, 78, 79, 80, 81, 82, 83, 84, 85, 86, 87, 88, 89, 90, 91, 92, 93, 94, 95, 96, 97, 98, 99, 100, 101, 102, 103, 104] rfl (by decide +kernel)
set_option maxRecDepth 100000 in
theorem gX7_layPart_X7_isPiece : GoodIn wsX7_layPart (wsV RX7 181 RX7 yX7_isPiece wsX7_isPiece) := goodIn_app (goodIn_of _ (by decide +kernel)) ggX7_layPart_X7_isPiece
set_option maxRecDepth 100000 in
theorem ggX7_layPart_X7_wayOf : GoodIn wsX7_layPart wsX7_wayOf := goodIn_r _ [46, 47, 58, 59, 60, 61, 62, 63, 64, 65, 66, 67, 68, 69, 70, 71, 72, 73, 74, 75, 76, 77, 78, 79, 80, 81, 82, 83, 84, 85, 86, 87, 88, 89, 90, 91, 92, 93, 94, 95, 96, 97, 98, 99, 100, 101, 102, 103, 104] rfl (by decide +kernel)
set_option maxRecDepth 100000 in
theorem gX7_layPart_X7_wayOf : GoodIn wsX7_layPart (wsV RX7 142 RX7 yX7_wayOf wsX7_wayOf) := goodIn_app (goodIn_of _ (by decide +kernel)) ggX7_layPart_X7_wayOf
set_option maxRecDepth 100000 in
theorem ggX7_layPart_X7_both : GoodIn wsX7_layPart wsX7_both := goodIn_r _ [51, 1, 2, 43, 44, 45, 13, 46, 47, 10, 11, 12, 14, 15, 58, 59, 60, 61, 62, 63, 64, 65, 66, 67, 68, 69, 70, 71, 72, 73, 74, 75, 76, 77, 78, 79, 80, 81, 82, 83, 84, 85, 86, 87, 88, 89, 90, 91, 92, 93, 94, 95, 96, 97, 98, 99, 100, 101, 102, 103, 104] rfl (by decide +kernel)
set_option maxRecDepth 100000 in
theorem gX7_layPart_X7_both : GoodIn wsX7_layPart (wsV RX7 161 RX7 yX7_both wsX7_both) := goodIn_app (goodIn_of _ (by decide +kernel)) ggX7_layPart_X7_both
set_option maxRecDepth 100000 in
theorem ggX7_layPart_X7_lay : GoodIn wsX7_layPart wsX7_lay := goodIn_r _ [55, 56, 57, 58, 59, 60, 61, 62, 63, 64, 65, 66, 67, 68, 69, 70, 71, 72, 73, 74, 75, 76, 77, 78, 79, 80, 81, 82, 83, 84, 85, 86, 87, 88, 89, 90, 91, 92, 93, 94, 95, 96, 97, 98, 99, 100, 101, 102, 103, 104] rfl (by decide +kernel)
set_option maxRecDepth 100000 in
theorem gX7_layPart_X7_lay : GoodIn wsX7_layPart (wsV RX7 174 RX7 yX7_lay wsX7_lay) := goodIn_app (goodIn_of _ (by decide +kernel)) ggX7_layPart_X7_lay
theorem dX7_layPart_0 : decode cX7_layPart 0 = .ok (.aload_n 0, 1) := by decide +kernel
theorem dX7_layPart_1 : decode cX7_layPart 1 = .ok (.getfield 49, 3) := by decide +kernel
theorem dX7_layPart_4 : decode cX7_layPart 4 = .ok (.aload_n 0, 1) := by decide +kernel
theorem dX7_layPart_5 : decode cX7_layPart 5 = .ok (.iload_n 1, 1) := by decide +kernel
theorem dX7_layPart_6 : decode cX7_layPart 6 = .ok (.iload_n 2, 1) := by decide +kernel
theorem dX7_layPart_7 : decode cX7_layPart 7 = .ok (.iload_n 3, 1) := by decide +kernel
theorem dX7_layPart_8 : decode cX7_layPart 8 = .ok (.iload 4, 2) := by decide +kernel
theorem dX7_layPart_10 : decode cX7_layPart 10 = .ok (.iload 5, 2) := by decide +kernel
theorem dX7_layPart_12 : decode cX7_layPart 12 = .ok (.invokevirtual 146, 3) := by decide +kernel
theorem dX7_layPart_15 : decode cX7_layPart 15 = .ok (.iaload, 1) := by decide +kernel
theorem dX7_layPart_16 : decode cX7_layPart 16 = .ok (.istore 6, 2) := by decide +kernel
theorem dX7_layPart_18 : decode cX7_layPart 18 = .ok (.iload 6, 2) := by decide +kernel
theorem dX7_layPart_20 : decode cX7_layPart 20 = .ok (.ifCond .eq 18, 3) := by decide +kernel
theorem dX7_layPart_23 : decode cX7_layPart 23 = .ok (.aload_n 0, 1) := by decide +kernel
theorem dX7_layPart_24 : decode cX7_layPart 24 = .ok (.iload_n 2, 1) := by decide +kernel
theorem dX7_layPart_25 : decode cX7_layPart 25 = .ok (.iload_n 3, 1) := by decide +kernel
theorem dX7_layPart_26 : decode cX7_layPart 26 = .ok (.iload 4, 2) := by decide +kernel
theorem dX7_layPart_28 : decode cX7_layPart 28 = .ok (.iload 5, 2) := by decide +kernel
theorem dX7_layPart_30 : decode cX7_layPart 30 = .ok (.iload 6, 2) := by decide +kernel
theorem dX7_layPart_32 : decode cX7_layPart 32 = .ok (.invokevirtual 181, 3) := by decide +kernel
theorem dX7_layPart_35 : decode cX7_layPart 35 = .ok (.ifCond .eq 4, 3) := by decide +kernel
theorem dX7_layPart_38 : decode cX7_layPart 38 = .ok (.return_, 1) := by decide +kernel
theorem dX7_layPart_39 : decode cX7_layPart 39 = .ok (.aload_n 0, 1) := by decide +kernel
theorem dX7_layPart_40 : decode cX7_layPart 40 = .ok (.iload_n 1, 1) := by decide +kernel
theorem dX7_layPart_41 : decode cX7_layPart 41 = .ok (.invokevirtual 142, 3) := by decide +kernel
theorem dX7_layPart_44 : decode cX7_layPart 44 = .ok (.istore 7, 2) := by decide +kernel
theorem dX7_layPart_46 : decode cX7_layPart 46 = .ok (.iload 7, 2) := by decide +kernel
theorem dX7_layPart_48 : decode cX7_layPart 48 = .ok (.ifCond .ne 8, 3) := by decide +kernel
theorem dX7_layPart_51 : decode cX7_layPart 51 = .ok (.iload 4, 2) := by decide +kernel
theorem dX7_layPart_53 : decode cX7_layPart 53 = .ok (.goto 5, 3) := by decide +kernel
theorem dX7_layPart_56 : decode cX7_layPart 56 = .ok (.iload 5, 2) := by decide +kernel
theorem dX7_layPart_58 : decode cX7_layPart 58 = .ok (.istore 8, 2) := by decide +kernel
theorem dX7_layPart_60 : decode cX7_layPart 60 = .ok (.iconst 1, 1) := by decide +kernel
theorem dX7_layPart_61 : decode cX7_layPart 61 = .ok (.istore 9, 2) := by decide +kernel
theorem dX7_layPart_63 : decode cX7_layPart 63 = .ok (.iload 9, 2) := by decide +kernel
theorem dX7_layPart_65 : decode cX7_layPart 65 = .ok (.aload_n 0, 1) := by decide +kernel
theorem dX7_layPart_66 : decode cX7_layPart 66 = .ok (.getfield 116, 3) := by decide +kernel
theorem dX7_layPart_69 : decode cX7_layPart 69 = .ok (.iadd, 1) := by decide +kernel
theorem dX7_layPart_70 : decode cX7_layPart 70 = .ok (.iload 8, 2) := by decide +kernel
theorem dX7_layPart_72 : decode cX7_layPart 72 = .ok (.if_icmp .ge 199, 3) := by decide +kernel
theorem dX7_layPart_75 : decode cX7_layPart 75 = .ok (.aload_n 0, 1) := by decide +kernel
theorem dX7_layPart_76 : decode cX7_layPart 76 = .ok (.iload_n 1, 1) := by decide +kernel
theorem dX7_layPart_77 : decode cX7_layPart 77 = .ok (.iload_n 2, 1) := by decide +kernel
theorem dX7_layPart_78 : decode cX7_layPart 78 = .ok (.iload_n 3, 1) := by decide +kernel
theorem dX7_layPart_79 : decode cX7_layPart 79 = .ok (.iload 4, 2) := by decide +kernel
theorem dX7_layPart_81 : decode cX7_layPart 81 = .ok (.iload 5, 2) := by decide +kernel
theorem dX7_layPart_83 : decode cX7_layPart 83 = .ok (.iload 9, 2) := by decide +kernel
theorem dX7_layPart_85 : decode cX7_layPart 85 = .ok (.invokevirtual 161, 3) := by decide +kernel
theorem dX7_layPart_88 : decode cX7_layPart 88 = .ok (.iload 6, 2) := by decide +kernel
theorem dX7_layPart_90 : decode cX7_layPart 90 = .ok (.if_icmp .ne 175, 3) := by decide +kernel
theorem dX7_layPart_93 : decode cX7_layPart 93 = .ok (.aload_n 0, 1) := by decide +kernel
theorem dX7_layPart_94 : decode cX7_layPart 94 = .ok (.getfield 64, 3) := by decide +kernel
theorem dX7_layPart_97 : decode cX7_layPart 97 = .ok (.aload_n 0, 1) := by decide +kernel
theorem dX7_layPart_98 : decode cX7_layPart 98 = .ok (.getfield 171, 3) := by decide +kernel
theorem dX7_layPart_101 : decode cX7_layPart 101 = .ok (.iload_n 1, 1) := by decide +kernel
theorem dX7_layPart_102 : decode cX7_layPart 102 = .ok (.iastore, 1) := by decide +kernel
theorem dX7_layPart_103 : decode cX7_layPart 103 = .ok (.aload_n 0, 1) := by decide +kernel
theorem dX7_layPart_104 : decode cX7_layPart 104 = .ok (.getfield 67, 3) := by decide +kernel
theorem dX7_layPart_107 : decode cX7_layPart 107 = .ok (.aload_n 0, 1) := by decide +kernel
theorem dX7_layPart_108 : decode cX7_layPart 108 = .ok (.getfield 171, 3) := by decide +kernel
theorem dX7_layPart_111 : decode cX7_layPart 111 = .ok (.iload 7, 2) := by decide +kernel
theorem dX7_layPart_113 : decode cX7_layPart 113 = .ok (.ifCond .ne 10, 3) := by decide +kernel
theorem dX7_layPart_116 : decode cX7_layPart 116 = .ok (.iload_n 2, 1) := by decide +kernel
theorem dX7_layPart_117 : decode cX7_layPart 117 = .ok (.iload 9, 2) := by decide +kernel
theorem dX7_layPart_119 : decode cX7_layPart 119 = .ok (.iadd, 1) := by decide +kernel
theorem dX7_layPart_120 : decode cX7_layPart 120 = .ok (.goto 7, 3) := by decide +kernel
theorem dX7_layPart_123 : decode cX7_layPart 123 = .ok (.iload_n 3, 1) := by decide +kernel
theorem dX7_layPart_124 : decode cX7_layPart 124 = .ok (.iload 9, 2) := by decide +kernel
theorem dX7_layPart_126 : decode cX7_layPart 126 = .ok (.iadd, 1) := by decide +kernel
theorem dX7_layPart_127 : decode cX7_layPart 127 = .ok (.iastore, 1) := by decide +kernel
theorem dX7_layPart_128 : decode cX7_layPart 128 = .ok (.aload_n 0, 1) := by decide +kernel
theorem dX7_layPart_129 : decode cX7_layPart 129 = .ok (.getfield 70, 3) := by decide +kernel
theorem dX7_layPart_132 : decode cX7_layPart 132 = .ok (.aload_n 0, 1) := by decide +kernel
theorem dX7_layPart_133 : decode cX7_layPart 133 = .ok (.getfield 171, 3) := by decide +kernel
theorem dX7_layPart_136 : decode cX7_layPart 136 = .ok (.iload_n 2, 1) := by decide +kernel
theorem dX7_layPart_137 : decode cX7_layPart 137 = .ok (.iastore, 1) := by decide +kernel
theorem dX7_layPart_138 : decode cX7_layPart 138 = .ok (.aload_n 0, 1) := by decide +kernel
theorem dX7_layPart_139 : decode cX7_layPart 139 = .ok (.getfield 73, 3) := by decide +kernel
theorem dX7_layPart_142 : decode cX7_layPart 142 = .ok (.aload_n 0, 1) := by decide +kernel
theorem dX7_layPart_143 : decode cX7_layPart 143 = .ok (.getfield 171, 3) := by decide +kernel
theorem dX7_layPart_146 : decode cX7_layPart 146 = .ok (.iload_n 3, 1) := by decide +kernel
theorem dX7_layPart_147 : decode cX7_layPart 147 = .ok (.iastore, 1) := by decide +kernel
theorem dX7_layPart_148 : decode cX7_layPart 148 = .ok (.aload_n 0, 1) := by decide +kernel
theorem dX7_layPart_149 : decode cX7_layPart 149 = .ok (.getfield 76, 3) := by decide +kernel
theorem dX7_layPart_152 : decode cX7_layPart 152 = .ok (.aload_n 0, 1) := by decide +kernel
theorem dX7_layPart_153 : decode cX7_layPart 153 = .ok (.getfield 171, 3) := by decide +kernel
theorem dX7_layPart_156 : decode cX7_layPart 156 = .ok (.iload 4, 2) := by decide +kernel
theorem dX7_layPart_158 : decode cX7_layPart 158 = .ok (.iastore, 1) := by decide +kernel
theorem dX7_layPart_159 : decode cX7_layPart 159 = .ok (.aload_n 0, 1) := by decide +kernel
theorem dX7_layPart_160 : decode cX7_layPart 160 = .ok (.getfield 79, 3) := by decide +kernel
theorem dX7_layPart_163 : decode cX7_layPart 163 = .ok (.aload_n 0, 1) := by decide +kernel
theorem dX7_layPart_164 : decode cX7_layPart 164 = .ok (.getfield 171, 3) := by decide +kernel
theorem dX7_layPart_167 : decode cX7_layPart 167 = .ok (.iload 5, 2) := by decide +kernel
theorem dX7_layPart_169 : decode cX7_layPart 169 = .ok (.iastore, 1) := by decide +kernel
theorem dX7_layPart_170 : decode cX7_layPart 170 = .ok (.aload_n 0, 1) := by decide +kernel
theorem dX7_layPart_171 : decode cX7_layPart 171 = .ok (.dup, 1) := by decide +kernel
theorem dX7_layPart_172 : decode cX7_layPart 172 = .ok (.getfield 171, 3) := by decide +kernel
theorem dX7_layPart_175 : decode cX7_layPart 175 = .ok (.iconst 1, 1) := by decide +kernel
theorem dX7_layPart_176 : decode cX7_layPart 176 = .ok (.iadd, 1) := by decide +kernel
theorem dX7_layPart_177 : decode cX7_layPart 177 = .ok (.putfield 171, 3) := by decide +kernel
theorem dX7_layPart_180 : decode cX7_layPart 180 = .ok (.iload 7, 2) := by decide +kernel
theorem dX7_layPart_182 : decode cX7_layPart 182 = .ok (.ifCond .ne 44, 3) := by decide +kernel
theorem dX7_layPart_185 : decode cX7_layPart 185 = .ok (.aload_n 0, 1) := by decide +kernel
theorem dX7_layPart_186 : decode cX7_layPart 186 = .ok (.iload_n 1, 1) := by decide +kernel
theorem dX7_layPart_187 : decode cX7_layPart 187 = .ok (.iload_n 2, 1) := by decide +kernel
theorem dX7_layPart_188 : decode cX7_layPart 188 = .ok (.iload 9, 2) := by decide +kernel
theorem dX7_layPart_190 : decode cX7_layPart 190 = .ok (.iadd, 1) := by decide +kernel
theorem dX7_layPart_191 : decode cX7_layPart 191 = .ok (.aload_n 0, 1) := by decide +kernel
theorem dX7_layPart_192 : decode cX7_layPart 192 = .ok (.getfield 116, 3) := by decide +kernel
theorem dX7_layPart_195 : decode cX7_layPart 195 = .ok (.iadd, 1) := by decide +kernel
theorem dX7_layPart_196 : decode cX7_layPart 196 = .ok (.iload_n 3, 1) := by decide +kernel
theorem dX7_layPart_197 : decode cX7_layPart 197 = .ok (.iload 4, 2) := by decide +kernel
theorem dX7_layPart_199 : decode cX7_layPart 199 = .ok (.iload 9, 2) := by decide +kernel
theorem dX7_layPart_201 : decode cX7_layPart 201 = .ok (.isub, 1) := by decide +kernel
theorem dX7_layPart_202 : decode cX7_layPart 202 = .ok (.aload_n 0, 1) := by decide +kernel
theorem dX7_layPart_203 : decode cX7_layPart 203 = .ok (.getfield 116, 3) := by decide +kernel
theorem dX7_layPart_206 : decode cX7_layPart 206 = .ok (.isub, 1) := by decide +kernel
theorem dX7_layPart_207 : decode cX7_layPart 207 = .ok (.iload 5, 2) := by decide +kernel
theorem dX7_layPart_209 : decode cX7_layPart 209 = .ok (.invokevirtual 174, 3) := by decide +kernel
theorem dX7_layPart_212 : decode cX7_layPart 212 = .ok (.aload_n 0, 1) := by decide +kernel
theorem dX7_layPart_213 : decode cX7_layPart 213 = .ok (.iload_n 1, 1) := by decide +kernel
theorem dX7_layPart_214 : decode cX7_layPart 214 = .ok (.iload_n 2, 1) := by decide +kernel
theorem dX7_layPart_215 : decode cX7_layPart 215 = .ok (.iload_n 3, 1) := by decide +kernel
theorem dX7_layPart_216 : decode cX7_layPart 216 = .ok (.iload 9, 2) := by decide +kernel
theorem dX7_layPart_218 : decode cX7_layPart 218 = .ok (.iload 5, 2) := by decide +kernel
theorem dX7_layPart_220 : decode cX7_layPart 220 = .ok (.invokevirtual 174, 3) := by decide +kernel
theorem dX7_layPart_223 : decode cX7_layPart 223 = .ok (.goto 41, 3) := by decide +kernel
theorem dX7_layPart_226 : decode cX7_layPart 226 = .ok (.aload_n 0, 1) := by decide +kernel
theorem dX7_layPart_227 : decode cX7_layPart 227 = .ok (.iload_n 1, 1) := by decide +kernel
theorem dX7_layPart_228 : decode cX7_layPart 228 = .ok (.iload_n 2, 1) := by decide +kernel
theorem dX7_layPart_229 : decode cX7_layPart 229 = .ok (.iload_n 3, 1) := by decide +kernel
theorem dX7_layPart_230 : decode cX7_layPart 230 = .ok (.iload 9, 2) := by decide +kernel
theorem dX7_layPart_232 : decode cX7_layPart 232 = .ok (.iadd, 1) := by decide +kernel
theorem dX7_layPart_233 : decode cX7_layPart 233 = .ok (.aload_n 0, 1) := by decide +kernel
theorem dX7_layPart_234 : decode cX7_layPart 234 = .ok (.getfield 116, 3) := by decide +kernel
theorem dX7_layPart_237 : decode cX7_layPart 237 = .ok (.iadd, 1) := by decide +kernel
theorem dX7_layPart_238 : decode cX7_layPart 238 = .ok (.iload 4, 2) := by decide +kernel
theorem dX7_layPart_240 : decode cX7_layPart 240 = .ok (.iload 5, 2) := by decide +kernel
theorem dX7_layPart_242 : decode cX7_layPart 242 = .ok (.iload 9, 2) := by decide +kernel
theorem dX7_layPart_244 : decode cX7_layPart 244 = .ok (.isub, 1) := by decide +kernel
theorem dX7_layPart_245 : decode cX7_layPart 245 = .ok (.aload_n 0, 1) := by decide +kernel
theorem dX7_layPart_246 : decode cX7_layPart 246 = .ok (.getfield 116, 3) := by decide +kernel
theorem dX7_layPart_249 : decode cX7_layPart 249 = .ok (.isub, 1) := by decide +kernel
theorem dX7_layPart_250 : decode cX7_layPart 250 = .ok (.invokevirtual 174, 3) := by decide +kernel
theorem dX7_layPart_253 : decode cX7_layPart 253 = .ok (.aload_n 0, 1) := by decide +kernel
theorem dX7_layPart_254 : decode cX7_layPart 254 = .ok (.iload_n 1, 1) := by decide +kernel
theorem dX7_layPart_255 : decode cX7_layPart 255 = .ok (.iload_n 2, 1) := by decide +kernel
theorem dX7_layPart_256 : decode cX7_layPart 256 = .ok (.iload_n 3, 1) := by decide +kernel
theorem dX7_layPart_257 : decode cX7_layPart 257 = .ok (.iload 4, 2) := by decide +kernel
theorem dX7_layPart_259 : decode cX7_layPart 259 = .ok (.iload 9, 2) := by decide +kernel
theorem dX7_layPart_261 : decode cX7_layPart 261 = .ok (.invokevirtual 174, 3) := by decide +kernel
theorem dX7_layPart_264 : decode cX7_layPart 264 = .ok (.return_, 1) := by decide +kernel
theorem dX7_layPart_265 : decode cX7_layPart 265 = .ok (.iinc 9 1, 3) := by decide +kernel
theorem dX7_layPart_268 : decode cX7_layPart 268 = .ok (.goto (-205), 3) := by decide +kernel
theorem dX7_layPart_271 : decode cX7_layPart 271 = .ok (.aload_n 0, 1) := by decide +kernel
theorem dX7_layPart_272 : decode cX7_layPart 272 = .ok (.iload_n 1, 1) := by decide +kernel
theorem dX7_layPart_273 : decode cX7_layPart 273 = .ok (.iconst 1, 1) := by decide +kernel
theorem dX7_layPart_274 : decode cX7_layPart 274 = .ok (.iadd, 1) := by decide +kernel
theorem dX7_layPart_275 : decode cX7_layPart 275 = .ok (.iload_n 2, 1) := by decide +kernel
theorem dX7_layPart_276 : decode cX7_layPart 276 = .ok (.iload_n 3, 1) := by decide +kernel
theorem dX7_layPart_277 : decode cX7_layPart 277 = .ok (.iload 4, 2) := by decide +kernel
theorem dX7_layPart_279 : decode cX7_layPart 279 = .ok (.iload 5, 2) := by decide +kernel
theorem dX7_layPart_281 : decode cX7_layPart 281 = .ok (.invokevirtual 174, 3) := by decide +kernel
theorem dX7_layPart_284 : decode cX7_layPart 284 = .ok (.return_, 1) := by decide +kernel
set_option maxRecDepth 100000 in
theorem ggX7_isPiece_X7_isSpoiled : GoodIn wsX7_isPiece wsX7_isSpoiled := goodIn_r _ [12, 13, 14, 15, 16, 17, 25, 26, 27, 28, 29, 30, 31, 32, 33, 34, 35, 36, 37, 38, 39, 40, 41, 42, 43, 44, 45, 46, 47, 48, 49, 50, 51, 52, 53, 54, 55, 56, 57, 58, 59, 60, 61, 62, 63, 64, 65, 66, 67, 68, 69, 70, 71] rfl (by decide +kernel)
set_option maxRecDepth 100000 in
theorem gX7_isPiece_X7_isSpoiled : GoodIn wsX7_isPiece (wsV RX7 139 RX7 yX7_isSpoiled wsX7_isSpoiled) := goodIn_app (goodIn_of _ (by decide +kernel)) ggX7_isPiece_X7_isSpoiled
set_option maxRecDepth 100000 in
theorem ggX7_isPiece_X7_isLike : GoodIn wsX7_isPiece wsX7_isLike := goodIn_r _ [21, 22, 23, 24, 25, 26, 27, 28, 29, 30, 31, 32, 33, 34, 35, 36, 37, 38, 39, 40, 41, 42, 43, 44, 45, 46, 47, 48, 49, 50, 51, 52, 53, 54, 55, 56, 57, 58, 59, 60, 61, 62, 63, 64, 65, 66, 67, 68, 69, 70, 71] rfl (by decide +kernel)
set_option maxRecDepth 100000 in
theorem gX7_isPiece_X7_isLike : GoodIn wsX7_isPiece (wsV RX7 136 RX7 yX7_isLike wsX7_isLike) := goodIn_app (goodIn_of _ (by decide +kernel)) ggX7_isPiece_X7_isLike
theorem dX7_isPiece_0 : decode cX7_isPiece 0 = .ok (.aload_n 0, 1) := by decide +kernel
theorem dX7_isPiece_1 : decode cX7_isPiece 1 = .ok (.iload_n 1, 1) := by decide +kernel
theorem dX7_isPiece_2 : decode cX7_isPiece 2 = .ok (.iload_n 2, 1) := by decide +kernel
theorem dX7_isPiece_3 : decode cX7_isPiece 3 = .ok (.iload_n 3, 1) := by decide +kernel
theorem dX7_isPiece_4 : decode cX7_isPiece 4 = .ok (.iload 4, 2) := by decide +kernel
theorem dX7_isPiece_6 : decode cX7_isPiece 6 = .ok (.invokevirtual 139, 3) := by decide +kernel
theorem dX7_isPiece_9 : decode cX7_isPiece 9 = .ok (.ifCond .eq 5, 3) := by decide +kernel
theorem dX7_isPiece_12 : decode cX7_isPiece 12 = .ok (.iconst 0, 1) := by decide +kernel
theorem dX7_isPiece_13 : decode cX7_isPiece 13 = .ok (.ireturn, 1) := by decide +kernel
theorem dX7_isPiece_14 : decode cX7_isPiece 14 = .ok (.iconst 0, 1) := by decide +kernel
theorem dX7_isPiece_15 : decode cX7_isPiece 15 = .ok (.istore 6, 2) := by decide +kernel
theorem dX7_isPiece_17 : decode cX7_isPiece 17 = .ok (.iload 6, 2) := by decide +kernel
theorem dX7_isPiece_19 : decode cX7_isPiece 19 = .ok (.aload_n 0, 1) := by decide +kernel
theorem dX7_isPiece_20 : decode cX7_isPiece 20 = .ok (.getfield 133, 3) := by decide +kernel
theorem dX7_isPiece_23 : decode cX7_isPiece 23 = .ok (.if_icmp .ge 104, 3) := by decide +kernel
theorem dX7_isPiece_26 : decode cX7_isPiece 26 = .ok (.iconst 0, 1) := by decide +kernel
theorem dX7_isPiece_27 : decode cX7_isPiece 27 = .ok (.istore 7, 2) := by decide +kernel
theorem dX7_isPiece_29 : decode cX7_isPiece 29 = .ok (.iload 7, 2) := by decide +kernel
theorem dX7_isPiece_31 : decode cX7_isPiece 31 = .ok (.iconst 2, 1) := by decide +kernel
theorem dX7_isPiece_32 : decode cX7_isPiece 32 = .ok (.if_icmp .ge 89, 3) := by decide +kernel
theorem dX7_isPiece_35 : decode cX7_isPiece 35 = .ok (.aload_n 0, 1) := by decide +kernel
theorem dX7_isPiece_36 : decode cX7_isPiece 36 = .ok (.getfield 38, 3) := by decide +kernel
theorem dX7_isPiece_39 : decode cX7_isPiece 39 = .ok (.iload 6, 2) := by decide +kernel
theorem dX7_isPiece_41 : decode cX7_isPiece 41 = .ok (.iaload, 1) := by decide +kernel
theorem dX7_isPiece_42 : decode cX7_isPiece 42 = .ok (.iload 5, 2) := by decide +kernel
theorem dX7_isPiece_44 : decode cX7_isPiece 44 = .ok (.if_icmp .ne 71, 3) := by decide +kernel
theorem dX7_isPiece_47 : decode cX7_isPiece 47 = .ok (.aload_n 0, 1) := by decide +kernel
theorem dX7_isPiece_48 : decode cX7_isPiece 48 = .ok (.iload 6, 2) := by decide +kernel
theorem dX7_isPiece_50 : decode cX7_isPiece 50 = .ok (.iload 7, 2) := by decide +kernel
theorem dX7_isPiece_52 : decode cX7_isPiece 52 = .ok (.iload_n 3, 1) := by decide +kernel
theorem dX7_isPiece_53 : decode cX7_isPiece 53 = .ok (.iload 4, 2) := by decide +kernel
theorem dX7_isPiece_55 : decode cX7_isPiece 55 = .ok (.invokevirtual 136, 3) := by decide +kernel
theorem dX7_isPiece_58 : decode cX7_isPiece 58 = .ok (.ifCond .eq 57, 3) := by decide +kernel
theorem dX7_isPiece_61 : decode cX7_isPiece 61 = .ok (.aload_n 0, 1) := by decide +kernel
theorem dX7_isPiece_62 : decode cX7_isPiece 62 = .ok (.getfield 52, 3) := by decide +kernel
theorem dX7_isPiece_65 : decode cX7_isPiece 65 = .ok (.aload_n 0, 1) := by decide +kernel
theorem dX7_isPiece_66 : decode cX7_isPiece 66 = .ok (.getfield 168, 3) := by decide +kernel
theorem dX7_isPiece_69 : decode cX7_isPiece 69 = .ok (.iload 6, 2) := by decide +kernel
theorem dX7_isPiece_71 : decode cX7_isPiece 71 = .ok (.iastore, 1) := by decide +kernel
theorem dX7_isPiece_72 : decode cX7_isPiece 72 = .ok (.aload_n 0, 1) := by decide +kernel
theorem dX7_isPiece_73 : decode cX7_isPiece 73 = .ok (.getfield 55, 3) := by decide +kernel
theorem dX7_isPiece_76 : decode cX7_isPiece 76 = .ok (.aload_n 0, 1) := by decide +kernel
theorem dX7_isPiece_77 : decode cX7_isPiece 77 = .ok (.getfield 168, 3) := by decide +kernel
theorem dX7_isPiece_80 : decode cX7_isPiece 80 = .ok (.iload_n 1, 1) := by decide +kernel
theorem dX7_isPiece_81 : decode cX7_isPiece 81 = .ok (.iastore, 1) := by decide +kernel
theorem dX7_isPiece_82 : decode cX7_isPiece 82 = .ok (.aload_n 0, 1) := by decide +kernel
theorem dX7_isPiece_83 : decode cX7_isPiece 83 = .ok (.getfield 58, 3) := by decide +kernel
theorem dX7_isPiece_86 : decode cX7_isPiece 86 = .ok (.aload_n 0, 1) := by decide +kernel
theorem dX7_isPiece_87 : decode cX7_isPiece 87 = .ok (.getfield 168, 3) := by decide +kernel
theorem dX7_isPiece_90 : decode cX7_isPiece 90 = .ok (.iload_n 2, 1) := by decide +kernel
theorem dX7_isPiece_91 : decode cX7_isPiece 91 = .ok (.iastore, 1) := by decide +kernel
theorem dX7_isPiece_92 : decode cX7_isPiece 92 = .ok (.aload_n 0, 1) := by decide +kernel
theorem dX7_isPiece_93 : decode cX7_isPiece 93 = .ok (.getfield 61, 3) := by decide +kernel
theorem dX7_isPiece_96 : decode cX7_isPiece 96 = .ok (.aload_n 0, 1) := by decide +kernel
theorem dX7_isPiece_97 : decode cX7_isPiece 97 = .ok (.getfield 168, 3) := by decide +kernel
theorem dX7_isPiece_100 : decode cX7_isPiece 100 = .ok (.iload 7, 2) := by decide +kernel
theorem dX7_isPiece_102 : decode cX7_isPiece 102 = .ok (.iastore, 1) := by decide +kernel
theorem dX7_isPiece_103 : decode cX7_isPiece 103 = .ok (.aload_n 0, 1) := by decide +kernel
theorem dX7_isPiece_104 : decode cX7_isPiece 104 = .ok (.dup, 1) := by decide +kernel
theorem dX7_isPiece_105 : decode cX7_isPiece 105 = .ok (.getfield 168, 3) := by decide +kernel
theorem dX7_isPiece_108 : decode cX7_isPiece 108 = .ok (.iconst 1, 1) := by decide +kernel
theorem dX7_isPiece_109 : decode cX7_isPiece 109 = .ok (.iadd, 1) := by decide +kernel
theorem dX7_isPiece_110 : decode cX7_isPiece 110 = .ok (.putfield 168, 3) := by decide +kernel
theorem dX7_isPiece_113 : decode cX7_isPiece 113 = .ok (.iconst 1, 1) := by decide +kernel
theorem dX7_isPiece_114 : decode cX7_isPiece 114 = .ok (.ireturn, 1) := by decide +kernel
theorem dX7_isPiece_115 : decode cX7_isPiece 115 = .ok (.iinc 7 1, 3) := by decide +kernel
theorem dX7_isPiece_118 : decode cX7_isPiece 118 = .ok (.goto (-89), 3) := by decide +kernel
theorem dX7_isPiece_121 : decode cX7_isPiece 121 = .ok (.iinc 6 1, 3) := by decide +kernel
theorem dX7_isPiece_124 : decode cX7_isPiece 124 = .ok (.goto (-107), 3) := by decide +kernel
theorem dX7_isPiece_127 : decode cX7_isPiece 127 = .ok (.iconst 0, 1) := by decide +kernel
theorem dX7_isPiece_128 : decode cX7_isPiece 128 = .ok (.ireturn, 1) := by decide +kernel
set_option maxRecDepth 100000 in
theorem ggX7_worth_X7_lies : GoodIn wsX7_worth wsX7_lies := goodIn_r _ [7, 8, 9, 10, 11, 6, 12, 89, 90, 91, 92, 93, 94, 95, 96, 97, 98, 99, 100, 101, 102, 103, 104, 105, 106, 107, 108, 109, 110, 111, 112, 113, 114, 115, 116, 117, 118, 119, 120, 121, 122, 123, 124, 125, 126, 127, 128, 129, 130, 131, 132, 133, 134, 135] rfl (by decide +kernel)
set_option maxRecDepth 100000 in
theorem gX7_worth_X7_lies : GoodIn wsX7_worth (wsV RX7 129 RX7 yX7_lies wsX7_lies) := goodIn_app (goodIn_of _ (by decide +kernel)) ggX7_worth_X7_lies
set_option maxRecDepth 100000 in
theorem ggX7_worth_X7_within : GoodIn wsX7_worth wsX7_within := goodIn_r _ [12] rfl (by decide +kernel)
set_option maxRecDepth 100000 in
theorem gX7_worth_X7_within : GoodIn wsX7_worth (va_wsS RX7 112 yX7_within wsX7_within) := goodIn_app (goodIn_of _ (by decide +kernel)) ggX7_worth_X7_within
set_option maxRecDepth 100000 in
theorem ggX7_worth_X7_work : GoodIn wsX7_worth wsX7_work := goodIn_r _ [16, 17, 8, 9, 18, 19, 20, 6, 21, 1, 22, 2, 23, 24, 25, 26, 27, 28, 29, 30, 31, 32, 33, 34, 35, 36, 37, 38, 39, 40, 41, 42, 43, 44, 45, 46, 47, 48, 49, 50, 51, 52, 53, 54, 55, 56, 57, 58, 59, 60, 61, 62, 63, 64, 65, 66, 67, 68, 69, 70, 71, 72, 73, 74, 75, 76, 77, 78, 79, 80, 81, 82, 83, 84, 85, 86, 87, 88, 89, 90, 91, 92, 93, 94, 95, 96, 97, 98, 99, 100, 101, 102, 103, 104, 105, 106, 107, 108, 109, 110, 111, 112, 113, 114, 115, 116, 117, 118, 119, 120, 121, 122, 123, 124, 125, 126, 127, 128, 129, 130, 131, 132, 133, 134, 135] rfl (by decide +kernel)
set_option maxRecDepth 100000 in
theorem gX7_worth_X7_work : GoodIn wsX7_worth (wsV RX7 185 RX7 yX7_work wsX7_work) := goodIn_app (goodIn_of _ (by decide +kernel)) ggX7_worth_X7_work
set_option maxRecDepth 100000 in
theorem ggX7_worth_X7_at : GoodIn wsX7_worth wsX7_at := goodIn_r _ [57, 58, 89, 90, 91, 92, 93, 94, 95, 96, 97, 98, 99, 100, 101, 102, 103, 104, 105, 106, 107, 108, 109, 110, 111, 112, 113, 114, 115, 116, 117, 118, 119, 120, 121, 122, 123, 124, 125, 126, 127, 128, 129, 130, 131, 132, 133, 134, 135] rfl (by decide +kernel)
set_option maxRecDepth 100000 in
theorem gX7_worth_X7_at : GoodIn wsX7_worth (wsV RX7 146 RX7 yX7_at wsX7_at) := goodIn_app (goodIn_of _ (by decide +kernel)) ggX7_worth_X7_at
theorem dX7_worth_0 : decode cX7_worth 0 = .ok (.aload_n 0, 1) := by decide +kernel
theorem dX7_worth_1 : decode cX7_worth 1 = .ok (.iload_n 1, 1) := by decide +kernel
theorem dX7_worth_2 : decode cX7_worth 2 = .ok (.iload_n 2, 1) := by decide +kernel
theorem dX7_worth_3 : decode cX7_worth 3 = .ok (.iload_n 3, 1) := by decide +kernel
theorem dX7_worth_4 : decode cX7_worth 4 = .ok (.iload 4, 2) := by decide +kernel
theorem dX7_worth_6 : decode cX7_worth 6 = .ok (.invokevirtual 129, 3) := by decide +kernel
theorem dX7_worth_9 : decode cX7_worth 9 = .ok (.ifCond .eq 16, 3) := by decide +kernel
theorem dX7_worth_12 : decode cX7_worth 12 = .ok (.iload 5, 2) := by decide +kernel
theorem dX7_worth_14 : decode cX7_worth 14 = .ok (.iconst 1, 1) := by decide +kernel
theorem dX7_worth_15 : decode cX7_worth 15 = .ok (.aload_n 0, 1) := by decide +kernel
theorem dX7_worth_16 : decode cX7_worth 16 = .ok (.getfield 16, 3) := by decide +kernel
theorem dX7_worth_19 : decode cX7_worth 19 = .ok (.invokestatic 112, 3) := by decide +kernel
theorem dX7_worth_22 : decode cX7_worth 22 = .ok (.ifCond .ne 6, 3) := by decide +kernel
theorem dX7_worth_25 : decode cX7_worth 25 = .ok (.bipush (-3), 2) := by decide +kernel
theorem dX7_worth_27 : decode cX7_worth 27 = .ok (.ireturn, 1) := by decide +kernel
theorem dX7_worth_28 : decode cX7_worth 28 = .ok (.aload_n 0, 1) := by decide +kernel
theorem dX7_worth_29 : decode cX7_worth 29 = .ok (.invokevirtual 185, 3) := by decide +kernel
theorem dX7_worth_32 : decode cX7_worth 32 = .ok (.aload_n 0, 1) := by decide +kernel
theorem dX7_worth_33 : decode cX7_worth 33 = .ok (.getfield 49, 3) := by decide +kernel
theorem dX7_worth_36 : decode cX7_worth 36 = .ok (.aload_n 0, 1) := by decide +kernel
theorem dX7_worth_37 : decode cX7_worth 37 = .ok (.iload 5, 2) := by decide +kernel
theorem dX7_worth_39 : decode cX7_worth 39 = .ok (.iload_n 1, 1) := by decide +kernel
theorem dX7_worth_40 : decode cX7_worth 40 = .ok (.iload_n 2, 1) := by decide +kernel
theorem dX7_worth_41 : decode cX7_worth 41 = .ok (.iload_n 3, 1) := by decide +kernel
theorem dX7_worth_42 : decode cX7_worth 42 = .ok (.iload 4, 2) := by decide +kernel
theorem dX7_worth_44 : decode cX7_worth 44 = .ok (.invokevirtual 146, 3) := by decide +kernel
theorem dX7_worth_47 : decode cX7_worth 47 = .ok (.iaload, 1) := by decide +kernel
theorem dX7_worth_48 : decode cX7_worth 48 = .ok (.ireturn, 1) := by decide +kernel
set_option maxRecDepth 100000 in
theorem ggX7_pieces_X7_work : GoodIn wsX7_pieces wsX7_work := goodIn_r _ [6, 7, 8, 9, 10, 11, 12, 5, 13, 14, 15, 16, 17, 18, 19, 20, 21, 22, 23, 24, 25, 26, 27, 28, 29, 30, 31, 32, 33, 34, 35, 36, 37, 38, 39, 40, 41, 42, 43, 44, 45, 46, 47, 48, 49, 50, 51, 52, 53, 54, 55, 56, 1, 57, 58, 59, 60, 61, 62, 63, 64, 65, 66, 67, 68, 69, 70, 71, 72, 73, 74, 75, 76, 77, 78, 79, 80, 81, 82, 83, 84, 85, 86, 87, 88, 89, 90, 91, 92, 93, 94, 95, 96, 97, 98, 99, 100, 101, 102, 103, 104, 105, 106, 107, 108, 109, 110, 111, 112, 113, 114, 115, 116, 117, 118, 119, 120, 121, 122, 123, 124, 125, 126, 127, 128] rfl (by decide +kernel)
set_option maxRecDepth 100000 in
theorem gX7_pieces_X7_work : GoodIn wsX7_pieces (wsV RX7 185 RX7 yX7_work wsX7_work) := goodIn_app (goodIn_of _ (by decide +kernel)) ggX7_pieces_X7_work
theorem dX7_pieces_0 : decode cX7_pieces 0 = .ok (.aload_n 0, 1) := by decide +kernel
theorem dX7_pieces_1 : decode cX7_pieces 1 = .ok (.invokevirtual 185, 3) := by decide +kernel
theorem dX7_pieces_4 : decode cX7_pieces 4 = .ok (.aload_n 0, 1) := by decide +kernel
theorem dX7_pieces_5 : decode cX7_pieces 5 = .ok (.getfield 168, 3) := by decide +kernel
theorem dX7_pieces_8 : decode cX7_pieces 8 = .ok (.ireturn, 1) := by decide +kernel
theorem dX7_pieceSide_0 : decode cX7_pieceSide 0 = .ok (.aload_n 0, 1) := by decide +kernel
theorem dX7_pieceSide_1 : decode cX7_pieceSide 1 = .ok (.getfield 52, 3) := by decide +kernel
theorem dX7_pieceSide_4 : decode cX7_pieceSide 4 = .ok (.iload_n 1, 1) := by decide +kernel
theorem dX7_pieceSide_5 : decode cX7_pieceSide 5 = .ok (.iaload, 1) := by decide +kernel
theorem dX7_pieceSide_6 : decode cX7_pieceSide 6 = .ok (.istore_n 3, 1) := by decide +kernel
theorem dX7_pieceSide_7 : decode cX7_pieceSide 7 = .ok (.iload_n 2, 1) := by decide +kernel
theorem dX7_pieceSide_8 : decode cX7_pieceSide 8 = .ok (.aload_n 0, 1) := by decide +kernel
theorem dX7_pieceSide_9 : decode cX7_pieceSide 9 = .ok (.getfield 61, 3) := by decide +kernel
theorem dX7_pieceSide_12 : decode cX7_pieceSide 12 = .ok (.iload_n 1, 1) := by decide +kernel
theorem dX7_pieceSide_13 : decode cX7_pieceSide 13 = .ok (.iaload, 1) := by decide +kernel
theorem dX7_pieceSide_14 : decode cX7_pieceSide 14 = .ok (.ifCond .ne 7, 3) := by decide +kernel
theorem dX7_pieceSide_17 : decode cX7_pieceSide 17 = .ok (.iconst 1, 1) := by decide +kernel
theorem dX7_pieceSide_18 : decode cX7_pieceSide 18 = .ok (.goto 4, 3) := by decide +kernel
theorem dX7_pieceSide_21 : decode cX7_pieceSide 21 = .ok (.iconst 0, 1) := by decide +kernel
theorem dX7_pieceSide_22 : decode cX7_pieceSide 22 = .ok (.if_icmp .ne 12, 3) := by decide +kernel
theorem dX7_pieceSide_25 : decode cX7_pieceSide 25 = .ok (.aload_n 0, 1) := by decide +kernel
theorem dX7_pieceSide_26 : decode cX7_pieceSide 26 = .ok (.getfield 32, 3) := by decide +kernel
theorem dX7_pieceSide_29 : decode cX7_pieceSide 29 = .ok (.iload_n 3, 1) := by decide +kernel
theorem dX7_pieceSide_30 : decode cX7_pieceSide 30 = .ok (.iaload, 1) := by decide +kernel
theorem dX7_pieceSide_31 : decode cX7_pieceSide 31 = .ok (.goto 9, 3) := by decide +kernel
theorem dX7_pieceSide_34 : decode cX7_pieceSide 34 = .ok (.aload_n 0, 1) := by decide +kernel
theorem dX7_pieceSide_35 : decode cX7_pieceSide 35 = .ok (.getfield 35, 3) := by decide +kernel
theorem dX7_pieceSide_38 : decode cX7_pieceSide 38 = .ok (.iload_n 3, 1) := by decide +kernel
theorem dX7_pieceSide_39 : decode cX7_pieceSide 39 = .ok (.iaload, 1) := by decide +kernel
theorem dX7_pieceSide_40 : decode cX7_pieceSide 40 = .ok (.ireturn, 1) := by decide +kernel
set_option maxRecDepth 100000 in
theorem ggX7_piece_X7_within : GoodIn wsX7_piece wsX7_within := goodIn_r _ [9] rfl (by decide +kernel)
set_option maxRecDepth 100000 in
theorem gX7_piece_X7_within : GoodIn wsX7_piece (va_wsS RX7 112 yX7_within wsX7_within) := goodIn_app (goodIn_of _ (by decide +kernel)) ggX7_piece_X7_within
set_option maxRecDepth 100000 in
theorem ggX7_piece_X7_work : GoodIn wsX7_piece wsX7_work := goodIn_r _ [13, 14, 15, 16, 17, 18, 19, 8, 20, 21, 22, 23, 24, 25, 26, 27, 28, 29, 30, 31, 32, 33, 34, 35, 36, 37, 38, 39, 40, 41, 42, 43, 44, 45, 46, 47, 48, 49, 50, 51, 52, 53, 54, 55, 56, 57, 58, 59, 60, 61, 62, 63, 1, 64, 65, 66, 67, 68, 69, 70, 71, 72, 73, 74, 75, 76, 77, 78, 79, 80, 81, 82, 83, 84, 2, 3, 4, 5, 89, 90, 91, 92, 93, 94, 95, 96, 97, 98, 99, 100, 101, 102, 103, 104, 105, 106, 107, 108, 109, 110, 111, 112, 113, 114, 115, 116, 117, 118, 119, 120, 121, 122, 123, 124, 125, 126, 127, 128, 129, 130, 131, 132, 133, 134, 135] rfl (by decide +kernel)
set_option maxRecDepth 100000 in
theorem gX7_piece_X7_work : GoodIn wsX7_piece (wsV RX7 185 RX7 yX7_work wsX7_work) := goodIn_app (goodIn_of _ (by decide +kernel)) ggX7_piece_X7_work
set_option maxRecDepth 100000 in
theorem ggX7_piece_X7_pieceSide : GoodIn wsX7_piece wsX7_pieceSide := goodIn_r _ [88, 2, 5, 34, 35, 89, 90, 91, 92, 93, 94, 95, 96, 97, 98, 99, 100, 101, 102, 103, 104, 105, 106, 107, 108, 109, 110, 111, 112, 113, 114, 115, 116, 117, 118, 119, 120, 121, 122, 123, 124, 125, 126, 127, 128, 129, 130, 131, 132, 133, 134, 135] rfl (by decide +kernel)
set_option maxRecDepth 100000 in
theorem gX7_piece_X7_pieceSide : GoodIn wsX7_piece (wsV RX7 188 RX7 yX7_pieceSide wsX7_pieceSide) := goodIn_app (goodIn_of _ (by decide +kernel)) ggX7_piece_X7_pieceSide
theorem dX7_piece_0 : decode cX7_piece 0 = .ok (.iload_n 2, 1) := by decide +kernel
theorem dX7_piece_1 : decode cX7_piece 1 = .ok (.iconst 0, 1) := by decide +kernel
theorem dX7_piece_2 : decode cX7_piece 2 = .ok (.iconst 5, 1) := by decide +kernel
theorem dX7_piece_3 : decode cX7_piece 3 = .ok (.invokestatic 112, 3) := by decide +kernel
theorem dX7_piece_6 : decode cX7_piece 6 = .ok (.ifCond .ne 6, 3) := by decide +kernel
theorem dX7_piece_9 : decode cX7_piece 9 = .ok (.bipush (-3), 2) := by decide +kernel
theorem dX7_piece_11 : decode cX7_piece 11 = .ok (.ireturn, 1) := by decide +kernel
theorem dX7_piece_12 : decode cX7_piece 12 = .ok (.aload_n 0, 1) := by decide +kernel
theorem dX7_piece_13 : decode cX7_piece 13 = .ok (.invokevirtual 185, 3) := by decide +kernel
theorem dX7_piece_16 : decode cX7_piece 16 = .ok (.iload_n 1, 1) := by decide +kernel
theorem dX7_piece_17 : decode cX7_piece 17 = .ok (.iconst 0, 1) := by decide +kernel
theorem dX7_piece_18 : decode cX7_piece 18 = .ok (.aload_n 0, 1) := by decide +kernel
theorem dX7_piece_19 : decode cX7_piece 19 = .ok (.getfield 168, 3) := by decide +kernel
theorem dX7_piece_22 : decode cX7_piece 22 = .ok (.iconst 1, 1) := by decide +kernel
theorem dX7_piece_23 : decode cX7_piece 23 = .ok (.isub, 1) := by decide +kernel
theorem dX7_piece_24 : decode cX7_piece 24 = .ok (.invokestatic 112, 3) := by decide +kernel
theorem dX7_piece_27 : decode cX7_piece 27 = .ok (.ifCond .ne 5, 3) := by decide +kernel
theorem dX7_piece_30 : decode cX7_piece 30 = .ok (.iconst (-1), 1) := by decide +kernel
theorem dX7_piece_31 : decode cX7_piece 31 = .ok (.ireturn, 1) := by decide +kernel
theorem dX7_piece_32 : decode cX7_piece 32 = .ok (.iload_n 2, 1) := by decide +kernel
theorem dX7_piece_33 : decode cX7_piece 33 = .ok (.tableswitch 70 0 4 #[35, 42, 49, 56, 63], 35) := by decide +kernel
theorem dX7_piece_68 : decode cX7_piece 68 = .ok (.aload_n 0, 1) := by decide +kernel
theorem dX7_piece_69 : decode cX7_piece 69 = .ok (.getfield 52, 3) := by decide +kernel
theorem dX7_piece_72 : decode cX7_piece 72 = .ok (.iload_n 1, 1) := by decide +kernel
theorem dX7_piece_73 : decode cX7_piece 73 = .ok (.iaload, 1) := by decide +kernel
theorem dX7_piece_74 : decode cX7_piece 74 = .ok (.ireturn, 1) := by decide +kernel
theorem dX7_piece_75 : decode cX7_piece 75 = .ok (.aload_n 0, 1) := by decide +kernel
theorem dX7_piece_76 : decode cX7_piece 76 = .ok (.getfield 55, 3) := by decide +kernel
theorem dX7_piece_79 : decode cX7_piece 79 = .ok (.iload_n 1, 1) := by decide +kernel
theorem dX7_piece_80 : decode cX7_piece 80 = .ok (.iaload, 1) := by decide +kernel
theorem dX7_piece_81 : decode cX7_piece 81 = .ok (.ireturn, 1) := by decide +kernel
theorem dX7_piece_82 : decode cX7_piece 82 = .ok (.aload_n 0, 1) := by decide +kernel
theorem dX7_piece_83 : decode cX7_piece 83 = .ok (.getfield 58, 3) := by decide +kernel
theorem dX7_piece_86 : decode cX7_piece 86 = .ok (.iload_n 1, 1) := by decide +kernel
theorem dX7_piece_87 : decode cX7_piece 87 = .ok (.iaload, 1) := by decide +kernel
theorem dX7_piece_88 : decode cX7_piece 88 = .ok (.ireturn, 1) := by decide +kernel
theorem dX7_piece_89 : decode cX7_piece 89 = .ok (.aload_n 0, 1) := by decide +kernel
theorem dX7_piece_90 : decode cX7_piece 90 = .ok (.iload_n 1, 1) := by decide +kernel
theorem dX7_piece_91 : decode cX7_piece 91 = .ok (.iconst 1, 1) := by decide +kernel
theorem dX7_piece_92 : decode cX7_piece 92 = .ok (.invokevirtual 188, 3) := by decide +kernel
theorem dX7_piece_95 : decode cX7_piece 95 = .ok (.ireturn, 1) := by decide +kernel
theorem dX7_piece_96 : decode cX7_piece 96 = .ok (.aload_n 0, 1) := by decide +kernel
theorem dX7_piece_97 : decode cX7_piece 97 = .ok (.iload_n 1, 1) := by decide +kernel
theorem dX7_piece_98 : decode cX7_piece 98 = .ok (.iconst 0, 1) := by decide +kernel
theorem dX7_piece_99 : decode cX7_piece 99 = .ok (.invokevirtual 188, 3) := by decide +kernel
theorem dX7_piece_102 : decode cX7_piece 102 = .ok (.ireturn, 1) := by decide +kernel
theorem dX7_piece_103 : decode cX7_piece 103 = .ok (.aload_n 0, 1) := by decide +kernel
theorem dX7_piece_104 : decode cX7_piece 104 = .ok (.getfield 61, 3) := by decide +kernel
theorem dX7_piece_107 : decode cX7_piece 107 = .ok (.iload_n 1, 1) := by decide +kernel
theorem dX7_piece_108 : decode cX7_piece 108 = .ok (.iaload, 1) := by decide +kernel
theorem dX7_piece_109 : decode cX7_piece 109 = .ok (.ireturn, 1) := by decide +kernel
set_option maxRecDepth 100000 in
theorem ggX7_cuts_X7_work : GoodIn wsX7_cuts wsX7_work := goodIn_r _ [6, 7, 8, 9, 10, 11, 12, 5, 13, 14, 15, 16, 17, 18, 19, 20, 21, 22, 23, 24, 25, 26, 27, 28, 29, 30, 31, 32, 33, 34, 35, 36, 37, 38, 39, 40, 41, 42, 43, 44, 45, 46, 47, 48, 49, 50, 51, 52, 53, 54, 55, 56, 57, 1, 58, 59, 60, 61, 62, 63, 64, 65, 66, 67, 68, 69, 70, 71, 72, 73, 74, 75, 76, 77, 78, 79, 80, 81, 82, 83, 84, 85, 86, 87, 88, 89, 90, 91, 92, 93, 94, 95, 96, 97, 98, 99, 100, 101, 102, 103, 104, 105, 106, 107, 108, 109, 110, 111, 112, 113, 114, 115, 116, 117, 118, 119, 120, 121, 122, 123, 124, 125, 126, 127, 128] rfl (by decide +kernel)
set_option maxRecDepth 100000 in
theorem gX7_cuts_X7_work : GoodIn wsX7_cuts (wsV RX7 185 RX7 yX7_work wsX7_work) := goodIn_app (goodIn_of _ (by decide +kernel)) ggX7_cuts_X7_work
theorem dX7_cuts_0 : decode cX7_cuts 0 = .ok (.aload_n 0, 1) := by decide +kernel
theorem dX7_cuts_1 : decode cX7_cuts 1 = .ok (.invokevirtual 185, 3) := by decide +kernel
theorem dX7_cuts_4 : decode cX7_cuts 4 = .ok (.aload_n 0, 1) := by decide +kernel
theorem dX7_cuts_5 : decode cX7_cuts 5 = .ok (.getfield 171, 3) := by decide +kernel
theorem dX7_cuts_8 : decode cX7_cuts 8 = .ok (.ireturn, 1) := by decide +kernel
set_option maxRecDepth 100000 in
theorem ggX7_cut_X7_within : GoodIn wsX7_cut wsX7_within := goodIn_r _ [11] rfl (by decide +kernel)
set_option maxRecDepth 100000 in
theorem gX7_cut_X7_within : GoodIn wsX7_cut (va_wsS RX7 112 yX7_within wsX7_within) := goodIn_app (goodIn_of _ (by decide +kernel)) ggX7_cut_X7_within
set_option maxRecDepth 100000 in
theorem ggX7_cut_X7_work : GoodIn wsX7_cut wsX7_work := goodIn_r _ [15, 16, 17, 18, 19, 20, 21, 10, 22, 23, 24, 25, 26, 27, 28, 29, 30, 31, 32, 33, 34, 35, 36, 37, 38, 39, 40, 41, 42, 43, 44, 45, 46, 47, 48, 49, 50, 51, 52, 53, 54, 55, 56, 57, 58, 59, 60, 61, 62, 63, 64, 65, 66, 1, 67, 68, 69, 70, 71, 72, 73, 74, 75, 76, 2, 3, 4, 5, 6, 7, 77, 78, 79, 80, 81, 82, 83, 84, 85, 86, 87, 88, 89, 90, 91, 92, 93, 94, 95, 96, 97, 98, 99, 100, 101, 102, 103, 104, 105, 106, 107, 108, 109, 110, 111, 112, 113, 114, 115, 116, 117, 118, 119, 120, 121, 122, 123, 124, 125, 126, 127, 128, 129, 130, 131] rfl (by decide +kernel)
set_option maxRecDepth 100000 in
theorem gX7_cut_X7_work : GoodIn wsX7_cut (wsV RX7 185 RX7 yX7_work wsX7_work) := goodIn_app (goodIn_of _ (by decide +kernel)) ggX7_cut_X7_work
set_option maxRecDepth 100000 in
theorem ggX7_cut_X7_wayOf : GoodIn wsX7_cut wsX7_wayOf := goodIn_r _ [51, 52, 85, 86, 87, 88, 89, 90, 91, 92, 93, 94, 95, 96, 97, 98, 99, 100, 101, 102, 103, 104, 105, 106, 107, 108, 109, 110, 111, 112, 113, 114, 115, 116, 117, 118, 119, 120, 121, 122, 123, 124, 125, 126, 127, 128, 129, 130, 131] rfl (by decide +kernel)
set_option maxRecDepth 100000 in
theorem gX7_cut_X7_wayOf : GoodIn wsX7_cut (wsV RX7 142 RX7 yX7_wayOf wsX7_wayOf) := goodIn_app (goodIn_of _ (by decide +kernel)) ggX7_cut_X7_wayOf
theorem dX7_cut_0 : decode cX7_cut 0 = .ok (.iload_n 2, 1) := by decide +kernel
theorem dX7_cut_1 : decode cX7_cut 1 = .ok (.iconst 0, 1) := by decide +kernel
theorem dX7_cut_2 : decode cX7_cut 2 = .ok (.bipush 6, 2) := by decide +kernel
theorem dX7_cut_4 : decode cX7_cut 4 = .ok (.invokestatic 112, 3) := by decide +kernel
theorem dX7_cut_7 : decode cX7_cut 7 = .ok (.ifCond .ne 6, 3) := by decide +kernel
theorem dX7_cut_10 : decode cX7_cut 10 = .ok (.bipush (-3), 2) := by decide +kernel
theorem dX7_cut_12 : decode cX7_cut 12 = .ok (.ireturn, 1) := by decide +kernel
theorem dX7_cut_13 : decode cX7_cut 13 = .ok (.aload_n 0, 1) := by decide +kernel
theorem dX7_cut_14 : decode cX7_cut 14 = .ok (.invokevirtual 185, 3) := by decide +kernel
theorem dX7_cut_17 : decode cX7_cut 17 = .ok (.iload_n 1, 1) := by decide +kernel
theorem dX7_cut_18 : decode cX7_cut 18 = .ok (.iconst 0, 1) := by decide +kernel
theorem dX7_cut_19 : decode cX7_cut 19 = .ok (.aload_n 0, 1) := by decide +kernel
theorem dX7_cut_20 : decode cX7_cut 20 = .ok (.getfield 171, 3) := by decide +kernel
theorem dX7_cut_23 : decode cX7_cut 23 = .ok (.iconst 1, 1) := by decide +kernel
theorem dX7_cut_24 : decode cX7_cut 24 = .ok (.isub, 1) := by decide +kernel
theorem dX7_cut_25 : decode cX7_cut 25 = .ok (.invokestatic 112, 3) := by decide +kernel
theorem dX7_cut_28 : decode cX7_cut 28 = .ok (.ifCond .ne 5, 3) := by decide +kernel
theorem dX7_cut_31 : decode cX7_cut 31 = .ok (.iconst (-1), 1) := by decide +kernel
theorem dX7_cut_32 : decode cX7_cut 32 = .ok (.ireturn, 1) := by decide +kernel
theorem dX7_cut_33 : decode cX7_cut 33 = .ok (.iload_n 2, 1) := by decide +kernel
theorem dX7_cut_34 : decode cX7_cut 34 = .ok (.tableswitch 84 0 5 #[38, 45, 56, 63, 70, 77], 38) := by decide +kernel
theorem dX7_cut_72 : decode cX7_cut 72 = .ok (.aload_n 0, 1) := by decide +kernel
theorem dX7_cut_73 : decode cX7_cut 73 = .ok (.getfield 64, 3) := by decide +kernel
theorem dX7_cut_76 : decode cX7_cut 76 = .ok (.iload_n 1, 1) := by decide +kernel
theorem dX7_cut_77 : decode cX7_cut 77 = .ok (.iaload, 1) := by decide +kernel
theorem dX7_cut_78 : decode cX7_cut 78 = .ok (.ireturn, 1) := by decide +kernel
theorem dX7_cut_79 : decode cX7_cut 79 = .ok (.aload_n 0, 1) := by decide +kernel
theorem dX7_cut_80 : decode cX7_cut 80 = .ok (.aload_n 0, 1) := by decide +kernel
theorem dX7_cut_81 : decode cX7_cut 81 = .ok (.getfield 64, 3) := by decide +kernel
theorem dX7_cut_84 : decode cX7_cut 84 = .ok (.iload_n 1, 1) := by decide +kernel
theorem dX7_cut_85 : decode cX7_cut 85 = .ok (.iaload, 1) := by decide +kernel
theorem dX7_cut_86 : decode cX7_cut 86 = .ok (.invokevirtual 142, 3) := by decide +kernel
theorem dX7_cut_89 : decode cX7_cut 89 = .ok (.ireturn, 1) := by decide +kernel
theorem dX7_cut_90 : decode cX7_cut 90 = .ok (.aload_n 0, 1) := by decide +kernel
theorem dX7_cut_91 : decode cX7_cut 91 = .ok (.getfield 67, 3) := by decide +kernel
theorem dX7_cut_94 : decode cX7_cut 94 = .ok (.iload_n 1, 1) := by decide +kernel
theorem dX7_cut_95 : decode cX7_cut 95 = .ok (.iaload, 1) := by decide +kernel
theorem dX7_cut_96 : decode cX7_cut 96 = .ok (.ireturn, 1) := by decide +kernel
theorem dX7_cut_97 : decode cX7_cut 97 = .ok (.aload_n 0, 1) := by decide +kernel
theorem dX7_cut_98 : decode cX7_cut 98 = .ok (.getfield 70, 3) := by decide +kernel
theorem dX7_cut_101 : decode cX7_cut 101 = .ok (.iload_n 1, 1) := by decide +kernel
theorem dX7_cut_102 : decode cX7_cut 102 = .ok (.iaload, 1) := by decide +kernel
theorem dX7_cut_103 : decode cX7_cut 103 = .ok (.ireturn, 1) := by decide +kernel
theorem dX7_cut_104 : decode cX7_cut 104 = .ok (.aload_n 0, 1) := by decide +kernel
theorem dX7_cut_105 : decode cX7_cut 105 = .ok (.getfield 73, 3) := by decide +kernel
theorem dX7_cut_108 : decode cX7_cut 108 = .ok (.iload_n 1, 1) := by decide +kernel
theorem dX7_cut_109 : decode cX7_cut 109 = .ok (.iaload, 1) := by decide +kernel
theorem dX7_cut_110 : decode cX7_cut 110 = .ok (.ireturn, 1) := by decide +kernel
theorem dX7_cut_111 : decode cX7_cut 111 = .ok (.aload_n 0, 1) := by decide +kernel
theorem dX7_cut_112 : decode cX7_cut 112 = .ok (.getfield 76, 3) := by decide +kernel
theorem dX7_cut_115 : decode cX7_cut 115 = .ok (.iload_n 1, 1) := by decide +kernel
theorem dX7_cut_116 : decode cX7_cut 116 = .ok (.iaload, 1) := by decide +kernel
theorem dX7_cut_117 : decode cX7_cut 117 = .ok (.ireturn, 1) := by decide +kernel
theorem dX7_cut_118 : decode cX7_cut 118 = .ok (.aload_n 0, 1) := by decide +kernel
theorem dX7_cut_119 : decode cX7_cut 119 = .ok (.getfield 79, 3) := by decide +kernel
theorem dX7_cut_122 : decode cX7_cut 122 = .ok (.iload_n 1, 1) := by decide +kernel
theorem dX7_cut_123 : decode cX7_cut 123 = .ok (.iaload, 1) := by decide +kernel
theorem dX7_cut_124 : decode cX7_cut 124 = .ok (.ireturn, 1) := by decide +kernel
set_option maxRecDepth 100000 in
theorem ggX7_waste_X7_work : GoodIn wsX7_waste wsX7_work := goodIn_r _ [11, 12, 1, 2, 13, 14, 15, 10, 16, 17, 18, 19, 20, 21, 22, 23, 24, 25, 26, 27, 28, 29, 4, 6, 30, 31, 32, 33, 34, 35, 36, 37, 38, 39, 40, 41, 42, 43, 44, 45, 46, 47, 48, 49, 50, 51, 52, 53, 54, 55, 56, 57, 3, 58, 59, 60, 61, 62, 63, 64, 65, 66, 67, 68, 69, 70, 71, 72, 73, 74, 75, 76, 77, 78, 5, 79, 80, 81, 82, 83, 84, 85, 86, 87, 88, 89, 90, 91, 92, 93, 94, 95, 96, 97, 98, 99, 100, 101, 102, 103, 104, 105, 106, 107, 108, 109, 110, 111, 112, 113, 114, 115, 116, 117, 118, 119, 120, 121, 122, 123, 124, 125, 126, 127, 128] rfl (by decide +kernel)
set_option maxRecDepth 100000 in
theorem gX7_waste_X7_work : GoodIn wsX7_waste (wsV RX7 185 RX7 yX7_work wsX7_work) := goodIn_app (goodIn_of _ (by decide +kernel)) ggX7_waste_X7_work
theorem dX7_waste_0 : decode cX7_waste 0 = .ok (.aload_n 0, 1) := by decide +kernel
theorem dX7_waste_1 : decode cX7_waste 1 = .ok (.invokevirtual 185, 3) := by decide +kernel
theorem dX7_waste_4 : decode cX7_waste 4 = .ok (.aload_n 0, 1) := by decide +kernel
theorem dX7_waste_5 : decode cX7_waste 5 = .ok (.getfield 7, 3) := by decide +kernel
theorem dX7_waste_8 : decode cX7_waste 8 = .ok (.aload_n 0, 1) := by decide +kernel
theorem dX7_waste_9 : decode cX7_waste 9 = .ok (.getfield 13, 3) := by decide +kernel
theorem dX7_waste_12 : decode cX7_waste 12 = .ok (.imul, 1) := by decide +kernel
theorem dX7_waste_13 : decode cX7_waste 13 = .ok (.istore_n 1, 1) := by decide +kernel
theorem dX7_waste_14 : decode cX7_waste 14 = .ok (.iconst 0, 1) := by decide +kernel
theorem dX7_waste_15 : decode cX7_waste 15 = .ok (.istore_n 2, 1) := by decide +kernel
theorem dX7_waste_16 : decode cX7_waste 16 = .ok (.iload_n 2, 1) := by decide +kernel
theorem dX7_waste_17 : decode cX7_waste 17 = .ok (.aload_n 0, 1) := by decide +kernel
theorem dX7_waste_18 : decode cX7_waste 18 = .ok (.getfield 168, 3) := by decide +kernel
theorem dX7_waste_21 : decode cX7_waste 21 = .ok (.if_icmp .ge 35, 3) := by decide +kernel
theorem dX7_waste_24 : decode cX7_waste 24 = .ok (.iload_n 1, 1) := by decide +kernel
theorem dX7_waste_25 : decode cX7_waste 25 = .ok (.aload_n 0, 1) := by decide +kernel
theorem dX7_waste_26 : decode cX7_waste 26 = .ok (.getfield 32, 3) := by decide +kernel
theorem dX7_waste_29 : decode cX7_waste 29 = .ok (.aload_n 0, 1) := by decide +kernel
theorem dX7_waste_30 : decode cX7_waste 30 = .ok (.getfield 52, 3) := by decide +kernel
theorem dX7_waste_33 : decode cX7_waste 33 = .ok (.iload_n 2, 1) := by decide +kernel
theorem dX7_waste_34 : decode cX7_waste 34 = .ok (.iaload, 1) := by decide +kernel
theorem dX7_waste_35 : decode cX7_waste 35 = .ok (.iaload, 1) := by decide +kernel
theorem dX7_waste_36 : decode cX7_waste 36 = .ok (.aload_n 0, 1) := by decide +kernel
theorem dX7_waste_37 : decode cX7_waste 37 = .ok (.getfield 35, 3) := by decide +kernel
theorem dX7_waste_40 : decode cX7_waste 40 = .ok (.aload_n 0, 1) := by decide +kernel
theorem dX7_waste_41 : decode cX7_waste 41 = .ok (.getfield 52, 3) := by decide +kernel
theorem dX7_waste_44 : decode cX7_waste 44 = .ok (.iload_n 2, 1) := by decide +kernel
theorem dX7_waste_45 : decode cX7_waste 45 = .ok (.iaload, 1) := by decide +kernel
theorem dX7_waste_46 : decode cX7_waste 46 = .ok (.iaload, 1) := by decide +kernel
theorem dX7_waste_47 : decode cX7_waste 47 = .ok (.imul, 1) := by decide +kernel
theorem dX7_waste_48 : decode cX7_waste 48 = .ok (.isub, 1) := by decide +kernel
theorem dX7_waste_49 : decode cX7_waste 49 = .ok (.istore_n 1, 1) := by decide +kernel
theorem dX7_waste_50 : decode cX7_waste 50 = .ok (.iinc 2 1, 3) := by decide +kernel
theorem dX7_waste_53 : decode cX7_waste 53 = .ok (.goto (-37), 3) := by decide +kernel
theorem dX7_waste_56 : decode cX7_waste 56 = .ok (.iload_n 1, 1) := by decide +kernel
theorem dX7_waste_57 : decode cX7_waste 57 = .ok (.ireturn, 1) := by decide +kernel
set_option maxRecDepth 100000 in
theorem ggX7_stock_X7_within : GoodIn wsX7_stock wsX7_within := goodIn_r _ [8] rfl (by decide +kernel)
set_option maxRecDepth 100000 in
theorem gX7_stock_X7_within : GoodIn wsX7_stock (va_wsS RX7 112 yX7_within wsX7_within) := goodIn_app (goodIn_of _ (by decide +kernel)) ggX7_stock_X7_within
theorem dX7_stock_0 : decode cX7_stock 0 = .ok (.iload_n 1, 1) := by decide +kernel
theorem dX7_stock_1 : decode cX7_stock 1 = .ok (.iconst 1, 1) := by decide +kernel
theorem dX7_stock_2 : decode cX7_stock 2 = .ok (.bipush 99, 2) := by decide +kernel
theorem dX7_stock_4 : decode cX7_stock 4 = .ok (.invokestatic 112, 3) := by decide +kernel
theorem dX7_stock_7 : decode cX7_stock 7 = .ok (.ifCond .eq 13, 3) := by decide +kernel
theorem dX7_stock_10 : decode cX7_stock 10 = .ok (.iload_n 2, 1) := by decide +kernel
theorem dX7_stock_11 : decode cX7_stock 11 = .ok (.iconst 1, 1) := by decide +kernel
theorem dX7_stock_12 : decode cX7_stock 12 = .ok (.bipush 100, 2) := by decide +kernel
theorem dX7_stock_14 : decode cX7_stock 14 = .ok (.invokestatic 112, 3) := by decide +kernel
theorem dX7_stock_17 : decode cX7_stock 17 = .ok (.ifCond .ne 6, 3) := by decide +kernel
theorem dX7_stock_20 : decode cX7_stock 20 = .ok (.bipush (-3), 2) := by decide +kernel
theorem dX7_stock_22 : decode cX7_stock 22 = .ok (.ireturn, 1) := by decide +kernel
theorem dX7_stock_23 : decode cX7_stock 23 = .ok (.aload_n 0, 1) := by decide +kernel
theorem dX7_stock_24 : decode cX7_stock 24 = .ok (.getfield 192, 3) := by decide +kernel
theorem dX7_stock_27 : decode cX7_stock 27 = .ok (.iconst 3, 1) := by decide +kernel
theorem dX7_stock_28 : decode cX7_stock 28 = .ok (.if_icmp .ne 6, 3) := by decide +kernel
theorem dX7_stock_31 : decode cX7_stock 31 = .ok (.bipush (-4), 2) := by decide +kernel
theorem dX7_stock_33 : decode cX7_stock 33 = .ok (.ireturn, 1) := by decide +kernel
theorem dX7_stock_34 : decode cX7_stock 34 = .ok (.aload_n 0, 1) := by decide +kernel
theorem dX7_stock_35 : decode cX7_stock 35 = .ok (.getfield 85, 3) := by decide +kernel
theorem dX7_stock_38 : decode cX7_stock 38 = .ok (.aload_n 0, 1) := by decide +kernel
theorem dX7_stock_39 : decode cX7_stock 39 = .ok (.getfield 192, 3) := by decide +kernel
theorem dX7_stock_42 : decode cX7_stock 42 = .ok (.iload_n 1, 1) := by decide +kernel
theorem dX7_stock_43 : decode cX7_stock 43 = .ok (.iastore, 1) := by decide +kernel
theorem dX7_stock_44 : decode cX7_stock 44 = .ok (.aload_n 0, 1) := by decide +kernel
theorem dX7_stock_45 : decode cX7_stock 45 = .ok (.getfield 88, 3) := by decide +kernel
theorem dX7_stock_48 : decode cX7_stock 48 = .ok (.aload_n 0, 1) := by decide +kernel
theorem dX7_stock_49 : decode cX7_stock 49 = .ok (.getfield 192, 3) := by decide +kernel
theorem dX7_stock_52 : decode cX7_stock 52 = .ok (.iload_n 2, 1) := by decide +kernel
theorem dX7_stock_53 : decode cX7_stock 53 = .ok (.iastore, 1) := by decide +kernel
theorem dX7_stock_54 : decode cX7_stock 54 = .ok (.aload_n 0, 1) := by decide +kernel
theorem dX7_stock_55 : decode cX7_stock 55 = .ok (.dup, 1) := by decide +kernel
theorem dX7_stock_56 : decode cX7_stock 56 = .ok (.getfield 192, 3) := by decide +kernel
theorem dX7_stock_59 : decode cX7_stock 59 = .ok (.iconst 1, 1) := by decide +kernel
theorem dX7_stock_60 : decode cX7_stock 60 = .ok (.iadd, 1) := by decide +kernel
theorem dX7_stock_61 : decode cX7_stock 61 = .ok (.putfield 192, 3) := by decide +kernel
theorem dX7_stock_64 : decode cX7_stock 64 = .ok (.aload_n 0, 1) := by decide +kernel
theorem dX7_stock_65 : decode cX7_stock 65 = .ok (.iconst 0, 1) := by decide +kernel
theorem dX7_stock_66 : decode cX7_stock 66 = .ok (.putfield 195, 3) := by decide +kernel
theorem dX7_stock_69 : decode cX7_stock 69 = .ok (.aload_n 0, 1) := by decide +kernel
theorem dX7_stock_70 : decode cX7_stock 70 = .ok (.getfield 192, 3) := by decide +kernel
theorem dX7_stock_73 : decode cX7_stock 73 = .ok (.iconst 1, 1) := by decide +kernel
theorem dX7_stock_74 : decode cX7_stock 74 = .ok (.isub, 1) := by decide +kernel
theorem dX7_stock_75 : decode cX7_stock 75 = .ok (.ireturn, 1) := by decide +kernel
set_option maxRecDepth 100000 in
theorem ggX7_order_X7_within : GoodIn wsX7_order wsX7_within := goodIn_r _ [8] rfl (by decide +kernel)
set_option maxRecDepth 100000 in
theorem gX7_order_X7_within : GoodIn wsX7_order (va_wsS RX7 112 yX7_within wsX7_within) := goodIn_app (goodIn_of _ (by decide +kernel)) ggX7_order_X7_within
theorem dX7_order_0 : decode cX7_order 0 = .ok (.iload_n 1, 1) := by decide +kernel
theorem dX7_order_1 : decode cX7_order 1 = .ok (.iconst 1, 1) := by decide +kernel
theorem dX7_order_2 : decode cX7_order 2 = .ok (.bipush 99, 2) := by decide +kernel
theorem dX7_order_4 : decode cX7_order 4 = .ok (.invokestatic 112, 3) := by decide +kernel
theorem dX7_order_7 : decode cX7_order 7 = .ok (.ifCond .eq 12, 3) := by decide +kernel
theorem dX7_order_10 : decode cX7_order 10 = .ok (.iload_n 2, 1) := by decide +kernel
theorem dX7_order_11 : decode cX7_order 11 = .ok (.iconst 0, 1) := by decide +kernel
theorem dX7_order_12 : decode cX7_order 12 = .ok (.iconst 5, 1) := by decide +kernel
theorem dX7_order_13 : decode cX7_order 13 = .ok (.invokestatic 112, 3) := by decide +kernel
theorem dX7_order_16 : decode cX7_order 16 = .ok (.ifCond .ne 6, 3) := by decide +kernel
theorem dX7_order_19 : decode cX7_order 19 = .ok (.bipush (-3), 2) := by decide +kernel
theorem dX7_order_21 : decode cX7_order 21 = .ok (.ireturn, 1) := by decide +kernel
theorem dX7_order_22 : decode cX7_order 22 = .ok (.aload_n 0, 1) := by decide +kernel
theorem dX7_order_23 : decode cX7_order 23 = .ok (.getfield 198, 3) := by decide +kernel
theorem dX7_order_26 : decode cX7_order 26 = .ok (.iconst 4, 1) := by decide +kernel
theorem dX7_order_27 : decode cX7_order 27 = .ok (.if_icmp .ne 6, 3) := by decide +kernel
theorem dX7_order_30 : decode cX7_order 30 = .ok (.bipush (-4), 2) := by decide +kernel
theorem dX7_order_32 : decode cX7_order 32 = .ok (.ireturn, 1) := by decide +kernel
theorem dX7_order_33 : decode cX7_order 33 = .ok (.aload_n 0, 1) := by decide +kernel
theorem dX7_order_34 : decode cX7_order 34 = .ok (.getfield 91, 3) := by decide +kernel
theorem dX7_order_37 : decode cX7_order 37 = .ok (.aload_n 0, 1) := by decide +kernel
theorem dX7_order_38 : decode cX7_order 38 = .ok (.getfield 198, 3) := by decide +kernel
theorem dX7_order_41 : decode cX7_order 41 = .ok (.iload_n 1, 1) := by decide +kernel
theorem dX7_order_42 : decode cX7_order 42 = .ok (.iastore, 1) := by decide +kernel
theorem dX7_order_43 : decode cX7_order 43 = .ok (.aload_n 0, 1) := by decide +kernel
theorem dX7_order_44 : decode cX7_order 44 = .ok (.getfield 94, 3) := by decide +kernel
theorem dX7_order_47 : decode cX7_order 47 = .ok (.aload_n 0, 1) := by decide +kernel
theorem dX7_order_48 : decode cX7_order 48 = .ok (.getfield 198, 3) := by decide +kernel
theorem dX7_order_51 : decode cX7_order 51 = .ok (.iload_n 2, 1) := by decide +kernel
theorem dX7_order_52 : decode cX7_order 52 = .ok (.iastore, 1) := by decide +kernel
theorem dX7_order_53 : decode cX7_order 53 = .ok (.aload_n 0, 1) := by decide +kernel
theorem dX7_order_54 : decode cX7_order 54 = .ok (.dup, 1) := by decide +kernel
theorem dX7_order_55 : decode cX7_order 55 = .ok (.getfield 198, 3) := by decide +kernel
theorem dX7_order_58 : decode cX7_order 58 = .ok (.iconst 1, 1) := by decide +kernel
theorem dX7_order_59 : decode cX7_order 59 = .ok (.iadd, 1) := by decide +kernel
theorem dX7_order_60 : decode cX7_order 60 = .ok (.putfield 198, 3) := by decide +kernel
theorem dX7_order_63 : decode cX7_order 63 = .ok (.aload_n 0, 1) := by decide +kernel
theorem dX7_order_64 : decode cX7_order 64 = .ok (.iconst 0, 1) := by decide +kernel
theorem dX7_order_65 : decode cX7_order 65 = .ok (.putfield 195, 3) := by decide +kernel
theorem dX7_order_68 : decode cX7_order 68 = .ok (.aload_n 0, 1) := by decide +kernel
theorem dX7_order_69 : decode cX7_order 69 = .ok (.getfield 198, 3) := by decide +kernel
theorem dX7_order_72 : decode cX7_order 72 = .ok (.iconst 1, 1) := by decide +kernel
theorem dX7_order_73 : decode cX7_order 73 = .ok (.isub, 1) := by decide +kernel
theorem dX7_order_74 : decode cX7_order 74 = .ok (.ireturn, 1) := by decide +kernel
set_option maxRecDepth 100000 in
theorem ggX7_demand_X7_within : GoodIn wsX7_demand wsX7_within := goodIn_r _ [7] rfl (by decide +kernel)
set_option maxRecDepth 100000 in
theorem gX7_demand_X7_within : GoodIn wsX7_demand (va_wsS RX7 112 yX7_within wsX7_within) := goodIn_app (goodIn_of _ (by decide +kernel)) ggX7_demand_X7_within
theorem dX7_demand_0 : decode cX7_demand 0 = .ok (.iload_n 1, 1) := by decide +kernel
theorem dX7_demand_1 : decode cX7_demand 1 = .ok (.iconst 0, 1) := by decide +kernel
theorem dX7_demand_2 : decode cX7_demand 2 = .ok (.aload_n 0, 1) := by decide +kernel
theorem dX7_demand_3 : decode cX7_demand 3 = .ok (.getfield 198, 3) := by decide +kernel
theorem dX7_demand_6 : decode cX7_demand 6 = .ok (.iconst 1, 1) := by decide +kernel
theorem dX7_demand_7 : decode cX7_demand 7 = .ok (.isub, 1) := by decide +kernel
theorem dX7_demand_8 : decode cX7_demand 8 = .ok (.invokestatic 112, 3) := by decide +kernel
theorem dX7_demand_11 : decode cX7_demand 11 = .ok (.ifCond .ne 6, 3) := by decide +kernel
theorem dX7_demand_14 : decode cX7_demand 14 = .ok (.bipush (-2), 2) := by decide +kernel
theorem dX7_demand_16 : decode cX7_demand 16 = .ok (.ireturn, 1) := by decide +kernel
theorem dX7_demand_17 : decode cX7_demand 17 = .ok (.iload_n 2, 1) := by decide +kernel
theorem dX7_demand_18 : decode cX7_demand 18 = .ok (.iconst 0, 1) := by decide +kernel
theorem dX7_demand_19 : decode cX7_demand 19 = .ok (.iconst 5, 1) := by decide +kernel
theorem dX7_demand_20 : decode cX7_demand 20 = .ok (.invokestatic 112, 3) := by decide +kernel
theorem dX7_demand_23 : decode cX7_demand 23 = .ok (.ifCond .ne 6, 3) := by decide +kernel
theorem dX7_demand_26 : decode cX7_demand 26 = .ok (.bipush (-3), 2) := by decide +kernel
theorem dX7_demand_28 : decode cX7_demand 28 = .ok (.ireturn, 1) := by decide +kernel
theorem dX7_demand_29 : decode cX7_demand 29 = .ok (.aload_n 0, 1) := by decide +kernel
theorem dX7_demand_30 : decode cX7_demand 30 = .ok (.getfield 94, 3) := by decide +kernel
theorem dX7_demand_33 : decode cX7_demand 33 = .ok (.iload_n 1, 1) := by decide +kernel
theorem dX7_demand_34 : decode cX7_demand 34 = .ok (.iaload, 1) := by decide +kernel
theorem dX7_demand_35 : decode cX7_demand 35 = .ok (.istore_n 3, 1) := by decide +kernel
theorem dX7_demand_36 : decode cX7_demand 36 = .ok (.aload_n 0, 1) := by decide +kernel
theorem dX7_demand_37 : decode cX7_demand 37 = .ok (.getfield 94, 3) := by decide +kernel
theorem dX7_demand_40 : decode cX7_demand 40 = .ok (.iload_n 1, 1) := by decide +kernel
