theorem dX7_init_231 : decode cX7_init 231 = .ok (.newarray .int, 2) := by decide +kernel
theorem dX7_init_233 : decode cX7_init 233 = .ok (.putfield 97, 3) := by decide +kernel
theorem dX7_init_236 : decode cX7_init 236 = .ok (.aload_n 0, 1) := by decide +kernel
theorem dX7_init_237 : decode cX7_init 237 = .ok (.sipush 1296, 3) := by decide +kernel
theorem dX7_init_240 : decode cX7_init 240 = .ok (.newarray .int, 2) := by decide +kernel
theorem dX7_init_242 : decode cX7_init 242 = .ok (.putfield 100, 3) := by decide +kernel
theorem dX7_init_245 : decode cX7_init 245 = .ok (.aload_n 0, 1) := by decide +kernel
theorem dX7_init_246 : decode cX7_init 246 = .ok (.sipush 1296, 3) := by decide +kernel
theorem dX7_init_249 : decode cX7_init 249 = .ok (.newarray .int, 2) := by decide +kernel
theorem dX7_init_251 : decode cX7_init 251 = .ok (.putfield 103, 3) := by decide +kernel
theorem dX7_init_254 : decode cX7_init 254 = .ok (.aload_n 0, 1) := by decide +kernel
theorem dX7_init_255 : decode cX7_init 255 = .ok (.sipush 1296, 3) := by decide +kernel
theorem dX7_init_258 : decode cX7_init 258 = .ok (.newarray .int, 2) := by decide +kernel
theorem dX7_init_260 : decode cX7_init 260 = .ok (.putfield 106, 3) := by decide +kernel
theorem dX7_init_263 : decode cX7_init 263 = .ok (.aload_n 0, 1) := by decide +kernel
theorem dX7_init_264 : decode cX7_init 264 = .ok (.bipush 20, 2) := by decide +kernel
theorem dX7_init_266 : decode cX7_init 266 = .ok (.newarray .int, 2) := by decide +kernel
theorem dX7_init_268 : decode cX7_init 268 = .ok (.putfield 109, 3) := by decide +kernel
theorem dX7_init_271 : decode cX7_init 271 = .ok (.iconst 0, 1) := by decide +kernel
theorem dX7_init_272 : decode cX7_init 272 = .ok (.istore_n 1, 1) := by decide +kernel
theorem dX7_init_273 : decode cX7_init 273 = .ok (.iconst 1, 1) := by decide +kernel
theorem dX7_init_274 : decode cX7_init 274 = .ok (.istore_n 2, 1) := by decide +kernel
theorem dX7_init_275 : decode cX7_init 275 = .ok (.iload_n 2, 1) := by decide +kernel
theorem dX7_init_276 : decode cX7_init 276 = .ok (.bipush 16, 2) := by decide +kernel
theorem dX7_init_278 : decode cX7_init 278 = .ok (.if_icmp .gt 42, 3) := by decide +kernel
theorem dX7_init_281 : decode cX7_init 281 = .ok (.iconst 0, 1) := by decide +kernel
theorem dX7_init_282 : decode cX7_init 282 = .ok (.istore_n 3, 1) := by decide +kernel
theorem dX7_init_283 : decode cX7_init 283 = .ok (.iload_n 3, 1) := by decide +kernel
theorem dX7_init_284 : decode cX7_init 284 = .ok (.iload_n 2, 1) := by decide +kernel
theorem dX7_init_285 : decode cX7_init 285 = .ok (.iadd, 1) := by decide +kernel
theorem dX7_init_286 : decode cX7_init 286 = .ok (.bipush 16, 2) := by decide +kernel
theorem dX7_init_288 : decode cX7_init 288 = .ok (.if_icmp .gt 26, 3) := by decide +kernel
theorem dX7_init_291 : decode cX7_init 291 = .ok (.aload_n 0, 1) := by decide +kernel
theorem dX7_init_292 : decode cX7_init 292 = .ok (.getfield 45, 3) := by decide +kernel
theorem dX7_init_295 : decode cX7_init 295 = .ok (.bipush 16, 2) := by decide +kernel
theorem dX7_init_297 : decode cX7_init 297 = .ok (.iload_n 3, 1) := by decide +kernel
theorem dX7_init_298 : decode cX7_init 298 = .ok (.imul, 1) := by decide +kernel
theorem dX7_init_299 : decode cX7_init 299 = .ok (.iload_n 2, 1) := by decide +kernel
theorem dX7_init_300 : decode cX7_init 300 = .ok (.iadd, 1) := by decide +kernel
theorem dX7_init_301 : decode cX7_init 301 = .ok (.iconst 1, 1) := by decide +kernel
theorem dX7_init_302 : decode cX7_init 302 = .ok (.isub, 1) := by decide +kernel
theorem dX7_init_303 : decode cX7_init 303 = .ok (.iload_n 1, 1) := by decide +kernel
theorem dX7_init_304 : decode cX7_init 304 = .ok (.iastore, 1) := by decide +kernel
theorem dX7_init_305 : decode cX7_init 305 = .ok (.iinc 1 1, 3) := by decide +kernel
theorem dX7_init_308 : decode cX7_init 308 = .ok (.iinc 3 1, 3) := by decide +kernel
theorem dX7_init_311 : decode cX7_init 311 = .ok (.goto (-28), 3) := by decide +kernel
theorem dX7_init_314 : decode cX7_init 314 = .ok (.iinc 2 1, 3) := by decide +kernel
theorem dX7_init_317 : decode cX7_init 317 = .ok (.goto (-42), 3) := by decide +kernel
theorem dX7_init_320 : decode cX7_init 320 = .ok (.return_, 1) := by decide +kernel
theorem dX7_within_0 : decode cX7_within 0 = .ok (.iload_n 0, 1) := by decide +kernel
theorem dX7_within_1 : decode cX7_within 1 = .ok (.iload_n 1, 1) := by decide +kernel
theorem dX7_within_2 : decode cX7_within 2 = .ok (.if_icmp .lt 12, 3) := by decide +kernel
theorem dX7_within_5 : decode cX7_within 5 = .ok (.iload_n 0, 1) := by decide +kernel
theorem dX7_within_6 : decode cX7_within 6 = .ok (.iload_n 2, 1) := by decide +kernel
theorem dX7_within_7 : decode cX7_within 7 = .ok (.if_icmp .gt 7, 3) := by decide +kernel
theorem dX7_within_10 : decode cX7_within 10 = .ok (.iconst 1, 1) := by decide +kernel
theorem dX7_within_11 : decode cX7_within 11 = .ok (.goto 4, 3) := by decide +kernel
theorem dX7_within_14 : decode cX7_within 14 = .ok (.iconst 0, 1) := by decide +kernel
theorem dX7_within_15 : decode cX7_within 15 = .ok (.ireturn, 1) := by decide +kernel
set_option maxRecDepth 100000 in
theorem ggX7_plate_X7_within : GoodIn wsX7_plate wsX7_within := goodIn_r _ [11] rfl (by decide +kernel)
set_option maxRecDepth 100000 in
theorem gX7_plate_X7_within : GoodIn wsX7_plate (va_wsS RX7 112 yX7_within wsX7_within) := goodIn_app (goodIn_of _ (by decide +kernel)) ggX7_plate_X7_within
theorem dX7_plate_0 : decode cX7_plate 0 = .ok (.iload_n 1, 1) := by decide +kernel
theorem dX7_plate_1 : decode cX7_plate 1 = .ok (.iconst 1, 1) := by decide +kernel
theorem dX7_plate_2 : decode cX7_plate 2 = .ok (.bipush 16, 2) := by decide +kernel
theorem dX7_plate_4 : decode cX7_plate 4 = .ok (.invokestatic 112, 3) := by decide +kernel
theorem dX7_plate_7 : decode cX7_plate 7 = .ok (.ifCond .eq 42, 3) := by decide +kernel
theorem dX7_plate_10 : decode cX7_plate 10 = .ok (.iload_n 2, 1) := by decide +kernel
theorem dX7_plate_11 : decode cX7_plate 11 = .ok (.iconst 1, 1) := by decide +kernel
theorem dX7_plate_12 : decode cX7_plate 12 = .ok (.bipush 16, 2) := by decide +kernel
theorem dX7_plate_14 : decode cX7_plate 14 = .ok (.invokestatic 112, 3) := by decide +kernel
theorem dX7_plate_17 : decode cX7_plate 17 = .ok (.ifCond .eq 32, 3) := by decide +kernel
theorem dX7_plate_20 : decode cX7_plate 20 = .ok (.iload_n 3, 1) := by decide +kernel
theorem dX7_plate_21 : decode cX7_plate 21 = .ok (.iconst 0, 1) := by decide +kernel
theorem dX7_plate_22 : decode cX7_plate 22 = .ok (.iconst 2, 1) := by decide +kernel
theorem dX7_plate_23 : decode cX7_plate 23 = .ok (.invokestatic 112, 3) := by decide +kernel
theorem dX7_plate_26 : decode cX7_plate 26 = .ok (.ifCond .eq 23, 3) := by decide +kernel
theorem dX7_plate_29 : decode cX7_plate 29 = .ok (.iload 4, 2) := by decide +kernel
theorem dX7_plate_31 : decode cX7_plate 31 = .ok (.iconst 1, 1) := by decide +kernel
theorem dX7_plate_32 : decode cX7_plate 32 = .ok (.iconst 4, 1) := by decide +kernel
theorem dX7_plate_33 : decode cX7_plate 33 = .ok (.invokestatic 112, 3) := by decide +kernel
theorem dX7_plate_36 : decode cX7_plate 36 = .ok (.ifCond .eq 13, 3) := by decide +kernel
theorem dX7_plate_39 : decode cX7_plate 39 = .ok (.iload 5, 2) := by decide +kernel
theorem dX7_plate_41 : decode cX7_plate 41 = .ok (.iconst 0, 1) := by decide +kernel
theorem dX7_plate_42 : decode cX7_plate 42 = .ok (.iconst 1, 1) := by decide +kernel
theorem dX7_plate_43 : decode cX7_plate 43 = .ok (.invokestatic 112, 3) := by decide +kernel
theorem dX7_plate_46 : decode cX7_plate 46 = .ok (.ifCond .ne 6, 3) := by decide +kernel
theorem dX7_plate_49 : decode cX7_plate 49 = .ok (.bipush (-3), 2) := by decide +kernel
theorem dX7_plate_51 : decode cX7_plate 51 = .ok (.ireturn, 1) := by decide +kernel
theorem dX7_plate_52 : decode cX7_plate 52 = .ok (.aload_n 0, 1) := by decide +kernel
theorem dX7_plate_53 : decode cX7_plate 53 = .ok (.iload_n 1, 1) := by decide +kernel
theorem dX7_plate_54 : decode cX7_plate 54 = .ok (.putfield 7, 3) := by decide +kernel
theorem dX7_plate_57 : decode cX7_plate 57 = .ok (.aload_n 0, 1) := by decide +kernel
theorem dX7_plate_58 : decode cX7_plate 58 = .ok (.iload_n 2, 1) := by decide +kernel
theorem dX7_plate_59 : decode cX7_plate 59 = .ok (.putfield 13, 3) := by decide +kernel
theorem dX7_plate_62 : decode cX7_plate 62 = .ok (.aload_n 0, 1) := by decide +kernel
theorem dX7_plate_63 : decode cX7_plate 63 = .ok (.iload_n 3, 1) := by decide +kernel
theorem dX7_plate_64 : decode cX7_plate 64 = .ok (.putfield 116, 3) := by decide +kernel
theorem dX7_plate_67 : decode cX7_plate 67 = .ok (.aload_n 0, 1) := by decide +kernel
theorem dX7_plate_68 : decode cX7_plate 68 = .ok (.iload 4, 2) := by decide +kernel
theorem dX7_plate_70 : decode cX7_plate 70 = .ok (.putfield 16, 3) := by decide +kernel
theorem dX7_plate_73 : decode cX7_plate 73 = .ok (.aload_n 0, 1) := by decide +kernel
theorem dX7_plate_74 : decode cX7_plate 74 = .ok (.iload 5, 2) := by decide +kernel
theorem dX7_plate_76 : decode cX7_plate 76 = .ok (.putfield 119, 3) := by decide +kernel
theorem dX7_plate_79 : decode cX7_plate 79 = .ok (.aload_n 0, 1) := by decide +kernel
theorem dX7_plate_80 : decode cX7_plate 80 = .ok (.iconst 0, 1) := by decide +kernel
theorem dX7_plate_81 : decode cX7_plate 81 = .ok (.putfield 122, 3) := by decide +kernel
theorem dX7_plate_84 : decode cX7_plate 84 = .ok (.aload_n 0, 1) := by decide +kernel
theorem dX7_plate_85 : decode cX7_plate 85 = .ok (.iconst 0, 1) := by decide +kernel
theorem dX7_plate_86 : decode cX7_plate 86 = .ok (.putfield 125, 3) := by decide +kernel
theorem dX7_plate_89 : decode cX7_plate 89 = .ok (.iconst 1, 1) := by decide +kernel
theorem dX7_plate_90 : decode cX7_plate 90 = .ok (.ireturn, 1) := by decide +kernel
set_option maxRecDepth 100000 in
theorem ggX7_lies_X7_within : GoodIn wsX7_lies wsX7_within := goodIn_r _ [6] rfl (by decide +kernel)
set_option maxRecDepth 100000 in
theorem gX7_lies_X7_within : GoodIn wsX7_lies (va_wsS RX7 112 yX7_within wsX7_within) := goodIn_app (goodIn_of _ (by decide +kernel)) ggX7_lies_X7_within
theorem dX7_lies_0 : decode cX7_lies 0 = .ok (.iload_n 1, 1) := by decide +kernel
theorem dX7_lies_1 : decode cX7_lies 1 = .ok (.iconst 0, 1) := by decide +kernel
theorem dX7_lies_2 : decode cX7_lies 2 = .ok (.aload_n 0, 1) := by decide +kernel
theorem dX7_lies_3 : decode cX7_lies 3 = .ok (.getfield 7, 3) := by decide +kernel
theorem dX7_lies_6 : decode cX7_lies 6 = .ok (.iconst 1, 1) := by decide +kernel
theorem dX7_lies_7 : decode cX7_lies 7 = .ok (.isub, 1) := by decide +kernel
theorem dX7_lies_8 : decode cX7_lies 8 = .ok (.invokestatic 112, 3) := by decide +kernel
theorem dX7_lies_11 : decode cX7_lies 11 = .ok (.ifCond .eq 50, 3) := by decide +kernel
theorem dX7_lies_14 : decode cX7_lies 14 = .ok (.iload_n 2, 1) := by decide +kernel
theorem dX7_lies_15 : decode cX7_lies 15 = .ok (.iconst 0, 1) := by decide +kernel
theorem dX7_lies_16 : decode cX7_lies 16 = .ok (.aload_n 0, 1) := by decide +kernel
theorem dX7_lies_17 : decode cX7_lies 17 = .ok (.getfield 13, 3) := by decide +kernel
theorem dX7_lies_20 : decode cX7_lies 20 = .ok (.iconst 1, 1) := by decide +kernel
theorem dX7_lies_21 : decode cX7_lies 21 = .ok (.isub, 1) := by decide +kernel
theorem dX7_lies_22 : decode cX7_lies 22 = .ok (.invokestatic 112, 3) := by decide +kernel
theorem dX7_lies_25 : decode cX7_lies 25 = .ok (.ifCond .eq 36, 3) := by decide +kernel
theorem dX7_lies_28 : decode cX7_lies 28 = .ok (.iload_n 3, 1) := by decide +kernel
theorem dX7_lies_29 : decode cX7_lies 29 = .ok (.iconst 1, 1) := by decide +kernel
theorem dX7_lies_30 : decode cX7_lies 30 = .ok (.aload_n 0, 1) := by decide +kernel
theorem dX7_lies_31 : decode cX7_lies 31 = .ok (.getfield 7, 3) := by decide +kernel
theorem dX7_lies_34 : decode cX7_lies 34 = .ok (.iload_n 1, 1) := by decide +kernel
theorem dX7_lies_35 : decode cX7_lies 35 = .ok (.isub, 1) := by decide +kernel
theorem dX7_lies_36 : decode cX7_lies 36 = .ok (.invokestatic 112, 3) := by decide +kernel
theorem dX7_lies_39 : decode cX7_lies 39 = .ok (.ifCond .eq 22, 3) := by decide +kernel
theorem dX7_lies_42 : decode cX7_lies 42 = .ok (.iload 4, 2) := by decide +kernel
theorem dX7_lies_44 : decode cX7_lies 44 = .ok (.iconst 1, 1) := by decide +kernel
theorem dX7_lies_45 : decode cX7_lies 45 = .ok (.aload_n 0, 1) := by decide +kernel
theorem dX7_lies_46 : decode cX7_lies 46 = .ok (.getfield 13, 3) := by decide +kernel
theorem dX7_lies_49 : decode cX7_lies 49 = .ok (.iload_n 2, 1) := by decide +kernel
theorem dX7_lies_50 : decode cX7_lies 50 = .ok (.isub, 1) := by decide +kernel
theorem dX7_lies_51 : decode cX7_lies 51 = .ok (.invokestatic 112, 3) := by decide +kernel
theorem dX7_lies_54 : decode cX7_lies 54 = .ok (.ifCond .eq 7, 3) := by decide +kernel
theorem dX7_lies_57 : decode cX7_lies 57 = .ok (.iconst 1, 1) := by decide +kernel
theorem dX7_lies_58 : decode cX7_lies 58 = .ok (.goto 4, 3) := by decide +kernel
theorem dX7_lies_61 : decode cX7_lies 61 = .ok (.iconst 0, 1) := by decide +kernel
theorem dX7_lies_62 : decode cX7_lies 62 = .ok (.ireturn, 1) := by decide +kernel
set_option maxRecDepth 100000 in
theorem ggX7_defect_X7_lies : GoodIn wsX7_defect wsX7_lies := goodIn_r _ [11, 12, 13, 14, 15, 10, 16, 17, 18, 19, 20, 21, 22, 23, 24, 25, 26, 27, 28, 29, 30, 31, 32, 33, 34, 35, 36, 37, 38, 39, 40, 41, 42, 43, 44, 45, 46, 47, 48, 49, 50, 51, 52, 53, 54, 55, 56, 57, 58, 59, 60, 61, 62, 63] rfl (by decide +kernel)
set_option maxRecDepth 100000 in
theorem gX7_defect_X7_lies : GoodIn wsX7_defect (wsV RX7 129 RX7 yX7_lies wsX7_lies) := goodIn_app (goodIn_of _ (by decide +kernel)) ggX7_defect_X7_lies
theorem dX7_defect_0 : decode cX7_defect 0 = .ok (.aload_n 0, 1) := by decide +kernel
theorem dX7_defect_1 : decode cX7_defect 1 = .ok (.iload_n 1, 1) := by decide +kernel
theorem dX7_defect_2 : decode cX7_defect 2 = .ok (.iload_n 2, 1) := by decide +kernel
theorem dX7_defect_3 : decode cX7_defect 3 = .ok (.iload_n 3, 1) := by decide +kernel
theorem dX7_defect_4 : decode cX7_defect 4 = .ok (.iload 4, 2) := by decide +kernel
theorem dX7_defect_6 : decode cX7_defect 6 = .ok (.invokevirtual 129, 3) := by decide +kernel
theorem dX7_defect_9 : decode cX7_defect 9 = .ok (.ifCond .ne 6, 3) := by decide +kernel
theorem dX7_defect_12 : decode cX7_defect 12 = .ok (.bipush (-3), 2) := by decide +kernel
theorem dX7_defect_14 : decode cX7_defect 14 = .ok (.ireturn, 1) := by decide +kernel
theorem dX7_defect_15 : decode cX7_defect 15 = .ok (.aload_n 0, 1) := by decide +kernel
theorem dX7_defect_16 : decode cX7_defect 16 = .ok (.getfield 122, 3) := by decide +kernel
theorem dX7_defect_19 : decode cX7_defect 19 = .ok (.bipush 6, 2) := by decide +kernel
theorem dX7_defect_21 : decode cX7_defect 21 = .ok (.if_icmp .ne 6, 3) := by decide +kernel
theorem dX7_defect_24 : decode cX7_defect 24 = .ok (.bipush (-4), 2) := by decide +kernel
theorem dX7_defect_26 : decode cX7_defect 26 = .ok (.ireturn, 1) := by decide +kernel
theorem dX7_defect_27 : decode cX7_defect 27 = .ok (.aload_n 0, 1) := by decide +kernel
theorem dX7_defect_28 : decode cX7_defect 28 = .ok (.getfield 19, 3) := by decide +kernel
theorem dX7_defect_31 : decode cX7_defect 31 = .ok (.aload_n 0, 1) := by decide +kernel
theorem dX7_defect_32 : decode cX7_defect 32 = .ok (.getfield 122, 3) := by decide +kernel
theorem dX7_defect_35 : decode cX7_defect 35 = .ok (.iload_n 1, 1) := by decide +kernel
theorem dX7_defect_36 : decode cX7_defect 36 = .ok (.iastore, 1) := by decide +kernel
theorem dX7_defect_37 : decode cX7_defect 37 = .ok (.aload_n 0, 1) := by decide +kernel
theorem dX7_defect_38 : decode cX7_defect 38 = .ok (.getfield 23, 3) := by decide +kernel
theorem dX7_defect_41 : decode cX7_defect 41 = .ok (.aload_n 0, 1) := by decide +kernel
theorem dX7_defect_42 : decode cX7_defect 42 = .ok (.getfield 122, 3) := by decide +kernel
theorem dX7_defect_45 : decode cX7_defect 45 = .ok (.iload_n 2, 1) := by decide +kernel
theorem dX7_defect_46 : decode cX7_defect 46 = .ok (.iastore, 1) := by decide +kernel
theorem dX7_defect_47 : decode cX7_defect 47 = .ok (.aload_n 0, 1) := by decide +kernel
theorem dX7_defect_48 : decode cX7_defect 48 = .ok (.getfield 26, 3) := by decide +kernel
theorem dX7_defect_51 : decode cX7_defect 51 = .ok (.aload_n 0, 1) := by decide +kernel
theorem dX7_defect_52 : decode cX7_defect 52 = .ok (.getfield 122, 3) := by decide +kernel
theorem dX7_defect_55 : decode cX7_defect 55 = .ok (.iload_n 3, 1) := by decide +kernel
theorem dX7_defect_56 : decode cX7_defect 56 = .ok (.iastore, 1) := by decide +kernel
theorem dX7_defect_57 : decode cX7_defect 57 = .ok (.aload_n 0, 1) := by decide +kernel
theorem dX7_defect_58 : decode cX7_defect 58 = .ok (.getfield 29, 3) := by decide +kernel
theorem dX7_defect_61 : decode cX7_defect 61 = .ok (.aload_n 0, 1) := by decide +kernel
theorem dX7_defect_62 : decode cX7_defect 62 = .ok (.getfield 122, 3) := by decide +kernel
theorem dX7_defect_65 : decode cX7_defect 65 = .ok (.iload 4, 2) := by decide +kernel
theorem dX7_defect_67 : decode cX7_defect 67 = .ok (.iastore, 1) := by decide +kernel
theorem dX7_defect_68 : decode cX7_defect 68 = .ok (.aload_n 0, 1) := by decide +kernel
theorem dX7_defect_69 : decode cX7_defect 69 = .ok (.dup, 1) := by decide +kernel
theorem dX7_defect_70 : decode cX7_defect 70 = .ok (.getfield 122, 3) := by decide +kernel
theorem dX7_defect_73 : decode cX7_defect 73 = .ok (.iconst 1, 1) := by decide +kernel
theorem dX7_defect_74 : decode cX7_defect 74 = .ok (.iadd, 1) := by decide +kernel
theorem dX7_defect_75 : decode cX7_defect 75 = .ok (.putfield 122, 3) := by decide +kernel
theorem dX7_defect_78 : decode cX7_defect 78 = .ok (.aload_n 0, 1) := by decide +kernel
theorem dX7_defect_79 : decode cX7_defect 79 = .ok (.iconst 0, 1) := by decide +kernel
theorem dX7_defect_80 : decode cX7_defect 80 = .ok (.putfield 125, 3) := by decide +kernel
theorem dX7_defect_83 : decode cX7_defect 83 = .ok (.aload_n 0, 1) := by decide +kernel
theorem dX7_defect_84 : decode cX7_defect 84 = .ok (.getfield 122, 3) := by decide +kernel
theorem dX7_defect_87 : decode cX7_defect 87 = .ok (.ireturn, 1) := by decide +kernel
set_option maxRecDepth 100000 in
theorem ggX7_kind_X7_within : GoodIn wsX7_kind wsX7_within := goodIn_r _ [10] rfl (by decide +kernel)
set_option maxRecDepth 100000 in
theorem gX7_kind_X7_within : GoodIn wsX7_kind (va_wsS RX7 112 yX7_within wsX7_within) := goodIn_app (goodIn_of _ (by decide +kernel)) ggX7_kind_X7_within
theorem dX7_kind_0 : decode cX7_kind 0 = .ok (.iload_n 1, 1) := by decide +kernel
theorem dX7_kind_1 : decode cX7_kind 1 = .ok (.iconst 1, 1) := by decide +kernel
theorem dX7_kind_2 : decode cX7_kind 2 = .ok (.bipush 16, 2) := by decide +kernel
theorem dX7_kind_4 : decode cX7_kind 4 = .ok (.invokestatic 112, 3) := by decide +kernel
theorem dX7_kind_7 : decode cX7_kind 7 = .ok (.ifCond .eq 24, 3) := by decide +kernel
theorem dX7_kind_10 : decode cX7_kind 10 = .ok (.iload_n 2, 1) := by decide +kernel
theorem dX7_kind_11 : decode cX7_kind 11 = .ok (.iconst 1, 1) := by decide +kernel
theorem dX7_kind_12 : decode cX7_kind 12 = .ok (.bipush 16, 2) := by decide +kernel
theorem dX7_kind_14 : decode cX7_kind 14 = .ok (.invokestatic 112, 3) := by decide +kernel
theorem dX7_kind_17 : decode cX7_kind 17 = .ok (.ifCond .eq 14, 3) := by decide +kernel
theorem dX7_kind_20 : decode cX7_kind 20 = .ok (.iload_n 3, 1) := by decide +kernel
theorem dX7_kind_21 : decode cX7_kind 21 = .ok (.iconst 1, 1) := by decide +kernel
theorem dX7_kind_22 : decode cX7_kind 22 = .ok (.sipush 1000, 3) := by decide +kernel
theorem dX7_kind_25 : decode cX7_kind 25 = .ok (.invokestatic 112, 3) := by decide +kernel
theorem dX7_kind_28 : decode cX7_kind 28 = .ok (.ifCond .ne 6, 3) := by decide +kernel
theorem dX7_kind_31 : decode cX7_kind 31 = .ok (.bipush (-3), 2) := by decide +kernel
theorem dX7_kind_33 : decode cX7_kind 33 = .ok (.ireturn, 1) := by decide +kernel
theorem dX7_kind_34 : decode cX7_kind 34 = .ok (.aload_n 0, 1) := by decide +kernel
theorem dX7_kind_35 : decode cX7_kind 35 = .ok (.getfield 133, 3) := by decide +kernel
theorem dX7_kind_38 : decode cX7_kind 38 = .ok (.bipush 8, 2) := by decide +kernel
theorem dX7_kind_40 : decode cX7_kind 40 = .ok (.if_icmp .ne 6, 3) := by decide +kernel
theorem dX7_kind_43 : decode cX7_kind 43 = .ok (.bipush (-4), 2) := by decide +kernel
theorem dX7_kind_45 : decode cX7_kind 45 = .ok (.ireturn, 1) := by decide +kernel
theorem dX7_kind_46 : decode cX7_kind 46 = .ok (.aload_n 0, 1) := by decide +kernel
theorem dX7_kind_47 : decode cX7_kind 47 = .ok (.getfield 32, 3) := by decide +kernel
theorem dX7_kind_50 : decode cX7_kind 50 = .ok (.aload_n 0, 1) := by decide +kernel
theorem dX7_kind_51 : decode cX7_kind 51 = .ok (.getfield 133, 3) := by decide +kernel
theorem dX7_kind_54 : decode cX7_kind 54 = .ok (.iload_n 1, 1) := by decide +kernel
theorem dX7_kind_55 : decode cX7_kind 55 = .ok (.iastore, 1) := by decide +kernel
theorem dX7_kind_56 : decode cX7_kind 56 = .ok (.aload_n 0, 1) := by decide +kernel
theorem dX7_kind_57 : decode cX7_kind 57 = .ok (.getfield 35, 3) := by decide +kernel
theorem dX7_kind_60 : decode cX7_kind 60 = .ok (.aload_n 0, 1) := by decide +kernel
theorem dX7_kind_61 : decode cX7_kind 61 = .ok (.getfield 133, 3) := by decide +kernel
theorem dX7_kind_64 : decode cX7_kind 64 = .ok (.iload_n 2, 1) := by decide +kernel
theorem dX7_kind_65 : decode cX7_kind 65 = .ok (.iastore, 1) := by decide +kernel
theorem dX7_kind_66 : decode cX7_kind 66 = .ok (.aload_n 0, 1) := by decide +kernel
theorem dX7_kind_67 : decode cX7_kind 67 = .ok (.getfield 38, 3) := by decide +kernel
theorem dX7_kind_70 : decode cX7_kind 70 = .ok (.aload_n 0, 1) := by decide +kernel
theorem dX7_kind_71 : decode cX7_kind 71 = .ok (.getfield 133, 3) := by decide +kernel
theorem dX7_kind_74 : decode cX7_kind 74 = .ok (.iload_n 3, 1) := by decide +kernel
theorem dX7_kind_75 : decode cX7_kind 75 = .ok (.iastore, 1) := by decide +kernel
theorem dX7_kind_76 : decode cX7_kind 76 = .ok (.aload_n 0, 1) := by decide +kernel
theorem dX7_kind_77 : decode cX7_kind 77 = .ok (.getfield 41, 3) := by decide +kernel
theorem dX7_kind_80 : decode cX7_kind 80 = .ok (.aload_n 0, 1) := by decide +kernel
theorem dX7_kind_81 : decode cX7_kind 81 = .ok (.getfield 133, 3) := by decide +kernel
theorem dX7_kind_84 : decode cX7_kind 84 = .ok (.iload 4, 2) := by decide +kernel
theorem dX7_kind_86 : decode cX7_kind 86 = .ok (.bastore, 1) := by decide +kernel
theorem dX7_kind_87 : decode cX7_kind 87 = .ok (.aload_n 0, 1) := by decide +kernel
theorem dX7_kind_88 : decode cX7_kind 88 = .ok (.dup, 1) := by decide +kernel
theorem dX7_kind_89 : decode cX7_kind 89 = .ok (.getfield 133, 3) := by decide +kernel
theorem dX7_kind_92 : decode cX7_kind 92 = .ok (.iconst 1, 1) := by decide +kernel
theorem dX7_kind_93 : decode cX7_kind 93 = .ok (.iadd, 1) := by decide +kernel
theorem dX7_kind_94 : decode cX7_kind 94 = .ok (.putfield 133, 3) := by decide +kernel
theorem dX7_kind_97 : decode cX7_kind 97 = .ok (.aload_n 0, 1) := by decide +kernel
theorem dX7_kind_98 : decode cX7_kind 98 = .ok (.iconst 0, 1) := by decide +kernel
theorem dX7_kind_99 : decode cX7_kind 99 = .ok (.putfield 125, 3) := by decide +kernel
theorem dX7_kind_102 : decode cX7_kind 102 = .ok (.aload_n 0, 1) := by decide +kernel
theorem dX7_kind_103 : decode cX7_kind 103 = .ok (.getfield 133, 3) := by decide +kernel
theorem dX7_kind_106 : decode cX7_kind 106 = .ok (.iconst 1, 1) := by decide +kernel
theorem dX7_kind_107 : decode cX7_kind 107 = .ok (.isub, 1) := by decide +kernel
theorem dX7_kind_108 : decode cX7_kind 108 = .ok (.ireturn, 1) := by decide +kernel
set_option maxRecDepth 100000 in
theorem ggX7_value_X7_within : GoodIn wsX7_value wsX7_within := goodIn_r _ [7] rfl (by decide +kernel)
set_option maxRecDepth 100000 in
theorem gX7_value_X7_within : GoodIn wsX7_value (va_wsS RX7 112 yX7_within wsX7_within) := goodIn_app (goodIn_of _ (by decide +kernel)) ggX7_value_X7_within
theorem dX7_value_0 : decode cX7_value 0 = .ok (.iload_n 1, 1) := by decide +kernel
theorem dX7_value_1 : decode cX7_value 1 = .ok (.iconst 0, 1) := by decide +kernel
theorem dX7_value_2 : decode cX7_value 2 = .ok (.aload_n 0, 1) := by decide +kernel
theorem dX7_value_3 : decode cX7_value 3 = .ok (.getfield 133, 3) := by decide +kernel
theorem dX7_value_6 : decode cX7_value 6 = .ok (.iconst 1, 1) := by decide +kernel
theorem dX7_value_7 : decode cX7_value 7 = .ok (.isub, 1) := by decide +kernel
theorem dX7_value_8 : decode cX7_value 8 = .ok (.invokestatic 112, 3) := by decide +kernel
theorem dX7_value_11 : decode cX7_value 11 = .ok (.ifCond .ne 6, 3) := by decide +kernel
theorem dX7_value_14 : decode cX7_value 14 = .ok (.bipush (-2), 2) := by decide +kernel
theorem dX7_value_16 : decode cX7_value 16 = .ok (.ireturn, 1) := by decide +kernel
theorem dX7_value_17 : decode cX7_value 17 = .ok (.iload_n 2, 1) := by decide +kernel
theorem dX7_value_18 : decode cX7_value 18 = .ok (.iconst 1, 1) := by decide +kernel
theorem dX7_value_19 : decode cX7_value 19 = .ok (.sipush 1000, 3) := by decide +kernel
theorem dX7_value_22 : decode cX7_value 22 = .ok (.invokestatic 112, 3) := by decide +kernel
theorem dX7_value_25 : decode cX7_value 25 = .ok (.ifCond .ne 6, 3) := by decide +kernel
theorem dX7_value_28 : decode cX7_value 28 = .ok (.bipush (-3), 2) := by decide +kernel
theorem dX7_value_30 : decode cX7_value 30 = .ok (.ireturn, 1) := by decide +kernel
theorem dX7_value_31 : decode cX7_value 31 = .ok (.aload_n 0, 1) := by decide +kernel
theorem dX7_value_32 : decode cX7_value 32 = .ok (.getfield 38, 3) := by decide +kernel
theorem dX7_value_35 : decode cX7_value 35 = .ok (.iload_n 1, 1) := by decide +kernel
theorem dX7_value_36 : decode cX7_value 36 = .ok (.iaload, 1) := by decide +kernel
theorem dX7_value_37 : decode cX7_value 37 = .ok (.istore_n 3, 1) := by decide +kernel
theorem dX7_value_38 : decode cX7_value 38 = .ok (.aload_n 0, 1) := by decide +kernel
theorem dX7_value_39 : decode cX7_value 39 = .ok (.getfield 38, 3) := by decide +kernel
theorem dX7_value_42 : decode cX7_value 42 = .ok (.iload_n 1, 1) := by decide +kernel
theorem dX7_value_43 : decode cX7_value 43 = .ok (.iload_n 2, 1) := by decide +kernel
theorem dX7_value_44 : decode cX7_value 44 = .ok (.iastore, 1) := by decide +kernel
theorem dX7_value_45 : decode cX7_value 45 = .ok (.aload_n 0, 1) := by decide +kernel
theorem dX7_value_46 : decode cX7_value 46 = .ok (.iconst 0, 1) := by decide +kernel
theorem dX7_value_47 : decode cX7_value 47 = .ok (.putfield 125, 3) := by decide +kernel
theorem dX7_value_50 : decode cX7_value 50 = .ok (.iload_n 3, 1) := by decide +kernel
theorem dX7_value_51 : decode cX7_value 51 = .ok (.ireturn, 1) := by decide +kernel
theorem dX7_at_0 : decode cX7_at 0 = .ok (.sipush 136, 3) := by decide +kernel
theorem dX7_at_3 : decode cX7_at 3 = .ok (.iload_n 1, 1) := by decide +kernel
theorem dX7_at_4 : decode cX7_at 4 = .ok (.iconst 1, 1) := by decide +kernel
theorem dX7_at_5 : decode cX7_at 5 = .ok (.isub, 1) := by decide +kernel
theorem dX7_at_6 : decode cX7_at 6 = .ok (.imul, 1) := by decide +kernel
theorem dX7_at_7 : decode cX7_at 7 = .ok (.aload_n 0, 1) := by decide +kernel
theorem dX7_at_8 : decode cX7_at 8 = .ok (.getfield 45, 3) := by decide +kernel
theorem dX7_at_11 : decode cX7_at 11 = .ok (.bipush 16, 2) := by decide +kernel
theorem dX7_at_13 : decode cX7_at 13 = .ok (.iload_n 2, 1) := by decide +kernel
theorem dX7_at_14 : decode cX7_at 14 = .ok (.imul, 1) := by decide +kernel
theorem dX7_at_15 : decode cX7_at 15 = .ok (.iload 4, 2) := by decide +kernel
theorem dX7_at_17 : decode cX7_at 17 = .ok (.iadd, 1) := by decide +kernel
theorem dX7_at_18 : decode cX7_at 18 = .ok (.iconst 1, 1) := by decide +kernel
theorem dX7_at_19 : decode cX7_at 19 = .ok (.isub, 1) := by decide +kernel
theorem dX7_at_20 : decode cX7_at 20 = .ok (.iaload, 1) := by decide +kernel
theorem dX7_at_21 : decode cX7_at 21 = .ok (.iadd, 1) := by decide +kernel
theorem dX7_at_22 : decode cX7_at 22 = .ok (.sipush 136, 3) := by decide +kernel
theorem dX7_at_25 : decode cX7_at 25 = .ok (.imul, 1) := by decide +kernel
theorem dX7_at_26 : decode cX7_at 26 = .ok (.aload_n 0, 1) := by decide +kernel
theorem dX7_at_27 : decode cX7_at 27 = .ok (.getfield 45, 3) := by decide +kernel
theorem dX7_at_30 : decode cX7_at 30 = .ok (.bipush 16, 2) := by decide +kernel
theorem dX7_at_32 : decode cX7_at 32 = .ok (.iload_n 3, 1) := by decide +kernel
theorem dX7_at_33 : decode cX7_at 33 = .ok (.imul, 1) := by decide +kernel
theorem dX7_at_34 : decode cX7_at 34 = .ok (.iload 5, 2) := by decide +kernel
theorem dX7_at_36 : decode cX7_at 36 = .ok (.iadd, 1) := by decide +kernel
theorem dX7_at_37 : decode cX7_at 37 = .ok (.iconst 1, 1) := by decide +kernel
theorem dX7_at_38 : decode cX7_at 38 = .ok (.isub, 1) := by decide +kernel
theorem dX7_at_39 : decode cX7_at 39 = .ok (.iaload, 1) := by decide +kernel
theorem dX7_at_40 : decode cX7_at 40 = .ok (.iadd, 1) := by decide +kernel
theorem dX7_at_41 : decode cX7_at 41 = .ok (.ireturn, 1) := by decide +kernel
theorem dX7_isSpoiled_0 : decode cX7_isSpoiled 0 = .ok (.iconst 0, 1) := by decide +kernel
theorem dX7_isSpoiled_1 : decode cX7_isSpoiled 1 = .ok (.istore 5, 2) := by decide +kernel
theorem dX7_isSpoiled_3 : decode cX7_isSpoiled 3 = .ok (.iconst 0, 1) := by decide +kernel
theorem dX7_isSpoiled_4 : decode cX7_isSpoiled 4 = .ok (.istore 6, 2) := by decide +kernel
theorem dX7_isSpoiled_6 : decode cX7_isSpoiled 6 = .ok (.iload 6, 2) := by decide +kernel
theorem dX7_isSpoiled_8 : decode cX7_isSpoiled 8 = .ok (.aload_n 0, 1) := by decide +kernel
theorem dX7_isSpoiled_9 : decode cX7_isSpoiled 9 = .ok (.getfield 122, 3) := by decide +kernel
theorem dX7_isSpoiled_12 : decode cX7_isSpoiled 12 = .ok (.if_icmp .ge 98, 3) := by decide +kernel
theorem dX7_isSpoiled_15 : decode cX7_isSpoiled 15 = .ok (.aload_n 0, 1) := by decide +kernel
theorem dX7_isSpoiled_16 : decode cX7_isSpoiled 16 = .ok (.getfield 19, 3) := by decide +kernel
theorem dX7_isSpoiled_19 : decode cX7_isSpoiled 19 = .ok (.iload 6, 2) := by decide +kernel
theorem dX7_isSpoiled_21 : decode cX7_isSpoiled 21 = .ok (.iaload, 1) := by decide +kernel
theorem dX7_isSpoiled_22 : decode cX7_isSpoiled 22 = .ok (.iload_n 1, 1) := by decide +kernel
theorem dX7_isSpoiled_23 : decode cX7_isSpoiled 23 = .ok (.iload_n 3, 1) := by decide +kernel
theorem dX7_isSpoiled_24 : decode cX7_isSpoiled 24 = .ok (.iadd, 1) := by decide +kernel
theorem dX7_isSpoiled_25 : decode cX7_isSpoiled 25 = .ok (.if_icmp .ge 55, 3) := by decide +kernel
theorem dX7_isSpoiled_28 : decode cX7_isSpoiled 28 = .ok (.aload_n 0, 1) := by decide +kernel
theorem dX7_isSpoiled_29 : decode cX7_isSpoiled 29 = .ok (.getfield 19, 3) := by decide +kernel
theorem dX7_isSpoiled_32 : decode cX7_isSpoiled 32 = .ok (.iload 6, 2) := by decide +kernel
theorem dX7_isSpoiled_34 : decode cX7_isSpoiled 34 = .ok (.iaload, 1) := by decide +kernel
theorem dX7_isSpoiled_35 : decode cX7_isSpoiled 35 = .ok (.aload_n 0, 1) := by decide +kernel
theorem dX7_isSpoiled_36 : decode cX7_isSpoiled 36 = .ok (.getfield 26, 3) := by decide +kernel
theorem dX7_isSpoiled_39 : decode cX7_isSpoiled 39 = .ok (.iload 6, 2) := by decide +kernel
theorem dX7_isSpoiled_41 : decode cX7_isSpoiled 41 = .ok (.iaload, 1) := by decide +kernel
theorem dX7_isSpoiled_42 : decode cX7_isSpoiled 42 = .ok (.iadd, 1) := by decide +kernel
theorem dX7_isSpoiled_43 : decode cX7_isSpoiled 43 = .ok (.iload_n 1, 1) := by decide +kernel
theorem dX7_isSpoiled_44 : decode cX7_isSpoiled 44 = .ok (.if_icmp .le 36, 3) := by decide +kernel
theorem dX7_isSpoiled_47 : decode cX7_isSpoiled 47 = .ok (.aload_n 0, 1) := by decide +kernel
theorem dX7_isSpoiled_48 : decode cX7_isSpoiled 48 = .ok (.getfield 23, 3) := by decide +kernel
theorem dX7_isSpoiled_51 : decode cX7_isSpoiled 51 = .ok (.iload 6, 2) := by decide +kernel
theorem dX7_isSpoiled_53 : decode cX7_isSpoiled 53 = .ok (.iaload, 1) := by decide +kernel
theorem dX7_isSpoiled_54 : decode cX7_isSpoiled 54 = .ok (.iload_n 2, 1) := by decide +kernel
theorem dX7_isSpoiled_55 : decode cX7_isSpoiled 55 = .ok (.iload 4, 2) := by decide +kernel
theorem dX7_isSpoiled_57 : decode cX7_isSpoiled 57 = .ok (.iadd, 1) := by decide +kernel
theorem dX7_isSpoiled_58 : decode cX7_isSpoiled 58 = .ok (.if_icmp .ge 22, 3) := by decide +kernel
theorem dX7_isSpoiled_61 : decode cX7_isSpoiled 61 = .ok (.aload_n 0, 1) := by decide +kernel
theorem dX7_isSpoiled_62 : decode cX7_isSpoiled 62 = .ok (.getfield 23, 3) := by decide +kernel
theorem dX7_isSpoiled_65 : decode cX7_isSpoiled 65 = .ok (.iload 6, 2) := by decide +kernel
theorem dX7_isSpoiled_67 : decode cX7_isSpoiled 67 = .ok (.iaload, 1) := by decide +kernel
theorem dX7_isSpoiled_68 : decode cX7_isSpoiled 68 = .ok (.aload_n 0, 1) := by decide +kernel
theorem dX7_isSpoiled_69 : decode cX7_isSpoiled 69 = .ok (.getfield 29, 3) := by decide +kernel
theorem dX7_isSpoiled_72 : decode cX7_isSpoiled 72 = .ok (.iload 6, 2) := by decide +kernel
theorem dX7_isSpoiled_74 : decode cX7_isSpoiled 74 = .ok (.iaload, 1) := by decide +kernel
theorem dX7_isSpoiled_75 : decode cX7_isSpoiled 75 = .ok (.iadd, 1) := by decide +kernel
theorem dX7_isSpoiled_76 : decode cX7_isSpoiled 76 = .ok (.iload_n 2, 1) := by decide +kernel
theorem dX7_isSpoiled_77 : decode cX7_isSpoiled 77 = .ok (.if_icmp .gt 7, 3) := by decide +kernel
theorem dX7_isSpoiled_80 : decode cX7_isSpoiled 80 = .ok (.iconst 1, 1) := by decide +kernel
theorem dX7_isSpoiled_81 : decode cX7_isSpoiled 81 = .ok (.goto 4, 3) := by decide +kernel
theorem dX7_isSpoiled_84 : decode cX7_isSpoiled 84 = .ok (.iconst 0, 1) := by decide +kernel
theorem dX7_isSpoiled_85 : decode cX7_isSpoiled 85 = .ok (.istore 7, 2) := by decide +kernel
theorem dX7_isSpoiled_87 : decode cX7_isSpoiled 87 = .ok (.iload 5, 2) := by decide +kernel
theorem dX7_isSpoiled_89 : decode cX7_isSpoiled 89 = .ok (.ifCond .ne 8, 3) := by decide +kernel
theorem dX7_isSpoiled_92 : decode cX7_isSpoiled 92 = .ok (.iload 7, 2) := by decide +kernel
theorem dX7_isSpoiled_94 : decode cX7_isSpoiled 94 = .ok (.ifCond .ne 7, 3) := by decide +kernel
theorem dX7_isSpoiled_97 : decode cX7_isSpoiled 97 = .ok (.iconst 1, 1) := by decide +kernel
theorem dX7_isSpoiled_98 : decode cX7_isSpoiled 98 = .ok (.goto 4, 3) := by decide +kernel
theorem dX7_isSpoiled_101 : decode cX7_isSpoiled 101 = .ok (.iconst 0, 1) := by decide +kernel
theorem dX7_isSpoiled_102 : decode cX7_isSpoiled 102 = .ok (.istore 5, 2) := by decide +kernel
theorem dX7_isSpoiled_104 : decode cX7_isSpoiled 104 = .ok (.iinc 6 1, 3) := by decide +kernel
theorem dX7_isSpoiled_107 : decode cX7_isSpoiled 107 = .ok (.goto (-101), 3) := by decide +kernel
theorem dX7_isSpoiled_110 : decode cX7_isSpoiled 110 = .ok (.iload 5, 2) := by decide +kernel
theorem dX7_isSpoiled_112 : decode cX7_isSpoiled 112 = .ok (.ireturn, 1) := by decide +kernel
theorem dX7_isLike_0 : decode cX7_isLike 0 = .ok (.iload_n 2, 1) := by decide +kernel
theorem dX7_isLike_1 : decode cX7_isLike 1 = .ok (.ifCond .ne 32, 3) := by decide +kernel
theorem dX7_isLike_4 : decode cX7_isLike 4 = .ok (.aload_n 0, 1) := by decide +kernel
theorem dX7_isLike_5 : decode cX7_isLike 5 = .ok (.getfield 32, 3) := by decide +kernel
theorem dX7_isLike_8 : decode cX7_isLike 8 = .ok (.iload_n 1, 1) := by decide +kernel
theorem dX7_isLike_9 : decode cX7_isLike 9 = .ok (.iaload, 1) := by decide +kernel
theorem dX7_isLike_10 : decode cX7_isLike 10 = .ok (.iload_n 3, 1) := by decide +kernel
theorem dX7_isLike_11 : decode cX7_isLike 11 = .ok (.if_icmp .ne 18, 3) := by decide +kernel
theorem dX7_isLike_14 : decode cX7_isLike 14 = .ok (.aload_n 0, 1) := by decide +kernel
theorem dX7_isLike_15 : decode cX7_isLike 15 = .ok (.getfield 35, 3) := by decide +kernel
theorem dX7_isLike_18 : decode cX7_isLike 18 = .ok (.iload_n 1, 1) := by decide +kernel
theorem dX7_isLike_19 : decode cX7_isLike 19 = .ok (.iaload, 1) := by decide +kernel
theorem dX7_isLike_20 : decode cX7_isLike 20 = .ok (.iload 4, 2) := by decide +kernel
theorem dX7_isLike_22 : decode cX7_isLike 22 = .ok (.if_icmp .ne 7, 3) := by decide +kernel
theorem dX7_isLike_25 : decode cX7_isLike 25 = .ok (.iconst 1, 1) := by decide +kernel
theorem dX7_isLike_26 : decode cX7_isLike 26 = .ok (.goto 42, 3) := by decide +kernel
theorem dX7_isLike_29 : decode cX7_isLike 29 = .ok (.iconst 0, 1) := by decide +kernel
theorem dX7_isLike_30 : decode cX7_isLike 30 = .ok (.goto 38, 3) := by decide +kernel
theorem dX7_isLike_33 : decode cX7_isLike 33 = .ok (.aload_n 0, 1) := by decide +kernel
theorem dX7_isLike_34 : decode cX7_isLike 34 = .ok (.getfield 41, 3) := by decide +kernel
theorem dX7_isLike_37 : decode cX7_isLike 37 = .ok (.iload_n 1, 1) := by decide +kernel
theorem dX7_isLike_38 : decode cX7_isLike 38 = .ok (.baload, 1) := by decide +kernel
theorem dX7_isLike_39 : decode cX7_isLike 39 = .ok (.ifCond .eq 28, 3) := by decide +kernel
theorem dX7_isLike_42 : decode cX7_isLike 42 = .ok (.aload_n 0, 1) := by decide +kernel
theorem dX7_isLike_43 : decode cX7_isLike 43 = .ok (.getfield 35, 3) := by decide +kernel
theorem dX7_isLike_46 : decode cX7_isLike 46 = .ok (.iload_n 1, 1) := by decide +kernel
theorem dX7_isLike_47 : decode cX7_isLike 47 = .ok (.iaload, 1) := by decide +kernel
theorem dX7_isLike_48 : decode cX7_isLike 48 = .ok (.iload_n 3, 1) := by decide +kernel
theorem dX7_isLike_49 : decode cX7_isLike 49 = .ok (.if_icmp .ne 18, 3) := by decide +kernel
theorem dX7_isLike_52 : decode cX7_isLike 52 = .ok (.aload_n 0, 1) := by decide +kernel
theorem dX7_isLike_53 : decode cX7_isLike 53 = .ok (.getfield 32, 3) := by decide +kernel
theorem dX7_isLike_56 : decode cX7_isLike 56 = .ok (.iload_n 1, 1) := by decide +kernel
theorem dX7_isLike_57 : decode cX7_isLike 57 = .ok (.iaload, 1) := by decide +kernel
theorem dX7_isLike_58 : decode cX7_isLike 58 = .ok (.iload 4, 2) := by decide +kernel
theorem dX7_isLike_60 : decode cX7_isLike 60 = .ok (.if_icmp .ne 7, 3) := by decide +kernel
theorem dX7_isLike_63 : decode cX7_isLike 63 = .ok (.iconst 1, 1) := by decide +kernel
theorem dX7_isLike_64 : decode cX7_isLike 64 = .ok (.goto 4, 3) := by decide +kernel
theorem dX7_isLike_67 : decode cX7_isLike 67 = .ok (.iconst 0, 1) := by decide +kernel
theorem dX7_isLike_68 : decode cX7_isLike 68 = .ok (.ireturn, 1) := by decide +kernel
set_option maxRecDepth 100000 in
theorem ggX7_bestPiece_X7_isLike : GoodIn wsX7_bestPiece wsX7_isLike := goodIn_r _ [7, 8, 9, 10, 20, 21, 22, 23, 24, 25, 26, 27, 28, 29, 30, 31, 32, 33, 34, 35, 36, 37, 38, 39, 40, 41, 42, 43, 44, 45, 46, 47, 48, 49, 50, 51, 52, 53, 54, 55, 56, 57, 58, 59, 60, 61, 62, 63, 64, 65, 66] rfl (by decide +kernel)
set_option maxRecDepth 100000 in
theorem gX7_bestPiece_X7_isLike : GoodIn wsX7_bestPiece (wsV RX7 136 RX7 yX7_isLike wsX7_isLike) := goodIn_app (goodIn_of _ (by decide +kernel)) ggX7_bestPiece_X7_isLike
set_option maxRecDepth 100000 in
theorem ggX7_bestPiece_X7_isSpoiled : GoodIn wsX7_bestPiece wsX7_isSpoiled := goodIn_r _ [14, 15, 16, 17, 18, 19, 20, 21, 22, 23, 24, 25, 26, 27, 28, 29, 30, 31, 32, 33, 34, 35, 36, 37, 38, 39, 40, 41, 42, 43, 44, 45, 46, 47, 48, 49, 50, 51, 52, 53, 54, 55, 56, 57, 58, 59, 60, 61, 62, 63, 64, 65, 66] rfl (by decide +kernel)
set_option maxRecDepth 100000 in
theorem gX7_bestPiece_X7_isSpoiled : GoodIn wsX7_bestPiece (wsV RX7 139 RX7 yX7_isSpoiled wsX7_isSpoiled) := goodIn_app (goodIn_of _ (by decide +kernel)) ggX7_bestPiece_X7_isSpoiled
theorem dX7_bestPiece_0 : decode cX7_bestPiece 0 = .ok (.iconst 0, 1) := by decide +kernel
theorem dX7_bestPiece_1 : decode cX7_bestPiece 1 = .ok (.istore 5, 2) := by decide +kernel
theorem dX7_bestPiece_3 : decode cX7_bestPiece 3 = .ok (.iconst 0, 1) := by decide +kernel
theorem dX7_bestPiece_4 : decode cX7_bestPiece 4 = .ok (.istore 6, 2) := by decide +kernel
theorem dX7_bestPiece_6 : decode cX7_bestPiece 6 = .ok (.iload 6, 2) := by decide +kernel
theorem dX7_bestPiece_8 : decode cX7_bestPiece 8 = .ok (.aload_n 0, 1) := by decide +kernel
theorem dX7_bestPiece_9 : decode cX7_bestPiece 9 = .ok (.getfield 133, 3) := by decide +kernel
theorem dX7_bestPiece_12 : decode cX7_bestPiece 12 = .ok (.if_icmp .ge 56, 3) := by decide +kernel
theorem dX7_bestPiece_15 : decode cX7_bestPiece 15 = .ok (.aload_n 0, 1) := by decide +kernel
theorem dX7_bestPiece_16 : decode cX7_bestPiece 16 = .ok (.iload 6, 2) := by decide +kernel
theorem dX7_bestPiece_18 : decode cX7_bestPiece 18 = .ok (.iconst 0, 1) := by decide +kernel
theorem dX7_bestPiece_19 : decode cX7_bestPiece 19 = .ok (.iload_n 3, 1) := by decide +kernel
theorem dX7_bestPiece_20 : decode cX7_bestPiece 20 = .ok (.iload 4, 2) := by decide +kernel
theorem dX7_bestPiece_22 : decode cX7_bestPiece 22 = .ok (.invokevirtual 136, 3) := by decide +kernel
theorem dX7_bestPiece_25 : decode cX7_bestPiece 25 = .ok (.ifCond .ne 16, 3) := by decide +kernel
theorem dX7_bestPiece_28 : decode cX7_bestPiece 28 = .ok (.aload_n 0, 1) := by decide +kernel
theorem dX7_bestPiece_29 : decode cX7_bestPiece 29 = .ok (.iload 6, 2) := by decide +kernel
theorem dX7_bestPiece_31 : decode cX7_bestPiece 31 = .ok (.iconst 1, 1) := by decide +kernel
theorem dX7_bestPiece_32 : decode cX7_bestPiece 32 = .ok (.iload_n 3, 1) := by decide +kernel
theorem dX7_bestPiece_33 : decode cX7_bestPiece 33 = .ok (.iload 4, 2) := by decide +kernel
theorem dX7_bestPiece_35 : decode cX7_bestPiece 35 = .ok (.invokevirtual 136, 3) := by decide +kernel
theorem dX7_bestPiece_38 : decode cX7_bestPiece 38 = .ok (.ifCond .eq 24, 3) := by decide +kernel
theorem dX7_bestPiece_41 : decode cX7_bestPiece 41 = .ok (.aload_n 0, 1) := by decide +kernel
theorem dX7_bestPiece_42 : decode cX7_bestPiece 42 = .ok (.getfield 38, 3) := by decide +kernel
theorem dX7_bestPiece_45 : decode cX7_bestPiece 45 = .ok (.iload 6, 2) := by decide +kernel
theorem dX7_bestPiece_47 : decode cX7_bestPiece 47 = .ok (.iaload, 1) := by decide +kernel
theorem dX7_bestPiece_48 : decode cX7_bestPiece 48 = .ok (.iload 5, 2) := by decide +kernel
theorem dX7_bestPiece_50 : decode cX7_bestPiece 50 = .ok (.if_icmp .le 12, 3) := by decide +kernel
theorem dX7_bestPiece_53 : decode cX7_bestPiece 53 = .ok (.aload_n 0, 1) := by decide +kernel
theorem dX7_bestPiece_54 : decode cX7_bestPiece 54 = .ok (.getfield 38, 3) := by decide +kernel
theorem dX7_bestPiece_57 : decode cX7_bestPiece 57 = .ok (.iload 6, 2) := by decide +kernel
theorem dX7_bestPiece_59 : decode cX7_bestPiece 59 = .ok (.iaload, 1) := by decide +kernel
theorem dX7_bestPiece_60 : decode cX7_bestPiece 60 = .ok (.istore 5, 2) := by decide +kernel
theorem dX7_bestPiece_62 : decode cX7_bestPiece 62 = .ok (.iinc 6 1, 3) := by decide +kernel
theorem dX7_bestPiece_65 : decode cX7_bestPiece 65 = .ok (.goto (-59), 3) := by decide +kernel
theorem dX7_bestPiece_68 : decode cX7_bestPiece 68 = .ok (.iload 5, 2) := by decide +kernel
theorem dX7_bestPiece_70 : decode cX7_bestPiece 70 = .ok (.ifCond .le 19, 3) := by decide +kernel
theorem dX7_bestPiece_73 : decode cX7_bestPiece 73 = .ok (.aload_n 0, 1) := by decide +kernel
theorem dX7_bestPiece_74 : decode cX7_bestPiece 74 = .ok (.iload_n 1, 1) := by decide +kernel
theorem dX7_bestPiece_75 : decode cX7_bestPiece 75 = .ok (.iload_n 2, 1) := by decide +kernel
theorem dX7_bestPiece_76 : decode cX7_bestPiece 76 = .ok (.iload_n 3, 1) := by decide +kernel
theorem dX7_bestPiece_77 : decode cX7_bestPiece 77 = .ok (.iload 4, 2) := by decide +kernel
theorem dX7_bestPiece_79 : decode cX7_bestPiece 79 = .ok (.invokevirtual 139, 3) := by decide +kernel
theorem dX7_bestPiece_82 : decode cX7_bestPiece 82 = .ok (.ifCond .eq 7, 3) := by decide +kernel
theorem dX7_bestPiece_85 : decode cX7_bestPiece 85 = .ok (.iconst 0, 1) := by decide +kernel
theorem dX7_bestPiece_86 : decode cX7_bestPiece 86 = .ok (.goto 5, 3) := by decide +kernel
theorem dX7_bestPiece_89 : decode cX7_bestPiece 89 = .ok (.iload 5, 2) := by decide +kernel
theorem dX7_bestPiece_91 : decode cX7_bestPiece 91 = .ok (.ireturn, 1) := by decide +kernel
theorem dX7_wayOf_0 : decode cX7_wayOf 0 = .ok (.iload_n 1, 1) := by decide +kernel
theorem dX7_wayOf_1 : decode cX7_wayOf 1 = .ok (.iconst 2, 1) := by decide +kernel
theorem dX7_wayOf_2 : decode cX7_wayOf 2 = .ok (.irem, 1) := by decide +kernel
theorem dX7_wayOf_3 : decode cX7_wayOf 3 = .ok (.iconst 1, 1) := by decide +kernel
theorem dX7_wayOf_4 : decode cX7_wayOf 4 = .ok (.if_icmp .ne 10, 3) := by decide +kernel
theorem dX7_wayOf_7 : decode cX7_wayOf 7 = .ok (.aload_n 0, 1) := by decide +kernel
theorem dX7_wayOf_8 : decode cX7_wayOf 8 = .ok (.getfield 119, 3) := by decide +kernel
theorem dX7_wayOf_11 : decode cX7_wayOf 11 = .ok (.goto 9, 3) := by decide +kernel
theorem dX7_wayOf_14 : decode cX7_wayOf 14 = .ok (.iconst 1, 1) := by decide +kernel
theorem dX7_wayOf_15 : decode cX7_wayOf 15 = .ok (.aload_n 0, 1) := by decide +kernel
theorem dX7_wayOf_16 : decode cX7_wayOf 16 = .ok (.getfield 119, 3) := by decide +kernel
theorem dX7_wayOf_19 : decode cX7_wayOf 19 = .ok (.isub, 1) := by decide +kernel
theorem dX7_wayOf_20 : decode cX7_wayOf 20 = .ok (.ireturn, 1) := by decide +kernel
set_option maxRecDepth 100000 in
theorem ggX7_both_X7_wayOf : GoodIn wsX7_both wsX7_wayOf := goodIn_r _ [7, 8, 14, 15, 16, 17, 18, 19, 20, 21, 22, 23, 24, 25, 26, 27, 28, 29, 30, 31, 32, 33, 34, 35, 36, 37, 38, 39, 40, 41, 42, 43, 44, 45, 46, 47, 48, 49, 50, 51, 52, 53, 54, 55, 56, 57, 58, 59, 60] rfl (by decide +kernel)
set_option maxRecDepth 100000 in
theorem gX7_both_X7_wayOf : GoodIn wsX7_both (wsV RX7 142 RX7 yX7_wayOf wsX7_wayOf) := goodIn_app (goodIn_of _ (by decide +kernel)) ggX7_both_X7_wayOf
set_option maxRecDepth 100000 in
theorem ggX7_both_X7_at : GoodIn wsX7_both wsX7_at := goodIn_r _ [12, 13, 14, 15, 16, 17, 18, 19, 20, 21, 22, 23, 24, 25, 26, 27, 28, 29, 30, 31, 32, 33, 34, 35, 36, 37, 38, 39, 40, 41, 42, 43, 44, 45, 46, 47, 48, 49, 50, 51, 52, 53, 54, 55, 56, 57, 58, 59, 60] rfl (by decide +kernel)
set_option maxRecDepth 100000 in
theorem gX7_both_X7_at : GoodIn wsX7_both (wsV RX7 146 RX7 yX7_at wsX7_at) := goodIn_app (goodIn_of _ (by decide +kernel)) ggX7_both_X7_at
theorem dX7_both_0 : decode cX7_both 0 = .ok (.aload_n 0, 1) := by decide +kernel
theorem dX7_both_1 : decode cX7_both 1 = .ok (.iload_n 1, 1) := by decide +kernel
theorem dX7_both_2 : decode cX7_both 2 = .ok (.invokevirtual 142, 3) := by decide +kernel
theorem dX7_both_5 : decode cX7_both 5 = .ok (.ifCond .ne 53, 3) := by decide +kernel
theorem dX7_both_8 : decode cX7_both 8 = .ok (.aload_n 0, 1) := by decide +kernel
theorem dX7_both_9 : decode cX7_both 9 = .ok (.getfield 49, 3) := by decide +kernel
theorem dX7_both_12 : decode cX7_both 12 = .ok (.aload_n 0, 1) := by decide +kernel
theorem dX7_both_13 : decode cX7_both 13 = .ok (.iload_n 1, 1) := by decide +kernel
theorem dX7_both_14 : decode cX7_both 14 = .ok (.iload_n 2, 1) := by decide +kernel
theorem dX7_both_15 : decode cX7_both 15 = .ok (.iload_n 3, 1) := by decide +kernel
theorem dX7_both_16 : decode cX7_both 16 = .ok (.iload 6, 2) := by decide +kernel
theorem dX7_both_18 : decode cX7_both 18 = .ok (.iload 5, 2) := by decide +kernel
theorem dX7_both_20 : decode cX7_both 20 = .ok (.invokevirtual 146, 3) := by decide +kernel
theorem dX7_both_23 : decode cX7_both 23 = .ok (.iaload, 1) := by decide +kernel
theorem dX7_both_24 : decode cX7_both 24 = .ok (.aload_n 0, 1) := by decide +kernel
theorem dX7_both_25 : decode cX7_both 25 = .ok (.getfield 49, 3) := by decide +kernel
theorem dX7_both_28 : decode cX7_both 28 = .ok (.aload_n 0, 1) := by decide +kernel
theorem dX7_both_29 : decode cX7_both 29 = .ok (.iload_n 1, 1) := by decide +kernel
theorem dX7_both_30 : decode cX7_both 30 = .ok (.iload_n 2, 1) := by decide +kernel
theorem dX7_both_31 : decode cX7_both 31 = .ok (.iload 6, 2) := by decide +kernel
theorem dX7_both_33 : decode cX7_both 33 = .ok (.iadd, 1) := by decide +kernel
theorem dX7_both_34 : decode cX7_both 34 = .ok (.aload_n 0, 1) := by decide +kernel
theorem dX7_both_35 : decode cX7_both 35 = .ok (.getfield 116, 3) := by decide +kernel
theorem dX7_both_38 : decode cX7_both 38 = .ok (.iadd, 1) := by decide +kernel
theorem dX7_both_39 : decode cX7_both 39 = .ok (.iload_n 3, 1) := by decide +kernel
theorem dX7_both_40 : decode cX7_both 40 = .ok (.iload 4, 2) := by decide +kernel
theorem dX7_both_42 : decode cX7_both 42 = .ok (.iload 6, 2) := by decide +kernel
theorem dX7_both_44 : decode cX7_both 44 = .ok (.isub, 1) := by decide +kernel
theorem dX7_both_45 : decode cX7_both 45 = .ok (.aload_n 0, 1) := by decide +kernel
theorem dX7_both_46 : decode cX7_both 46 = .ok (.getfield 116, 3) := by decide +kernel
theorem dX7_both_49 : decode cX7_both 49 = .ok (.isub, 1) := by decide +kernel
theorem dX7_both_50 : decode cX7_both 50 = .ok (.iload 5, 2) := by decide +kernel
theorem dX7_both_52 : decode cX7_both 52 = .ok (.invokevirtual 146, 3) := by decide +kernel
theorem dX7_both_55 : decode cX7_both 55 = .ok (.iaload, 1) := by decide +kernel
theorem dX7_both_56 : decode cX7_both 56 = .ok (.iadd, 1) := by decide +kernel
theorem dX7_both_57 : decode cX7_both 57 = .ok (.ireturn, 1) := by decide +kernel
theorem dX7_both_58 : decode cX7_both 58 = .ok (.aload_n 0, 1) := by decide +kernel
theorem dX7_both_59 : decode cX7_both 59 = .ok (.getfield 49, 3) := by decide +kernel
theorem dX7_both_62 : decode cX7_both 62 = .ok (.aload_n 0, 1) := by decide +kernel
theorem dX7_both_63 : decode cX7_both 63 = .ok (.iload_n 1, 1) := by decide +kernel
theorem dX7_both_64 : decode cX7_both 64 = .ok (.iload_n 2, 1) := by decide +kernel
theorem dX7_both_65 : decode cX7_both 65 = .ok (.iload_n 3, 1) := by decide +kernel
theorem dX7_both_66 : decode cX7_both 66 = .ok (.iload 4, 2) := by decide +kernel
theorem dX7_both_68 : decode cX7_both 68 = .ok (.iload 6, 2) := by decide +kernel
theorem dX7_both_70 : decode cX7_both 70 = .ok (.invokevirtual 146, 3) := by decide +kernel
theorem dX7_both_73 : decode cX7_both 73 = .ok (.iaload, 1) := by decide +kernel
theorem dX7_both_74 : decode cX7_both 74 = .ok (.aload_n 0, 1) := by decide +kernel
theorem dX7_both_75 : decode cX7_both 75 = .ok (.getfield 49, 3) := by decide +kernel
theorem dX7_both_78 : decode cX7_both 78 = .ok (.aload_n 0, 1) := by decide +kernel
theorem dX7_both_79 : decode cX7_both 79 = .ok (.iload_n 1, 1) := by decide +kernel
theorem dX7_both_80 : decode cX7_both 80 = .ok (.iload_n 2, 1) := by decide +kernel
theorem dX7_both_81 : decode cX7_both 81 = .ok (.iload_n 3, 1) := by decide +kernel
theorem dX7_both_82 : decode cX7_both 82 = .ok (.iload 6, 2) := by decide +kernel
theorem dX7_both_84 : decode cX7_both 84 = .ok (.iadd, 1) := by decide +kernel
theorem dX7_both_85 : decode cX7_both 85 = .ok (.aload_n 0, 1) := by decide +kernel
theorem dX7_both_86 : decode cX7_both 86 = .ok (.getfield 116, 3) := by decide +kernel
theorem dX7_both_89 : decode cX7_both 89 = .ok (.iadd, 1) := by decide +kernel
theorem dX7_both_90 : decode cX7_both 90 = .ok (.iload 4, 2) := by decide +kernel
theorem dX7_both_92 : decode cX7_both 92 = .ok (.iload 5, 2) := by decide +kernel
theorem dX7_both_94 : decode cX7_both 94 = .ok (.iload 6, 2) := by decide +kernel
theorem dX7_both_96 : decode cX7_both 96 = .ok (.isub, 1) := by decide +kernel
theorem dX7_both_97 : decode cX7_both 97 = .ok (.aload_n 0, 1) := by decide +kernel
theorem dX7_both_98 : decode cX7_both 98 = .ok (.getfield 116, 3) := by decide +kernel
theorem dX7_both_101 : decode cX7_both 101 = .ok (.isub, 1) := by decide +kernel
theorem dX7_both_102 : decode cX7_both 102 = .ok (.invokevirtual 146, 3) := by decide +kernel
theorem dX7_both_105 : decode cX7_both 105 = .ok (.iaload, 1) := by decide +kernel
theorem dX7_both_106 : decode cX7_both 106 = .ok (.iadd, 1) := by decide +kernel
theorem dX7_both_107 : decode cX7_both 107 = .ok (.ireturn, 1) := by decide +kernel
set_option maxRecDepth 100000 in
theorem ggX7_work_X7_workPart : GoodIn wsX7_work wsX7_workPart := goodIn_r _ [8, 9, 10, 11, 12, 13, 14, 7, 15, 16, 17, 18, 19, 20, 21, 22, 23, 24, 25, 26, 27, 28, 29, 30, 31, 32, 33, 34, 35, 36, 37, 38, 39, 40, 41, 42, 43, 44, 45, 46, 47, 78, 79, 80, 81, 82, 83, 84, 85, 86, 87, 88, 89, 90, 91, 92, 93, 94, 95, 96, 97, 98, 99, 100, 101, 102, 103, 104, 105, 106, 107, 108, 109, 110, 111, 112, 113, 114, 115, 116, 117, 118, 119, 120, 121, 122, 123, 124] rfl (by decide +kernel)
set_option maxRecDepth 100000 in
theorem gX7_work_X7_workPart : GoodIn wsX7_work (wsV RX7 150 RX7 yX7_workPart wsX7_workPart) := goodIn_app (goodIn_of _ (by decide +kernel)) ggX7_work_X7_workPart
set_option maxRecDepth 100000 in
theorem ggX7_work_X7_layPlan : GoodIn wsX7_work wsX7_layPlan := goodIn_r _ [51, 52, 53, 54, 2, 3, 55, 56, 57, 58, 7, 59, 60, 61, 62, 63, 11, 10, 64, 65, 66, 67, 68, 69, 43, 44, 45, 46, 47, 70, 71, 72, 73, 16, 17, 74, 75, 76, 77, 25, 26, 27, 28, 29, 30, 31, 32, 33, 18, 19, 20, 21, 22, 23, 24, 34, 35, 36, 37, 38, 39, 40, 41, 42, 78, 79, 80, 81, 82, 83, 84, 85, 86, 87, 88, 89, 90, 91, 92, 93, 94, 95, 96, 97, 98, 99, 100, 101, 102, 103, 104, 105, 106, 107, 108, 109, 110, 111, 112, 113, 114, 115, 116, 117, 118, 119, 120, 121, 122, 123, 124] rfl (by decide +kernel)
set_option maxRecDepth 100000 in
theorem gX7_work_X7_layPlan : GoodIn wsX7_work (wsV RX7 154 RX7 yX7_layPlan wsX7_layPlan) := goodIn_app (goodIn_of _ (by decide +kernel)) ggX7_work_X7_layPlan
theorem dX7_work_0 : decode cX7_work 0 = .ok (.aload_n 0, 1) := by decide +kernel
theorem dX7_work_1 : decode cX7_work 1 = .ok (.getfield 125, 3) := by decide +kernel
theorem dX7_work_4 : decode cX7_work 4 = .ok (.ifCond .eq 4, 3) := by decide +kernel
theorem dX7_work_7 : decode cX7_work 7 = .ok (.return_, 1) := by decide +kernel
theorem dX7_work_8 : decode cX7_work 8 = .ok (.aload_n 0, 1) := by decide +kernel
theorem dX7_work_9 : decode cX7_work 9 = .ok (.iconst 1, 1) := by decide +kernel
theorem dX7_work_10 : decode cX7_work 10 = .ok (.putfield 125, 3) := by decide +kernel
