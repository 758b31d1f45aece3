theorem dX5_join_226 : decode cX5_join 226 = .ok (.iastore, 1) := by decide +kernel
theorem dX5_join_227 : decode cX5_join 227 = .ok (.iinc 8 (-1), 3) := by decide +kernel
theorem dX5_join_230 : decode cX5_join 230 = .ok (.goto (-29), 3) := by decide +kernel
theorem dX5_join_233 : decode cX5_join 233 = .ok (.aload_n 0, 1) := by decide +kernel
theorem dX5_join_234 : decode cX5_join 234 = .ok (.getfield 13, 3) := by decide +kernel
theorem dX5_join_237 : decode cX5_join 237 = .ok (.iload 5, 2) := by decide +kernel
theorem dX5_join_239 : decode cX5_join 239 = .ok (.iload 6, 2) := by decide +kernel
theorem dX5_join_241 : decode cX5_join 241 = .ok (.iastore, 1) := by decide +kernel
theorem dX5_join_242 : decode cX5_join 242 = .ok (.aload_n 0, 1) := by decide +kernel
theorem dX5_join_243 : decode cX5_join 243 = .ok (.iload_n 1, 1) := by decide +kernel
theorem dX5_join_244 : decode cX5_join 244 = .ok (.iload_n 2, 1) := by decide +kernel
theorem dX5_join_245 : decode cX5_join 245 = .ok (.iconst 1, 1) := by decide +kernel
theorem dX5_join_246 : decode cX5_join 246 = .ok (.invokevirtual 120, 3) := by decide +kernel
theorem dX5_join_249 : decode cX5_join 249 = .ok (.aload_n 0, 1) := by decide +kernel
theorem dX5_join_250 : decode cX5_join 250 = .ok (.getfield 50, 3) := by decide +kernel
theorem dX5_join_253 : decode cX5_join 253 = .ok (.bipush 24, 2) := by decide +kernel
theorem dX5_join_255 : decode cX5_join 255 = .ok (.iload_n 1, 1) := by decide +kernel
theorem dX5_join_256 : decode cX5_join 256 = .ok (.imul, 1) := by decide +kernel
theorem dX5_join_257 : decode cX5_join 257 = .ok (.iload_n 2, 1) := by decide +kernel
theorem dX5_join_258 : decode cX5_join 258 = .ok (.iadd, 1) := by decide +kernel
theorem dX5_join_259 : decode cX5_join 259 = .ok (.iconst 0, 1) := by decide +kernel
theorem dX5_join_260 : decode cX5_join 260 = .ok (.iastore, 1) := by decide +kernel
theorem dX5_join_261 : decode cX5_join 261 = .ok (.aload_n 0, 1) := by decide +kernel
theorem dX5_join_262 : decode cX5_join 262 = .ok (.getfield 50, 3) := by decide +kernel
theorem dX5_join_265 : decode cX5_join 265 = .ok (.bipush 24, 2) := by decide +kernel
theorem dX5_join_267 : decode cX5_join 267 = .ok (.iload_n 2, 1) := by decide +kernel
theorem dX5_join_268 : decode cX5_join 268 = .ok (.imul, 1) := by decide +kernel
theorem dX5_join_269 : decode cX5_join 269 = .ok (.iload_n 1, 1) := by decide +kernel
theorem dX5_join_270 : decode cX5_join 270 = .ok (.iadd, 1) := by decide +kernel
theorem dX5_join_271 : decode cX5_join 271 = .ok (.iconst 0, 1) := by decide +kernel
theorem dX5_join_272 : decode cX5_join 272 = .ok (.iastore, 1) := by decide +kernel
theorem dX5_join_273 : decode cX5_join 273 = .ok (.aload_n 0, 1) := by decide +kernel
theorem dX5_join_274 : decode cX5_join 274 = .ok (.getfield 53, 3) := by decide +kernel
theorem dX5_join_277 : decode cX5_join 277 = .ok (.bipush 24, 2) := by decide +kernel
theorem dX5_join_279 : decode cX5_join 279 = .ok (.iload_n 1, 1) := by decide +kernel
theorem dX5_join_280 : decode cX5_join 280 = .ok (.imul, 1) := by decide +kernel
theorem dX5_join_281 : decode cX5_join 281 = .ok (.iload_n 2, 1) := by decide +kernel
theorem dX5_join_282 : decode cX5_join 282 = .ok (.iadd, 1) := by decide +kernel
theorem dX5_join_283 : decode cX5_join 283 = .ok (.iconst 0, 1) := by decide +kernel
theorem dX5_join_284 : decode cX5_join 284 = .ok (.iastore, 1) := by decide +kernel
theorem dX5_join_285 : decode cX5_join 285 = .ok (.aload_n 0, 1) := by decide +kernel
theorem dX5_join_286 : decode cX5_join 286 = .ok (.getfield 53, 3) := by decide +kernel
theorem dX5_join_289 : decode cX5_join 289 = .ok (.bipush 24, 2) := by decide +kernel
theorem dX5_join_291 : decode cX5_join 291 = .ok (.iload_n 2, 1) := by decide +kernel
theorem dX5_join_292 : decode cX5_join 292 = .ok (.imul, 1) := by decide +kernel
theorem dX5_join_293 : decode cX5_join 293 = .ok (.iload_n 1, 1) := by decide +kernel
theorem dX5_join_294 : decode cX5_join 294 = .ok (.iadd, 1) := by decide +kernel
theorem dX5_join_295 : decode cX5_join 295 = .ok (.iconst 0, 1) := by decide +kernel
theorem dX5_join_296 : decode cX5_join 296 = .ok (.iastore, 1) := by decide +kernel
theorem dX5_join_297 : decode cX5_join 297 = .ok (.iconst 0, 1) := by decide +kernel
theorem dX5_join_298 : decode cX5_join 298 = .ok (.ireturn, 1) := by decide +kernel
theorem dX5_holder_0 : decode cX5_holder 0 = .ok (.aload_n 0, 1) := by decide +kernel
theorem dX5_holder_1 : decode cX5_holder 1 = .ok (.getfield 105, 3) := by decide +kernel
theorem dX5_holder_4 : decode cX5_holder 4 = .ok (.ifCond .ne 5, 3) := by decide +kernel
theorem dX5_holder_7 : decode cX5_holder 7 = .ok (.iconst (-1), 1) := by decide +kernel
theorem dX5_holder_8 : decode cX5_holder 8 = .ok (.ireturn, 1) := by decide +kernel
theorem dX5_holder_9 : decode cX5_holder 9 = .ok (.bipush (-2), 2) := by decide +kernel
theorem dX5_holder_11 : decode cX5_holder 11 = .ok (.istore_n 1, 1) := by decide +kernel
theorem dX5_holder_12 : decode cX5_holder 12 = .ok (.iconst 0, 1) := by decide +kernel
theorem dX5_holder_13 : decode cX5_holder 13 = .ok (.istore_n 2, 1) := by decide +kernel
theorem dX5_holder_14 : decode cX5_holder 14 = .ok (.iload_n 2, 1) := by decide +kernel
theorem dX5_holder_15 : decode cX5_holder 15 = .ok (.aload_n 0, 1) := by decide +kernel
theorem dX5_holder_16 : decode cX5_holder 16 = .ok (.getfield 101, 3) := by decide +kernel
theorem dX5_holder_19 : decode cX5_holder 19 = .ok (.if_icmp .ge 25, 3) := by decide +kernel
theorem dX5_holder_22 : decode cX5_holder 22 = .ok (.aload_n 0, 1) := by decide +kernel
theorem dX5_holder_23 : decode cX5_holder 23 = .ok (.getfield 13, 3) := by decide +kernel
theorem dX5_holder_26 : decode cX5_holder 26 = .ok (.iload_n 2, 1) := by decide +kernel
theorem dX5_holder_27 : decode cX5_holder 27 = .ok (.iaload, 1) := by decide +kernel
theorem dX5_holder_28 : decode cX5_holder 28 = .ok (.iload_n 2, 1) := by decide +kernel
theorem dX5_holder_29 : decode cX5_holder 29 = .ok (.if_icmp .ne 7, 3) := by decide +kernel
theorem dX5_holder_32 : decode cX5_holder 32 = .ok (.iload_n 2, 1) := by decide +kernel
theorem dX5_holder_33 : decode cX5_holder 33 = .ok (.goto 4, 3) := by decide +kernel
theorem dX5_holder_36 : decode cX5_holder 36 = .ok (.iload_n 1, 1) := by decide +kernel
theorem dX5_holder_37 : decode cX5_holder 37 = .ok (.istore_n 1, 1) := by decide +kernel
theorem dX5_holder_38 : decode cX5_holder 38 = .ok (.iinc 2 1, 3) := by decide +kernel
theorem dX5_holder_41 : decode cX5_holder 41 = .ok (.goto (-27), 3) := by decide +kernel
theorem dX5_holder_44 : decode cX5_holder 44 = .ok (.iload_n 1, 1) := by decide +kernel
theorem dX5_holder_45 : decode cX5_holder 45 = .ok (.ireturn, 1) := by decide +kernel
set_option maxRecDepth 20000 in
theorem ggX5_pointer_X5_isStation : GoodIn wsX5_pointer wsX5_isStation := goodIn_r _ [7, 8, 9, 10, 11, 12, 13, 14, 15, 16, 17, 18, 19, 20, 21, 22, 23, 24, 25, 26, 27, 28, 29, 30, 31, 32, 33, 34, 35, 36, 37, 38, 39, 40, 41] rfl (by decide +kernel)
set_option maxRecDepth 20000 in
theorem gX5_pointer_X5_isStation : GoodIn wsX5_pointer (wsV RX5 109 RX5 yX5_isStation wsX5_isStation) := goodIn_app (goodIn_of _ (by decide +kernel)) ggX5_pointer_X5_isStation
theorem dX5_pointer_0 : decode cX5_pointer 0 = .ok (.aload_n 0, 1) := by decide +kernel
theorem dX5_pointer_1 : decode cX5_pointer 1 = .ok (.getfield 105, 3) := by decide +kernel
theorem dX5_pointer_4 : decode cX5_pointer 4 = .ok (.ifCond .eq 20, 3) := by decide +kernel
theorem dX5_pointer_7 : decode cX5_pointer 7 = .ok (.aload_n 0, 1) := by decide +kernel
theorem dX5_pointer_8 : decode cX5_pointer 8 = .ok (.iload_n 1, 1) := by decide +kernel
theorem dX5_pointer_9 : decode cX5_pointer 9 = .ok (.invokevirtual 109, 3) := by decide +kernel
theorem dX5_pointer_12 : decode cX5_pointer 12 = .ok (.ifCond .eq 12, 3) := by decide +kernel
theorem dX5_pointer_15 : decode cX5_pointer 15 = .ok (.aload_n 0, 1) := by decide +kernel
theorem dX5_pointer_16 : decode cX5_pointer 16 = .ok (.getfield 13, 3) := by decide +kernel
theorem dX5_pointer_19 : decode cX5_pointer 19 = .ok (.iload_n 1, 1) := by decide +kernel
theorem dX5_pointer_20 : decode cX5_pointer 20 = .ok (.iaload, 1) := by decide +kernel
theorem dX5_pointer_21 : decode cX5_pointer 21 = .ok (.goto 4, 3) := by decide +kernel
theorem dX5_pointer_24 : decode cX5_pointer 24 = .ok (.iconst (-1), 1) := by decide +kernel
theorem dX5_pointer_25 : decode cX5_pointer 25 = .ok (.ireturn, 1) := by decide +kernel
set_option maxRecDepth 20000 in
theorem ggX5_queue_X5_isStation : GoodIn wsX5_queue wsX5_isStation := goodIn_r _ [9, 10, 15, 16, 17, 18, 19, 20, 21, 22, 23, 24, 25, 26, 27, 28, 29, 30, 31, 32, 33, 34, 35, 36, 37, 38, 39, 40, 41, 42, 43, 44, 45, 46, 47] rfl (by decide +kernel)
set_option maxRecDepth 20000 in
theorem gX5_queue_X5_isStation : GoodIn wsX5_queue (wsV RX5 109 RX5 yX5_isStation wsX5_isStation) := goodIn_app (goodIn_of _ (by decide +kernel)) ggX5_queue_X5_isStation
set_option maxRecDepth 20000 in
theorem ggX5_queue_X5_entry : GoodIn wsX5_queue wsX5_entry := goodIn_r _ [14] rfl (by decide +kernel)
set_option maxRecDepth 20000 in
theorem gX5_queue_X5_entry : GoodIn wsX5_queue (wsV RX5 139 RX5 yX5_entry wsX5_entry) := goodIn_app (goodIn_of _ (by decide +kernel)) ggX5_queue_X5_entry
theorem dX5_queue_0 : decode cX5_queue 0 = .ok (.aload_n 0, 1) := by decide +kernel
theorem dX5_queue_1 : decode cX5_queue 1 = .ok (.getfield 105, 3) := by decide +kernel
theorem dX5_queue_4 : decode cX5_queue 4 = .ok (.ifCond .eq 25, 3) := by decide +kernel
theorem dX5_queue_7 : decode cX5_queue 7 = .ok (.aload_n 0, 1) := by decide +kernel
theorem dX5_queue_8 : decode cX5_queue 8 = .ok (.iload_n 1, 1) := by decide +kernel
theorem dX5_queue_9 : decode cX5_queue 9 = .ok (.invokevirtual 109, 3) := by decide +kernel
theorem dX5_queue_12 : decode cX5_queue 12 = .ok (.ifCond .eq 17, 3) := by decide +kernel
theorem dX5_queue_15 : decode cX5_queue 15 = .ok (.iload_n 2, 1) := by decide +kernel
theorem dX5_queue_16 : decode cX5_queue 16 = .ok (.ifCond .lt 13, 3) := by decide +kernel
theorem dX5_queue_19 : decode cX5_queue 19 = .ok (.iload_n 2, 1) := by decide +kernel
theorem dX5_queue_20 : decode cX5_queue 20 = .ok (.aload_n 0, 1) := by decide +kernel
theorem dX5_queue_21 : decode cX5_queue 21 = .ok (.getfield 41, 3) := by decide +kernel
theorem dX5_queue_24 : decode cX5_queue 24 = .ok (.iload_n 1, 1) := by decide +kernel
theorem dX5_queue_25 : decode cX5_queue 25 = .ok (.iaload, 1) := by decide +kernel
theorem dX5_queue_26 : decode cX5_queue 26 = .ok (.if_icmp .lt 5, 3) := by decide +kernel
theorem dX5_queue_29 : decode cX5_queue 29 = .ok (.iconst (-1), 1) := by decide +kernel
theorem dX5_queue_30 : decode cX5_queue 30 = .ok (.ireturn, 1) := by decide +kernel
theorem dX5_queue_31 : decode cX5_queue 31 = .ok (.iload_n 3, 1) := by decide +kernel
theorem dX5_queue_32 : decode cX5_queue 32 = .ok (.ifCond .eq 17, 3) := by decide +kernel
theorem dX5_queue_35 : decode cX5_queue 35 = .ok (.aload_n 0, 1) := by decide +kernel
theorem dX5_queue_36 : decode cX5_queue 36 = .ok (.getfield 47, 3) := by decide +kernel
theorem dX5_queue_39 : decode cX5_queue 39 = .ok (.aload_n 0, 1) := by decide +kernel
theorem dX5_queue_40 : decode cX5_queue 40 = .ok (.iload_n 1, 1) := by decide +kernel
theorem dX5_queue_41 : decode cX5_queue 41 = .ok (.iload_n 2, 1) := by decide +kernel
theorem dX5_queue_42 : decode cX5_queue 42 = .ok (.invokevirtual 139, 3) := by decide +kernel
theorem dX5_queue_45 : decode cX5_queue 45 = .ok (.iaload, 1) := by decide +kernel
theorem dX5_queue_46 : decode cX5_queue 46 = .ok (.goto 14, 3) := by decide +kernel
theorem dX5_queue_49 : decode cX5_queue 49 = .ok (.aload_n 0, 1) := by decide +kernel
theorem dX5_queue_50 : decode cX5_queue 50 = .ok (.getfield 44, 3) := by decide +kernel
theorem dX5_queue_53 : decode cX5_queue 53 = .ok (.aload_n 0, 1) := by decide +kernel
theorem dX5_queue_54 : decode cX5_queue 54 = .ok (.iload_n 1, 1) := by decide +kernel
theorem dX5_queue_55 : decode cX5_queue 55 = .ok (.iload_n 2, 1) := by decide +kernel
theorem dX5_queue_56 : decode cX5_queue 56 = .ok (.invokevirtual 139, 3) := by decide +kernel
theorem dX5_queue_59 : decode cX5_queue 59 = .ok (.iaload, 1) := by decide +kernel
theorem dX5_queue_60 : decode cX5_queue 60 = .ok (.ireturn, 1) := by decide +kernel
theorem dX5_letter_0 : decode cX5_letter 0 = .ok (.aload_n 0, 1) := by decide +kernel
theorem dX5_letter_1 : decode cX5_letter 1 = .ok (.getfield 105, 3) := by decide +kernel
theorem dX5_letter_4 : decode cX5_letter 4 = .ok (.ifCond .eq 15, 3) := by decide +kernel
theorem dX5_letter_7 : decode cX5_letter 7 = .ok (.iload_n 1, 1) := by decide +kernel
theorem dX5_letter_8 : decode cX5_letter 8 = .ok (.ifCond .lt 11, 3) := by decide +kernel
theorem dX5_letter_11 : decode cX5_letter 11 = .ok (.iload_n 1, 1) := by decide +kernel
theorem dX5_letter_12 : decode cX5_letter 12 = .ok (.aload_n 0, 1) := by decide +kernel
theorem dX5_letter_13 : decode cX5_letter 13 = .ok (.getfield 136, 3) := by decide +kernel
theorem dX5_letter_16 : decode cX5_letter 16 = .ok (.if_icmp .lt 5, 3) := by decide +kernel
theorem dX5_letter_19 : decode cX5_letter 19 = .ok (.iconst (-1), 1) := by decide +kernel
theorem dX5_letter_20 : decode cX5_letter 20 = .ok (.ireturn, 1) := by decide +kernel
theorem dX5_letter_21 : decode cX5_letter 21 = .ok (.iload_n 2, 1) := by decide +kernel
theorem dX5_letter_22 : decode cX5_letter 22 = .ok (.tableswitch 75 0 4 #[34, 41, 51, 61, 68], 34) := by decide +kernel
theorem dX5_letter_56 : decode cX5_letter 56 = .ok (.aload_n 0, 1) := by decide +kernel
theorem dX5_letter_57 : decode cX5_letter 57 = .ok (.getfield 71, 3) := by decide +kernel
theorem dX5_letter_60 : decode cX5_letter 60 = .ok (.iload_n 1, 1) := by decide +kernel
theorem dX5_letter_61 : decode cX5_letter 61 = .ok (.iaload, 1) := by decide +kernel
theorem dX5_letter_62 : decode cX5_letter 62 = .ok (.ireturn, 1) := by decide +kernel
theorem dX5_letter_63 : decode cX5_letter 63 = .ok (.aload_n 0, 1) := by decide +kernel
theorem dX5_letter_64 : decode cX5_letter 64 = .ok (.getfield 68, 3) := by decide +kernel
theorem dX5_letter_67 : decode cX5_letter 67 = .ok (.iload_n 1, 1) := by decide +kernel
theorem dX5_letter_68 : decode cX5_letter 68 = .ok (.iaload, 1) := by decide +kernel
theorem dX5_letter_69 : decode cX5_letter 69 = .ok (.bipush 24, 2) := by decide +kernel
theorem dX5_letter_71 : decode cX5_letter 71 = .ok (.idiv, 1) := by decide +kernel
theorem dX5_letter_72 : decode cX5_letter 72 = .ok (.ireturn, 1) := by decide +kernel
theorem dX5_letter_73 : decode cX5_letter 73 = .ok (.aload_n 0, 1) := by decide +kernel
theorem dX5_letter_74 : decode cX5_letter 74 = .ok (.getfield 68, 3) := by decide +kernel
theorem dX5_letter_77 : decode cX5_letter 77 = .ok (.iload_n 1, 1) := by decide +kernel
theorem dX5_letter_78 : decode cX5_letter 78 = .ok (.iaload, 1) := by decide +kernel
theorem dX5_letter_79 : decode cX5_letter 79 = .ok (.bipush 24, 2) := by decide +kernel
theorem dX5_letter_81 : decode cX5_letter 81 = .ok (.irem, 1) := by decide +kernel
theorem dX5_letter_82 : decode cX5_letter 82 = .ok (.ireturn, 1) := by decide +kernel
theorem dX5_letter_83 : decode cX5_letter 83 = .ok (.aload_n 0, 1) := by decide +kernel
theorem dX5_letter_84 : decode cX5_letter 84 = .ok (.getfield 77, 3) := by decide +kernel
theorem dX5_letter_87 : decode cX5_letter 87 = .ok (.iload_n 1, 1) := by decide +kernel
theorem dX5_letter_88 : decode cX5_letter 88 = .ok (.iaload, 1) := by decide +kernel
theorem dX5_letter_89 : decode cX5_letter 89 = .ok (.ireturn, 1) := by decide +kernel
theorem dX5_letter_90 : decode cX5_letter 90 = .ok (.aload_n 0, 1) := by decide +kernel
theorem dX5_letter_91 : decode cX5_letter 91 = .ok (.getfield 74, 3) := by decide +kernel
theorem dX5_letter_94 : decode cX5_letter 94 = .ok (.iload_n 1, 1) := by decide +kernel
theorem dX5_letter_95 : decode cX5_letter 95 = .ok (.iaload, 1) := by decide +kernel
theorem dX5_letter_96 : decode cX5_letter 96 = .ok (.ireturn, 1) := by decide +kernel
theorem dX5_letter_97 : decode cX5_letter 97 = .ok (.iconst (-1), 1) := by decide +kernel
theorem dX5_letter_98 : decode cX5_letter 98 = .ok (.ireturn, 1) := by decide +kernel
set_option maxRecDepth 20000 in
theorem ggX5_told_X5_isStation : GoodIn wsX5_told wsX5_isStation := goodIn_r _ [18, 12, 19, 20, 21, 22, 23, 24, 25, 26, 27, 28, 29, 30, 31, 32, 33, 34, 35, 36, 37, 38, 39, 40, 41, 42, 43, 44, 45, 46, 47, 48, 49, 50, 51] rfl (by decide +kernel)
set_option maxRecDepth 20000 in
theorem gX5_told_X5_isStation : GoodIn wsX5_told (wsV RX5 109 RX5 yX5_isStation wsX5_isStation) := goodIn_app (goodIn_of _ (by decide +kernel)) ggX5_told_X5_isStation
theorem dX5_told_0 : decode cX5_told 0 = .ok (.aload_n 0, 1) := by decide +kernel
theorem dX5_told_1 : decode cX5_told 1 = .ok (.getfield 105, 3) := by decide +kernel
theorem dX5_told_4 : decode cX5_told 4 = .ok (.ifCond .eq 11, 3) := by decide +kernel
theorem dX5_told_7 : decode cX5_told 7 = .ok (.aload_n 0, 1) := by decide +kernel
theorem dX5_told_8 : decode cX5_told 8 = .ok (.iload_n 1, 1) := by decide +kernel
theorem dX5_told_9 : decode cX5_told 9 = .ok (.invokevirtual 109, 3) := by decide +kernel
theorem dX5_told_12 : decode cX5_told 12 = .ok (.ifCond .ne 5, 3) := by decide +kernel
theorem dX5_told_15 : decode cX5_told 15 = .ok (.iconst (-1), 1) := by decide +kernel
theorem dX5_told_16 : decode cX5_told 16 = .ok (.ireturn, 1) := by decide +kernel
theorem dX5_told_17 : decode cX5_told 17 = .ok (.iconst 0, 1) := by decide +kernel
theorem dX5_told_18 : decode cX5_told 18 = .ok (.istore_n 3, 1) := by decide +kernel
theorem dX5_told_19 : decode cX5_told 19 = .ok (.iload_n 2, 1) := by decide +kernel
theorem dX5_told_20 : decode cX5_told 20 = .ok (.tableswitch 221 0 9 #[56, 71, 86, 101, 108, 115, 122, 129, 136, 178], 56) := by decide +kernel
theorem dX5_told_76 : decode cX5_told 76 = .ok (.aload_n 0, 1) := by decide +kernel
theorem dX5_told_77 : decode cX5_told 77 = .ok (.getfield 17, 3) := by decide +kernel
theorem dX5_told_80 : decode cX5_told 80 = .ok (.iload_n 1, 1) := by decide +kernel
theorem dX5_told_81 : decode cX5_told 81 = .ok (.baload, 1) := by decide +kernel
theorem dX5_told_82 : decode cX5_told 82 = .ok (.ifCond .eq 7, 3) := by decide +kernel
theorem dX5_told_85 : decode cX5_told 85 = .ok (.iconst 1, 1) := by decide +kernel
theorem dX5_told_86 : decode cX5_told 86 = .ok (.goto 4, 3) := by decide +kernel
theorem dX5_told_89 : decode cX5_told 89 = .ok (.iconst 0, 1) := by decide +kernel
theorem dX5_told_90 : decode cX5_told 90 = .ok (.ireturn, 1) := by decide +kernel
theorem dX5_told_91 : decode cX5_told 91 = .ok (.aload_n 0, 1) := by decide +kernel
theorem dX5_told_92 : decode cX5_told 92 = .ok (.getfield 20, 3) := by decide +kernel
theorem dX5_told_95 : decode cX5_told 95 = .ok (.iload_n 1, 1) := by decide +kernel
theorem dX5_told_96 : decode cX5_told 96 = .ok (.baload, 1) := by decide +kernel
theorem dX5_told_97 : decode cX5_told 97 = .ok (.ifCond .eq 7, 3) := by decide +kernel
theorem dX5_told_100 : decode cX5_told 100 = .ok (.iconst 1, 1) := by decide +kernel
theorem dX5_told_101 : decode cX5_told 101 = .ok (.goto 4, 3) := by decide +kernel
theorem dX5_told_104 : decode cX5_told 104 = .ok (.iconst 0, 1) := by decide +kernel
theorem dX5_told_105 : decode cX5_told 105 = .ok (.ireturn, 1) := by decide +kernel
theorem dX5_told_106 : decode cX5_told 106 = .ok (.aload_n 0, 1) := by decide +kernel
theorem dX5_told_107 : decode cX5_told 107 = .ok (.getfield 23, 3) := by decide +kernel
theorem dX5_told_110 : decode cX5_told 110 = .ok (.iload_n 1, 1) := by decide +kernel
theorem dX5_told_111 : decode cX5_told 111 = .ok (.baload, 1) := by decide +kernel
theorem dX5_told_112 : decode cX5_told 112 = .ok (.ifCond .eq 7, 3) := by decide +kernel
theorem dX5_told_115 : decode cX5_told 115 = .ok (.iconst 1, 1) := by decide +kernel
theorem dX5_told_116 : decode cX5_told 116 = .ok (.goto 4, 3) := by decide +kernel
theorem dX5_told_119 : decode cX5_told 119 = .ok (.iconst 0, 1) := by decide +kernel
theorem dX5_told_120 : decode cX5_told 120 = .ok (.ireturn, 1) := by decide +kernel
theorem dX5_told_121 : decode cX5_told 121 = .ok (.aload_n 0, 1) := by decide +kernel
theorem dX5_told_122 : decode cX5_told 122 = .ok (.getfield 41, 3) := by decide +kernel
theorem dX5_told_125 : decode cX5_told 125 = .ok (.iload_n 1, 1) := by decide +kernel
theorem dX5_told_126 : decode cX5_told 126 = .ok (.iaload, 1) := by decide +kernel
theorem dX5_told_127 : decode cX5_told 127 = .ok (.ireturn, 1) := by decide +kernel
theorem dX5_told_128 : decode cX5_told 128 = .ok (.aload_n 0, 1) := by decide +kernel
theorem dX5_told_129 : decode cX5_told 129 = .ok (.getfield 26, 3) := by decide +kernel
theorem dX5_told_132 : decode cX5_told 132 = .ok (.iload_n 1, 1) := by decide +kernel
theorem dX5_told_133 : decode cX5_told 133 = .ok (.iaload, 1) := by decide +kernel
theorem dX5_told_134 : decode cX5_told 134 = .ok (.ireturn, 1) := by decide +kernel
theorem dX5_told_135 : decode cX5_told 135 = .ok (.aload_n 0, 1) := by decide +kernel
theorem dX5_told_136 : decode cX5_told 136 = .ok (.getfield 32, 3) := by decide +kernel
theorem dX5_told_139 : decode cX5_told 139 = .ok (.iload_n 1, 1) := by decide +kernel
theorem dX5_told_140 : decode cX5_told 140 = .ok (.iaload, 1) := by decide +kernel
theorem dX5_told_141 : decode cX5_told 141 = .ok (.ireturn, 1) := by decide +kernel
theorem dX5_told_142 : decode cX5_told 142 = .ok (.aload_n 0, 1) := by decide +kernel
theorem dX5_told_143 : decode cX5_told 143 = .ok (.getfield 35, 3) := by decide +kernel
theorem dX5_told_146 : decode cX5_told 146 = .ok (.iload_n 1, 1) := by decide +kernel
theorem dX5_told_147 : decode cX5_told 147 = .ok (.iaload, 1) := by decide +kernel
theorem dX5_told_148 : decode cX5_told 148 = .ok (.ireturn, 1) := by decide +kernel
theorem dX5_told_149 : decode cX5_told 149 = .ok (.aload_n 0, 1) := by decide +kernel
theorem dX5_told_150 : decode cX5_told 150 = .ok (.getfield 38, 3) := by decide +kernel
theorem dX5_told_153 : decode cX5_told 153 = .ok (.iload_n 1, 1) := by decide +kernel
theorem dX5_told_154 : decode cX5_told 154 = .ok (.iaload, 1) := by decide +kernel
theorem dX5_told_155 : decode cX5_told 155 = .ok (.ireturn, 1) := by decide +kernel
theorem dX5_told_156 : decode cX5_told 156 = .ok (.iconst 0, 1) := by decide +kernel
theorem dX5_told_157 : decode cX5_told 157 = .ok (.istore 4, 2) := by decide +kernel
theorem dX5_told_159 : decode cX5_told 159 = .ok (.iload 4, 2) := by decide +kernel
theorem dX5_told_161 : decode cX5_told 161 = .ok (.aload_n 0, 1) := by decide +kernel
theorem dX5_told_162 : decode cX5_told 162 = .ok (.getfield 133, 3) := by decide +kernel
theorem dX5_told_165 : decode cX5_told 165 = .ok (.if_icmp .ge 31, 3) := by decide +kernel
theorem dX5_told_168 : decode cX5_told 168 = .ok (.iload_n 3, 1) := by decide +kernel
theorem dX5_told_169 : decode cX5_told 169 = .ok (.aload_n 0, 1) := by decide +kernel
theorem dX5_told_170 : decode cX5_told 170 = .ok (.getfield 56, 3) := by decide +kernel
theorem dX5_told_173 : decode cX5_told 173 = .ok (.iload 4, 2) := by decide +kernel
theorem dX5_told_175 : decode cX5_told 175 = .ok (.iaload, 1) := by decide +kernel
theorem dX5_told_176 : decode cX5_told 176 = .ok (.bipush 24, 2) := by decide +kernel
theorem dX5_told_178 : decode cX5_told 178 = .ok (.idiv, 1) := by decide +kernel
theorem dX5_told_179 : decode cX5_told 179 = .ok (.iload_n 1, 1) := by decide +kernel
theorem dX5_told_180 : decode cX5_told 180 = .ok (.if_icmp .ne 7, 3) := by decide +kernel
theorem dX5_told_183 : decode cX5_told 183 = .ok (.iconst 1, 1) := by decide +kernel
theorem dX5_told_184 : decode cX5_told 184 = .ok (.goto 4, 3) := by decide +kernel
theorem dX5_told_187 : decode cX5_told 187 = .ok (.iconst 0, 1) := by decide +kernel
theorem dX5_told_188 : decode cX5_told 188 = .ok (.iadd, 1) := by decide +kernel
theorem dX5_told_189 : decode cX5_told 189 = .ok (.istore_n 3, 1) := by decide +kernel
theorem dX5_told_190 : decode cX5_told 190 = .ok (.iinc 4 1, 3) := by decide +kernel
theorem dX5_told_193 : decode cX5_told 193 = .ok (.goto (-34), 3) := by decide +kernel
theorem dX5_told_196 : decode cX5_told 196 = .ok (.iload_n 3, 1) := by decide +kernel
theorem dX5_told_197 : decode cX5_told 197 = .ok (.ireturn, 1) := by decide +kernel
theorem dX5_told_198 : decode cX5_told 198 = .ok (.iconst 0, 1) := by decide +kernel
theorem dX5_told_199 : decode cX5_told 199 = .ok (.istore 4, 2) := by decide +kernel
theorem dX5_told_201 : decode cX5_told 201 = .ok (.iload 4, 2) := by decide +kernel
theorem dX5_told_203 : decode cX5_told 203 = .ok (.aload_n 0, 1) := by decide +kernel
theorem dX5_told_204 : decode cX5_told 204 = .ok (.getfield 101, 3) := by decide +kernel
theorem dX5_told_207 : decode cX5_told 207 = .ok (.if_icmp .ge 32, 3) := by decide +kernel
theorem dX5_told_210 : decode cX5_told 210 = .ok (.iload_n 3, 1) := by decide +kernel
theorem dX5_told_211 : decode cX5_told 211 = .ok (.aload_n 0, 1) := by decide +kernel
theorem dX5_told_212 : decode cX5_told 212 = .ok (.getfield 7, 3) := by decide +kernel
theorem dX5_told_215 : decode cX5_told 215 = .ok (.bipush 24, 2) := by decide +kernel
theorem dX5_told_217 : decode cX5_told 217 = .ok (.iload_n 1, 1) := by decide +kernel
theorem dX5_told_218 : decode cX5_told 218 = .ok (.imul, 1) := by decide +kernel
theorem dX5_told_219 : decode cX5_told 219 = .ok (.iload 4, 2) := by decide +kernel
theorem dX5_told_221 : decode cX5_told 221 = .ok (.iadd, 1) := by decide +kernel
theorem dX5_told_222 : decode cX5_told 222 = .ok (.baload, 1) := by decide +kernel
theorem dX5_told_223 : decode cX5_told 223 = .ok (.ifCond .eq 7, 3) := by decide +kernel
theorem dX5_told_226 : decode cX5_told 226 = .ok (.iconst 1, 1) := by decide +kernel
theorem dX5_told_227 : decode cX5_told 227 = .ok (.goto 4, 3) := by decide +kernel
theorem dX5_told_230 : decode cX5_told 230 = .ok (.iconst 0, 1) := by decide +kernel
theorem dX5_told_231 : decode cX5_told 231 = .ok (.iadd, 1) := by decide +kernel
theorem dX5_told_232 : decode cX5_told 232 = .ok (.istore_n 3, 1) := by decide +kernel
theorem dX5_told_233 : decode cX5_told 233 = .ok (.iinc 4 1, 3) := by decide +kernel
theorem dX5_told_236 : decode cX5_told 236 = .ok (.goto (-35), 3) := by decide +kernel
theorem dX5_told_239 : decode cX5_told 239 = .ok (.iload_n 3, 1) := by decide +kernel
theorem dX5_told_240 : decode cX5_told 240 = .ok (.ireturn, 1) := by decide +kernel
theorem dX5_told_241 : decode cX5_told 241 = .ok (.iconst (-1), 1) := by decide +kernel
theorem dX5_told_242 : decode cX5_told 242 = .ok (.ireturn, 1) := by decide +kernel
set_option maxRecDepth 20000 in
theorem ggX5_count_X5_part : GoodIn wsX5_count wsX5_part := goodIn_r _ [11, 1, 12, 13, 24, 25, 26, 27, 28, 29, 30, 31, 32, 33, 34, 35, 36, 37, 38, 39, 40, 41, 42, 43, 44, 45, 46, 47, 48, 49, 50, 51, 52, 53, 54, 55, 56] rfl (by decide +kernel)
set_option maxRecDepth 20000 in
theorem gX5_count_X5_part : GoodIn wsX5_count (wsV RX5 116 RX5 yX5_part wsX5_part) := goodIn_app (goodIn_of _ (by decide +kernel)) ggX5_count_X5_part
set_option maxRecDepth 20000 in
theorem ggX5_count_X5_rightAt : GoodIn wsX5_count wsX5_rightAt := goodIn_r _ [17, 1, 18, 19, 20, 21, 22, 23, 24, 25, 26, 27, 28, 29, 30, 31, 32, 33, 34, 35, 36, 37, 38, 39, 40, 41, 42, 43, 44, 45, 46, 47, 48, 49, 50, 51, 52, 53, 54, 55, 56] rfl (by decide +kernel)
set_option maxRecDepth 20000 in
theorem gX5_count_X5_rightAt : GoodIn wsX5_count (wsV RX5 188 RX5 yX5_rightAt wsX5_rightAt) := goodIn_app (goodIn_of _ (by decide +kernel)) ggX5_count_X5_rightAt
theorem dX5_count_0 : decode cX5_count 0 = .ok (.iload_n 1, 1) := by decide +kernel
theorem dX5_count_1 : decode cX5_count 1 = .ok (.ifCond .ne 8, 3) := by decide +kernel
theorem dX5_count_4 : decode cX5_count 4 = .ok (.aload_n 0, 1) := by decide +kernel
theorem dX5_count_5 : decode cX5_count 5 = .ok (.getfield 101, 3) := by decide +kernel
theorem dX5_count_8 : decode cX5_count 8 = .ok (.ireturn, 1) := by decide +kernel
theorem dX5_count_9 : decode cX5_count 9 = .ok (.iload_n 1, 1) := by decide +kernel
theorem dX5_count_10 : decode cX5_count 10 = .ok (.iconst 1, 1) := by decide +kernel
theorem dX5_count_11 : decode cX5_count 11 = .ok (.if_icmp .ne 8, 3) := by decide +kernel
theorem dX5_count_14 : decode cX5_count 14 = .ok (.aload_n 0, 1) := by decide +kernel
theorem dX5_count_15 : decode cX5_count 15 = .ok (.getfield 113, 3) := by decide +kernel
theorem dX5_count_18 : decode cX5_count 18 = .ok (.ireturn, 1) := by decide +kernel
theorem dX5_count_19 : decode cX5_count 19 = .ok (.iload_n 1, 1) := by decide +kernel
theorem dX5_count_20 : decode cX5_count 20 = .ok (.iconst 5, 1) := by decide +kernel
theorem dX5_count_21 : decode cX5_count 21 = .ok (.if_icmp .ne 8, 3) := by decide +kernel
theorem dX5_count_24 : decode cX5_count 24 = .ok (.aload_n 0, 1) := by decide +kernel
theorem dX5_count_25 : decode cX5_count 25 = .ok (.invokevirtual 116, 3) := by decide +kernel
theorem dX5_count_28 : decode cX5_count 28 = .ok (.ireturn, 1) := by decide +kernel
theorem dX5_count_29 : decode cX5_count 29 = .ok (.aload_n 0, 1) := by decide +kernel
theorem dX5_count_30 : decode cX5_count 30 = .ok (.getfield 105, 3) := by decide +kernel
theorem dX5_count_33 : decode cX5_count 33 = .ok (.ifCond .ne 5, 3) := by decide +kernel
theorem dX5_count_36 : decode cX5_count 36 = .ok (.iconst (-1), 1) := by decide +kernel
theorem dX5_count_37 : decode cX5_count 37 = .ok (.ireturn, 1) := by decide +kernel
theorem dX5_count_38 : decode cX5_count 38 = .ok (.bipush (-2), 2) := by decide +kernel
theorem dX5_count_40 : decode cX5_count 40 = .ok (.istore_n 2, 1) := by decide +kernel
theorem dX5_count_41 : decode cX5_count 41 = .ok (.iconst 0, 1) := by decide +kernel
theorem dX5_count_42 : decode cX5_count 42 = .ok (.istore_n 3, 1) := by decide +kernel
theorem dX5_count_43 : decode cX5_count 43 = .ok (.iload_n 3, 1) := by decide +kernel
theorem dX5_count_44 : decode cX5_count 44 = .ok (.aload_n 0, 1) := by decide +kernel
theorem dX5_count_45 : decode cX5_count 45 = .ok (.getfield 101, 3) := by decide +kernel
theorem dX5_count_48 : decode cX5_count 48 = .ok (.if_icmp .ge 24, 3) := by decide +kernel
theorem dX5_count_51 : decode cX5_count 51 = .ok (.aload_n 0, 1) := by decide +kernel
theorem dX5_count_52 : decode cX5_count 52 = .ok (.getfield 20, 3) := by decide +kernel
theorem dX5_count_55 : decode cX5_count 55 = .ok (.iload_n 3, 1) := by decide +kernel
theorem dX5_count_56 : decode cX5_count 56 = .ok (.baload, 1) := by decide +kernel
theorem dX5_count_57 : decode cX5_count 57 = .ok (.ifCond .eq 7, 3) := by decide +kernel
theorem dX5_count_60 : decode cX5_count 60 = .ok (.iload_n 3, 1) := by decide +kernel
theorem dX5_count_61 : decode cX5_count 61 = .ok (.goto 4, 3) := by decide +kernel
theorem dX5_count_64 : decode cX5_count 64 = .ok (.iload_n 2, 1) := by decide +kernel
theorem dX5_count_65 : decode cX5_count 65 = .ok (.istore_n 2, 1) := by decide +kernel
theorem dX5_count_66 : decode cX5_count 66 = .ok (.iinc 3 1, 3) := by decide +kernel
theorem dX5_count_69 : decode cX5_count 69 = .ok (.goto (-26), 3) := by decide +kernel
theorem dX5_count_72 : decode cX5_count 72 = .ok (.iload_n 1, 1) := by decide +kernel
theorem dX5_count_73 : decode cX5_count 73 = .ok (.iconst 2, 1) := by decide +kernel
theorem dX5_count_74 : decode cX5_count 74 = .ok (.if_icmp .ne 10, 3) := by decide +kernel
theorem dX5_count_77 : decode cX5_count 77 = .ok (.aload_n 0, 1) := by decide +kernel
theorem dX5_count_78 : decode cX5_count 78 = .ok (.getfield 136, 3) := by decide +kernel
theorem dX5_count_81 : decode cX5_count 81 = .ok (.goto 38, 3) := by decide +kernel
theorem dX5_count_84 : decode cX5_count 84 = .ok (.iload_n 1, 1) := by decide +kernel
theorem dX5_count_85 : decode cX5_count 85 = .ok (.iconst 3, 1) := by decide +kernel
theorem dX5_count_86 : decode cX5_count 86 = .ok (.if_icmp .ne 7, 3) := by decide +kernel
theorem dX5_count_89 : decode cX5_count 89 = .ok (.iload_n 2, 1) := by decide +kernel
theorem dX5_count_90 : decode cX5_count 90 = .ok (.goto 29, 3) := by decide +kernel
theorem dX5_count_93 : decode cX5_count 93 = .ok (.iload_n 1, 1) := by decide +kernel
theorem dX5_count_94 : decode cX5_count 94 = .ok (.iconst 4, 1) := by decide +kernel
theorem dX5_count_95 : decode cX5_count 95 = .ok (.if_icmp .ne 10, 3) := by decide +kernel
theorem dX5_count_98 : decode cX5_count 98 = .ok (.aload_n 0, 1) := by decide +kernel
theorem dX5_count_99 : decode cX5_count 99 = .ok (.invokevirtual 188, 3) := by decide +kernel
theorem dX5_count_102 : decode cX5_count 102 = .ok (.goto 17, 3) := by decide +kernel
theorem dX5_count_105 : decode cX5_count 105 = .ok (.iload_n 1, 1) := by decide +kernel
theorem dX5_count_106 : decode cX5_count 106 = .ok (.bipush 6, 2) := by decide +kernel
theorem dX5_count_108 : decode cX5_count 108 = .ok (.if_icmp .ne 10, 3) := by decide +kernel
theorem dX5_count_111 : decode cX5_count 111 = .ok (.aload_n 0, 1) := by decide +kernel
theorem dX5_count_112 : decode cX5_count 112 = .ok (.getfield 130, 3) := by decide +kernel
theorem dX5_count_115 : decode cX5_count 115 = .ok (.goto 4, 3) := by decide +kernel
theorem dX5_count_118 : decode cX5_count 118 = .ok (.iconst (-1), 1) := by decide +kernel
theorem dX5_count_119 : decode cX5_count 119 = .ok (.ireturn, 1) := by decide +kernel
theorem dJ6_bitCount_0f7a4_0 : decode cJ6_bitCount_0f7a4 0 = .ok (.iload_n 0, 1) := by decide +kernel
theorem dJ6_bitCount_0f7a4_1 : decode cJ6_bitCount_0f7a4 1 = .ok (.iload_n 0, 1) := by decide +kernel
theorem dJ6_bitCount_0f7a4_2 : decode cJ6_bitCount_0f7a4 2 = .ok (.iconst 1, 1) := by decide +kernel
theorem dJ6_bitCount_0f7a4_3 : decode cJ6_bitCount_0f7a4 3 = .ok (.iushr, 1) := by decide +kernel
theorem dJ6_bitCount_0f7a4_4 : decode cJ6_bitCount_0f7a4 4 = .ok (.ldc_w 265, 3) := by decide +kernel
theorem dJ6_bitCount_0f7a4_7 : decode cJ6_bitCount_0f7a4 7 = .ok (.iand, 1) := by decide +kernel
theorem dJ6_bitCount_0f7a4_8 : decode cJ6_bitCount_0f7a4 8 = .ok (.isub, 1) := by decide +kernel
theorem dJ6_bitCount_0f7a4_9 : decode cJ6_bitCount_0f7a4 9 = .ok (.istore_n 0, 1) := by decide +kernel
theorem dJ6_bitCount_0f7a4_10 : decode cJ6_bitCount_0f7a4 10 = .ok (.iload_n 0, 1) := by decide +kernel
theorem dJ6_bitCount_0f7a4_11 : decode cJ6_bitCount_0f7a4 11 = .ok (.ldc_w 266, 3) := by decide +kernel
theorem dJ6_bitCount_0f7a4_14 : decode cJ6_bitCount_0f7a4 14 = .ok (.iand, 1) := by decide +kernel
theorem dJ6_bitCount_0f7a4_15 : decode cJ6_bitCount_0f7a4 15 = .ok (.iload_n 0, 1) := by decide +kernel
theorem dJ6_bitCount_0f7a4_16 : decode cJ6_bitCount_0f7a4 16 = .ok (.iconst 2, 1) := by decide +kernel
theorem dJ6_bitCount_0f7a4_17 : decode cJ6_bitCount_0f7a4 17 = .ok (.iushr, 1) := by decide +kernel
theorem dJ6_bitCount_0f7a4_18 : decode cJ6_bitCount_0f7a4 18 = .ok (.ldc_w 266, 3) := by decide +kernel
theorem dJ6_bitCount_0f7a4_21 : decode cJ6_bitCount_0f7a4 21 = .ok (.iand, 1) := by decide +kernel
theorem dJ6_bitCount_0f7a4_22 : decode cJ6_bitCount_0f7a4 22 = .ok (.iadd, 1) := by decide +kernel
theorem dJ6_bitCount_0f7a4_23 : decode cJ6_bitCount_0f7a4 23 = .ok (.istore_n 0, 1) := by decide +kernel
theorem dJ6_bitCount_0f7a4_24 : decode cJ6_bitCount_0f7a4 24 = .ok (.iload_n 0, 1) := by decide +kernel
theorem dJ6_bitCount_0f7a4_25 : decode cJ6_bitCount_0f7a4 25 = .ok (.iload_n 0, 1) := by decide +kernel
theorem dJ6_bitCount_0f7a4_26 : decode cJ6_bitCount_0f7a4 26 = .ok (.iconst 4, 1) := by decide +kernel
theorem dJ6_bitCount_0f7a4_27 : decode cJ6_bitCount_0f7a4 27 = .ok (.iushr, 1) := by decide +kernel
theorem dJ6_bitCount_0f7a4_28 : decode cJ6_bitCount_0f7a4 28 = .ok (.iadd, 1) := by decide +kernel
theorem dJ6_bitCount_0f7a4_29 : decode cJ6_bitCount_0f7a4 29 = .ok (.ldc_w 267, 3) := by decide +kernel
theorem dJ6_bitCount_0f7a4_32 : decode cJ6_bitCount_0f7a4 32 = .ok (.iand, 1) := by decide +kernel
theorem dJ6_bitCount_0f7a4_33 : decode cJ6_bitCount_0f7a4 33 = .ok (.istore_n 0, 1) := by decide +kernel
theorem dJ6_bitCount_0f7a4_34 : decode cJ6_bitCount_0f7a4 34 = .ok (.iload_n 0, 1) := by decide +kernel
theorem dJ6_bitCount_0f7a4_35 : decode cJ6_bitCount_0f7a4 35 = .ok (.iload_n 0, 1) := by decide +kernel
theorem dJ6_bitCount_0f7a4_36 : decode cJ6_bitCount_0f7a4 36 = .ok (.bipush 8, 2) := by decide +kernel
theorem dJ6_bitCount_0f7a4_38 : decode cJ6_bitCount_0f7a4 38 = .ok (.iushr, 1) := by decide +kernel
theorem dJ6_bitCount_0f7a4_39 : decode cJ6_bitCount_0f7a4 39 = .ok (.iadd, 1) := by decide +kernel
theorem dJ6_bitCount_0f7a4_40 : decode cJ6_bitCount_0f7a4 40 = .ok (.istore_n 0, 1) := by decide +kernel
theorem dJ6_bitCount_0f7a4_41 : decode cJ6_bitCount_0f7a4 41 = .ok (.iload_n 0, 1) := by decide +kernel
theorem dJ6_bitCount_0f7a4_42 : decode cJ6_bitCount_0f7a4 42 = .ok (.iload_n 0, 1) := by decide +kernel
theorem dJ6_bitCount_0f7a4_43 : decode cJ6_bitCount_0f7a4 43 = .ok (.bipush 16, 2) := by decide +kernel
theorem dJ6_bitCount_0f7a4_45 : decode cJ6_bitCount_0f7a4 45 = .ok (.iushr, 1) := by decide +kernel
theorem dJ6_bitCount_0f7a4_46 : decode cJ6_bitCount_0f7a4 46 = .ok (.iadd, 1) := by decide +kernel
theorem dJ6_bitCount_0f7a4_47 : decode cJ6_bitCount_0f7a4 47 = .ok (.istore_n 0, 1) := by decide +kernel
theorem dJ6_bitCount_0f7a4_48 : decode cJ6_bitCount_0f7a4 48 = .ok (.iload_n 0, 1) := by decide +kernel
theorem dJ6_bitCount_0f7a4_49 : decode cJ6_bitCount_0f7a4 49 = .ok (.bipush 63, 2) := by decide +kernel
theorem dJ6_bitCount_0f7a4_51 : decode cJ6_bitCount_0f7a4 51 = .ok (.iand, 1) := by decide +kernel
theorem dJ6_bitCount_0f7a4_52 : decode cJ6_bitCount_0f7a4 52 = .ok (.ireturn, 1) := by decide +kernel
theorem dJ9_max_7cf53_0 : decode cJ9_max_7cf53 0 = .ok (.iload_n 0, 1) := by decide +kernel
theorem dJ9_max_7cf53_1 : decode cJ9_max_7cf53 1 = .ok (.iload_n 1, 1) := by decide +kernel
theorem dJ9_max_7cf53_2 : decode cJ9_max_7cf53 2 = .ok (.if_icmp .lt 7, 3) := by decide +kernel
theorem dJ9_max_7cf53_5 : decode cJ9_max_7cf53 5 = .ok (.iload_n 0, 1) := by decide +kernel
theorem dJ9_max_7cf53_6 : decode cJ9_max_7cf53 6 = .ok (.goto 4, 3) := by decide +kernel
theorem dJ9_max_7cf53_9 : decode cJ9_max_7cf53 9 = .ok (.iload_n 1, 1) := by decide +kernel
theorem dJ9_max_7cf53_10 : decode cJ9_max_7cf53 10 = .ok (.ireturn, 1) := by decide +kernel
theorem dJ9_min_7cf53_0 : decode cJ9_min_7cf53 0 = .ok (.iload_n 0, 1) := by decide +kernel
theorem dJ9_min_7cf53_1 : decode cJ9_min_7cf53 1 = .ok (.iload_n 1, 1) := by decide +kernel
theorem dJ9_min_7cf53_2 : decode cJ9_min_7cf53 2 = .ok (.if_icmp .gt 7, 3) := by decide +kernel
theorem dJ9_min_7cf53_5 : decode cJ9_min_7cf53 5 = .ok (.iload_n 0, 1) := by decide +kernel
theorem dJ9_min_7cf53_6 : decode cJ9_min_7cf53 6 = .ok (.goto 4, 3) := by decide +kernel
theorem dJ9_min_7cf53_9 : decode cJ9_min_7cf53 9 = .ok (.iload_n 1, 1) := by decide +kernel
theorem dJ9_min_7cf53_10 : decode cJ9_min_7cf53 10 = .ok (.ireturn, 1) := by decide +kernel
theorem dJ7_fill_53178_0 : decode cJ7_fill_53178 0 = .ok (.iconst 0, 1) := by decide +kernel
theorem dJ7_fill_53178_1 : decode cJ7_fill_53178 1 = .ok (.istore_n 2, 1) := by decide +kernel
theorem dJ7_fill_53178_2 : decode cJ7_fill_53178 2 = .ok (.aload_n 0, 1) := by decide +kernel
theorem dJ7_fill_53178_3 : decode cJ7_fill_53178 3 = .ok (.arraylength, 1) := by decide +kernel
theorem dJ7_fill_53178_4 : decode cJ7_fill_53178 4 = .ok (.istore_n 3, 1) := by decide +kernel
theorem dJ7_fill_53178_5 : decode cJ7_fill_53178 5 = .ok (.iload_n 2, 1) := by decide +kernel
theorem dJ7_fill_53178_6 : decode cJ7_fill_53178 6 = .ok (.iload_n 3, 1) := by decide +kernel
theorem dJ7_fill_53178_7 : decode cJ7_fill_53178 7 = .ok (.if_icmp .ge 13, 3) := by decide +kernel
theorem dJ7_fill_53178_10 : decode cJ7_fill_53178 10 = .ok (.aload_n 0, 1) := by decide +kernel
theorem dJ7_fill_53178_11 : decode cJ7_fill_53178 11 = .ok (.iload_n 2, 1) := by decide +kernel
theorem dJ7_fill_53178_12 : decode cJ7_fill_53178 12 = .ok (.iload_n 1, 1) := by decide +kernel
theorem dJ7_fill_53178_13 : decode cJ7_fill_53178 13 = .ok (.iastore, 1) := by decide +kernel
theorem dJ7_fill_53178_14 : decode cJ7_fill_53178 14 = .ok (.iinc 2 1, 3) := by decide +kernel
theorem dJ7_fill_53178_17 : decode cJ7_fill_53178 17 = .ok (.goto (-12), 3) := by decide +kernel
theorem dJ7_fill_53178_20 : decode cJ7_fill_53178 20 = .ok (.return_, 1) := by decide +kernel
theorem dL_law_0 : decode cL_law 0 = .ok (.new 7, 3) := by decide +kernel
theorem dL_law_3 : decode cL_law 3 = .ok (.dup, 1) := by decide +kernel
theorem dL_law_4 : decode cL_law 4 = .ok (.invokespecial 9, 3) := by decide +kernel
theorem dL_law_7 : decode cL_law 7 = .ok (.astore_n 1, 1) := by decide +kernel
theorem dL_law_8 : decode cL_law 8 = .ok (.new 10, 3) := by decide +kernel
theorem dL_law_11 : decode cL_law 11 = .ok (.dup, 1) := by decide +kernel
theorem dL_law_12 : decode cL_law 12 = .ok (.invokespecial 12, 3) := by decide +kernel
theorem dL_law_15 : decode cL_law 15 = .ok (.astore_n 2, 1) := by decide +kernel
theorem dL_law_16 : decode cL_law 16 = .ok (.iconst 0, 1) := by decide +kernel
theorem dL_law_17 : decode cL_law 17 = .ok (.istore_n 3, 1) := by decide +kernel
theorem dL_law_18 : decode cL_law 18 = .ok (.iload_n 3, 1) := by decide +kernel
theorem dL_law_19 : decode cL_law 19 = .ok (.aload_n 0, 1) := by decide +kernel
theorem dL_law_20 : decode cL_law 20 = .ok (.arraylength, 1) := by decide +kernel
theorem dL_law_21 : decode cL_law 21 = .ok (.iconst 4, 1) := by decide +kernel
theorem dL_law_22 : decode cL_law 22 = .ok (.isub, 1) := by decide +kernel
theorem dL_law_23 : decode cL_law 23 = .ok (.if_icmp .gt 704, 3) := by decide +kernel
theorem dL_law_26 : decode cL_law 26 = .ok (.aload_n 0, 1) := by decide +kernel
theorem dL_law_27 : decode cL_law 27 = .ok (.iload_n 3, 1) := by decide +kernel
theorem dL_law_28 : decode cL_law 28 = .ok (.iaload, 1) := by decide +kernel
theorem dL_law_29 : decode cL_law 29 = .ok (.bipush 31, 2) := by decide +kernel
theorem dL_law_31 : decode cL_law 31 = .ok (.iand, 1) := by decide +kernel
theorem dL_law_32 : decode cL_law 32 = .ok (.tableswitch 689 0 20 #[100, 123, 156, 199, 232, 255, 278, 301, 324, 347, 370, 393, 416, 439, 472, 505, 518, 541, 600, 633, 666], 100) := by decide +kernel
theorem dL_law_132 : decode cL_law 132 = .ok (.aload_n 1, 1) := by decide +kernel
theorem dL_law_133 : decode cL_law 133 = .ok (.aload_n 0, 1) := by decide +kernel
theorem dL_law_134 : decode cL_law 134 = .ok (.iload_n 3, 1) := by decide +kernel
theorem dL_law_135 : decode cL_law 135 = .ok (.iconst 1, 1) := by decide +kernel
theorem dL_law_136 : decode cL_law 136 = .ok (.iadd, 1) := by decide +kernel
theorem dL_law_137 : decode cL_law 137 = .ok (.iaload, 1) := by decide +kernel
theorem dL_law_138 : decode cL_law 138 = .ok (.invokevirtual 13, 3) := by decide +kernel
theorem dL_law_141 : decode cL_law 141 = .ok (.pop, 1) := by decide +kernel
theorem dL_law_142 : decode cL_law 142 = .ok (.aload_n 2, 1) := by decide +kernel
theorem dL_law_143 : decode cL_law 143 = .ok (.aload_n 0, 1) := by decide +kernel
theorem dL_law_144 : decode cL_law 144 = .ok (.iload_n 3, 1) := by decide +kernel
theorem dL_law_145 : decode cL_law 145 = .ok (.iconst 1, 1) := by decide +kernel
theorem dL_law_146 : decode cL_law 146 = .ok (.iadd, 1) := by decide +kernel
theorem dL_law_147 : decode cL_law 147 = .ok (.iaload, 1) := by decide +kernel
theorem dL_law_148 : decode cL_law 148 = .ok (.invokevirtual 17, 3) := by decide +kernel
theorem dL_law_151 : decode cL_law 151 = .ok (.pop, 1) := by decide +kernel
theorem dL_law_152 : decode cL_law 152 = .ok (.goto 569, 3) := by decide +kernel
theorem dL_law_155 : decode cL_law 155 = .ok (.aload_n 1, 1) := by decide +kernel
theorem dL_law_156 : decode cL_law 156 = .ok (.aload_n 0, 1) := by decide +kernel
theorem dL_law_157 : decode cL_law 157 = .ok (.iload_n 3, 1) := by decide +kernel
theorem dL_law_158 : decode cL_law 158 = .ok (.iconst 1, 1) := by decide +kernel
theorem dL_law_159 : decode cL_law 159 = .ok (.iadd, 1) := by decide +kernel
theorem dL_law_160 : decode cL_law 160 = .ok (.iaload, 1) := by decide +kernel
theorem dL_law_161 : decode cL_law 161 = .ok (.aload_n 0, 1) := by decide +kernel
theorem dL_law_162 : decode cL_law 162 = .ok (.iload_n 3, 1) := by decide +kernel
theorem dL_law_163 : decode cL_law 163 = .ok (.iconst 2, 1) := by decide +kernel
theorem dL_law_164 : decode cL_law 164 = .ok (.iadd, 1) := by decide +kernel
theorem dL_law_165 : decode cL_law 165 = .ok (.iaload, 1) := by decide +kernel
theorem dL_law_166 : decode cL_law 166 = .ok (.invokevirtual 18, 3) := by decide +kernel
theorem dL_law_169 : decode cL_law 169 = .ok (.pop, 1) := by decide +kernel
theorem dL_law_170 : decode cL_law 170 = .ok (.aload_n 2, 1) := by decide +kernel
theorem dL_law_171 : decode cL_law 171 = .ok (.aload_n 0, 1) := by decide +kernel
theorem dL_law_172 : decode cL_law 172 = .ok (.iload_n 3, 1) := by decide +kernel
theorem dL_law_173 : decode cL_law 173 = .ok (.iconst 1, 1) := by decide +kernel
theorem dL_law_174 : decode cL_law 174 = .ok (.iadd, 1) := by decide +kernel
theorem dL_law_175 : decode cL_law 175 = .ok (.iaload, 1) := by decide +kernel
theorem dL_law_176 : decode cL_law 176 = .ok (.aload_n 0, 1) := by decide +kernel
theorem dL_law_177 : decode cL_law 177 = .ok (.iload_n 3, 1) := by decide +kernel
theorem dL_law_178 : decode cL_law 178 = .ok (.iconst 2, 1) := by decide +kernel
theorem dL_law_179 : decode cL_law 179 = .ok (.iadd, 1) := by decide +kernel
theorem dL_law_180 : decode cL_law 180 = .ok (.iaload, 1) := by decide +kernel
theorem dL_law_181 : decode cL_law 181 = .ok (.invokevirtual 22, 3) := by decide +kernel
theorem dL_law_184 : decode cL_law 184 = .ok (.pop, 1) := by decide +kernel
theorem dL_law_185 : decode cL_law 185 = .ok (.goto 536, 3) := by decide +kernel
theorem dL_law_188 : decode cL_law 188 = .ok (.aload_n 1, 1) := by decide +kernel
theorem dL_law_189 : decode cL_law 189 = .ok (.aload_n 0, 1) := by decide +kernel
theorem dL_law_190 : decode cL_law 190 = .ok (.iload_n 3, 1) := by decide +kernel
theorem dL_law_191 : decode cL_law 191 = .ok (.iconst 1, 1) := by decide +kernel
theorem dL_law_192 : decode cL_law 192 = .ok (.iadd, 1) := by decide +kernel
theorem dL_law_193 : decode cL_law 193 = .ok (.iaload, 1) := by decide +kernel
theorem dL_law_194 : decode cL_law 194 = .ok (.aload_n 0, 1) := by decide +kernel
theorem dL_law_195 : decode cL_law 195 = .ok (.iload_n 3, 1) := by decide +kernel
theorem dL_law_196 : decode cL_law 196 = .ok (.iconst 2, 1) := by decide +kernel
theorem dL_law_197 : decode cL_law 197 = .ok (.iadd, 1) := by decide +kernel
theorem dL_law_198 : decode cL_law 198 = .ok (.iaload, 1) := by decide +kernel
theorem dL_law_199 : decode cL_law 199 = .ok (.aload_n 0, 1) := by decide +kernel
theorem dL_law_200 : decode cL_law 200 = .ok (.iload_n 3, 1) := by decide +kernel
theorem dL_law_201 : decode cL_law 201 = .ok (.iconst 3, 1) := by decide +kernel
theorem dL_law_202 : decode cL_law 202 = .ok (.iadd, 1) := by decide +kernel
theorem dL_law_203 : decode cL_law 203 = .ok (.iaload, 1) := by decide +kernel
theorem dL_law_204 : decode cL_law 204 = .ok (.invokevirtual 23, 3) := by decide +kernel
theorem dL_law_207 : decode cL_law 207 = .ok (.pop, 1) := by decide +kernel
theorem dL_law_208 : decode cL_law 208 = .ok (.aload_n 2, 1) := by decide +kernel
theorem dL_law_209 : decode cL_law 209 = .ok (.aload_n 0, 1) := by decide +kernel
theorem dL_law_210 : decode cL_law 210 = .ok (.iload_n 3, 1) := by decide +kernel
theorem dL_law_211 : decode cL_law 211 = .ok (.iconst 1, 1) := by decide +kernel
theorem dL_law_212 : decode cL_law 212 = .ok (.iadd, 1) := by decide +kernel
theorem dL_law_213 : decode cL_law 213 = .ok (.iaload, 1) := by decide +kernel
theorem dL_law_214 : decode cL_law 214 = .ok (.aload_n 0, 1) := by decide +kernel
theorem dL_law_215 : decode cL_law 215 = .ok (.iload_n 3, 1) := by decide +kernel
theorem dL_law_216 : decode cL_law 216 = .ok (.iconst 2, 1) := by decide +kernel
theorem dL_law_217 : decode cL_law 217 = .ok (.iadd, 1) := by decide +kernel
theorem dL_law_218 : decode cL_law 218 = .ok (.iaload, 1) := by decide +kernel
theorem dL_law_219 : decode cL_law 219 = .ok (.aload_n 0, 1) := by decide +kernel
theorem dL_law_220 : decode cL_law 220 = .ok (.iload_n 3, 1) := by decide +kernel
theorem dL_law_221 : decode cL_law 221 = .ok (.iconst 3, 1) := by decide +kernel
theorem dL_law_222 : decode cL_law 222 = .ok (.iadd, 1) := by decide +kernel
theorem dL_law_223 : decode cL_law 223 = .ok (.iaload, 1) := by decide +kernel
theorem dL_law_224 : decode cL_law 224 = .ok (.invokevirtual 27, 3) := by decide +kernel
theorem dL_law_227 : decode cL_law 227 = .ok (.pop, 1) := by decide +kernel
theorem dL_law_228 : decode cL_law 228 = .ok (.goto 493, 3) := by decide +kernel
theorem dL_law_231 : decode cL_law 231 = .ok (.aload_n 1, 1) := by decide +kernel
theorem dL_law_232 : decode cL_law 232 = .ok (.aload_n 0, 1) := by decide +kernel
theorem dL_law_233 : decode cL_law 233 = .ok (.iload_n 3, 1) := by decide +kernel
theorem dL_law_234 : decode cL_law 234 = .ok (.iconst 1, 1) := by decide +kernel
theorem dL_law_235 : decode cL_law 235 = .ok (.iadd, 1) := by decide +kernel
theorem dL_law_236 : decode cL_law 236 = .ok (.iaload, 1) := by decide +kernel
theorem dL_law_237 : decode cL_law 237 = .ok (.aload_n 0, 1) := by decide +kernel
theorem dL_law_238 : decode cL_law 238 = .ok (.iload_n 3, 1) := by decide +kernel
theorem dL_law_239 : decode cL_law 239 = .ok (.iconst 2, 1) := by decide +kernel
theorem dL_law_240 : decode cL_law 240 = .ok (.iadd, 1) := by decide +kernel
theorem dL_law_241 : decode cL_law 241 = .ok (.iaload, 1) := by decide +kernel
theorem dL_law_242 : decode cL_law 242 = .ok (.invokevirtual 28, 3) := by decide +kernel
theorem dL_law_245 : decode cL_law 245 = .ok (.pop, 1) := by decide +kernel
theorem dL_law_246 : decode cL_law 246 = .ok (.aload_n 2, 1) := by decide +kernel
theorem dL_law_247 : decode cL_law 247 = .ok (.aload_n 0, 1) := by decide +kernel
theorem dL_law_248 : decode cL_law 248 = .ok (.iload_n 3, 1) := by decide +kernel
theorem dL_law_249 : decode cL_law 249 = .ok (.iconst 1, 1) := by decide +kernel
theorem dL_law_250 : decode cL_law 250 = .ok (.iadd, 1) := by decide +kernel
theorem dL_law_251 : decode cL_law 251 = .ok (.iaload, 1) := by decide +kernel
theorem dL_law_252 : decode cL_law 252 = .ok (.aload_n 0, 1) := by decide +kernel
theorem dL_law_253 : decode cL_law 253 = .ok (.iload_n 3, 1) := by decide +kernel
theorem dL_law_254 : decode cL_law 254 = .ok (.iconst 2, 1) := by decide +kernel
theorem dL_law_255 : decode cL_law 255 = .ok (.iadd, 1) := by decide +kernel
theorem dL_law_256 : decode cL_law 256 = .ok (.iaload, 1) := by decide +kernel
theorem dL_law_257 : decode cL_law 257 = .ok (.invokevirtual 31, 3) := by decide +kernel
theorem dL_law_260 : decode cL_law 260 = .ok (.pop, 1) := by decide +kernel
theorem dL_law_261 : decode cL_law 261 = .ok (.goto 460, 3) := by decide +kernel
theorem dL_law_264 : decode cL_law 264 = .ok (.aload_n 1, 1) := by decide +kernel
theorem dL_law_265 : decode cL_law 265 = .ok (.aload_n 0, 1) := by decide +kernel
theorem dL_law_266 : decode cL_law 266 = .ok (.iload_n 3, 1) := by decide +kernel
theorem dL_law_267 : decode cL_law 267 = .ok (.iconst 1, 1) := by decide +kernel
theorem dL_law_268 : decode cL_law 268 = .ok (.iadd, 1) := by decide +kernel
theorem dL_law_269 : decode cL_law 269 = .ok (.iaload, 1) := by decide +kernel
theorem dL_law_270 : decode cL_law 270 = .ok (.invokevirtual 32, 3) := by decide +kernel
theorem dL_law_273 : decode cL_law 273 = .ok (.pop, 1) := by decide +kernel
theorem dL_law_274 : decode cL_law 274 = .ok (.aload_n 2, 1) := by decide +kernel
theorem dL_law_275 : decode cL_law 275 = .ok (.aload_n 0, 1) := by decide +kernel
theorem dL_law_276 : decode cL_law 276 = .ok (.iload_n 3, 1) := by decide +kernel
theorem dL_law_277 : decode cL_law 277 = .ok (.iconst 1, 1) := by decide +kernel
theorem dL_law_278 : decode cL_law 278 = .ok (.iadd, 1) := by decide +kernel
theorem dL_law_279 : decode cL_law 279 = .ok (.iaload, 1) := by decide +kernel
theorem dL_law_280 : decode cL_law 280 = .ok (.invokevirtual 35, 3) := by decide +kernel
theorem dL_law_283 : decode cL_law 283 = .ok (.pop, 1) := by decide +kernel
theorem dL_law_284 : decode cL_law 284 = .ok (.goto 437, 3) := by decide +kernel
theorem dL_law_287 : decode cL_law 287 = .ok (.aload_n 1, 1) := by decide +kernel
theorem dL_law_288 : decode cL_law 288 = .ok (.aload_n 0, 1) := by decide +kernel
theorem dL_law_289 : decode cL_law 289 = .ok (.iload_n 3, 1) := by decide +kernel
theorem dL_law_290 : decode cL_law 290 = .ok (.iconst 1, 1) := by decide +kernel
theorem dL_law_291 : decode cL_law 291 = .ok (.iadd, 1) := by decide +kernel
theorem dL_law_292 : decode cL_law 292 = .ok (.iaload, 1) := by decide +kernel
theorem dL_law_293 : decode cL_law 293 = .ok (.invokevirtual 36, 3) := by decide +kernel
theorem dL_law_296 : decode cL_law 296 = .ok (.pop, 1) := by decide +kernel
theorem dL_law_297 : decode cL_law 297 = .ok (.aload_n 2, 1) := by decide +kernel
theorem dL_law_298 : decode cL_law 298 = .ok (.aload_n 0, 1) := by decide +kernel
theorem dL_law_299 : decode cL_law 299 = .ok (.iload_n 3, 1) := by decide +kernel
theorem dL_law_300 : decode cL_law 300 = .ok (.iconst 1, 1) := by decide +kernel
theorem dL_law_301 : decode cL_law 301 = .ok (.iadd, 1) := by decide +kernel
theorem dL_law_302 : decode cL_law 302 = .ok (.iaload, 1) := by decide +kernel
theorem dL_law_303 : decode cL_law 303 = .ok (.invokevirtual 39, 3) := by decide +kernel
theorem dL_law_306 : decode cL_law 306 = .ok (.pop, 1) := by decide +kernel
theorem dL_law_307 : decode cL_law 307 = .ok (.goto 414, 3) := by decide +kernel
theorem dL_law_310 : decode cL_law 310 = .ok (.aload_n 1, 1) := by decide +kernel
theorem dL_law_311 : decode cL_law 311 = .ok (.aload_n 0, 1) := by decide +kernel
theorem dL_law_312 : decode cL_law 312 = .ok (.iload_n 3, 1) := by decide +kernel
theorem dL_law_313 : decode cL_law 313 = .ok (.iconst 1, 1) := by decide +kernel
theorem dL_law_314 : decode cL_law 314 = .ok (.iadd, 1) := by decide +kernel
theorem dL_law_315 : decode cL_law 315 = .ok (.iaload, 1) := by decide +kernel
theorem dL_law_316 : decode cL_law 316 = .ok (.invokevirtual 40, 3) := by decide +kernel
theorem dL_law_319 : decode cL_law 319 = .ok (.pop, 1) := by decide +kernel
theorem dL_law_320 : decode cL_law 320 = .ok (.aload_n 2, 1) := by decide +kernel
theorem dL_law_321 : decode cL_law 321 = .ok (.aload_n 0, 1) := by decide +kernel
theorem dL_law_322 : decode cL_law 322 = .ok (.iload_n 3, 1) := by decide +kernel
theorem dL_law_323 : decode cL_law 323 = .ok (.iconst 1, 1) := by decide +kernel
theorem dL_law_324 : decode cL_law 324 = .ok (.iadd, 1) := by decide +kernel
theorem dL_law_325 : decode cL_law 325 = .ok (.iaload, 1) := by decide +kernel
theorem dL_law_326 : decode cL_law 326 = .ok (.invokevirtual 43, 3) := by decide +kernel
theorem dL_law_329 : decode cL_law 329 = .ok (.pop, 1) := by decide +kernel
theorem dL_law_330 : decode cL_law 330 = .ok (.goto 391, 3) := by decide +kernel
theorem dL_law_333 : decode cL_law 333 = .ok (.aload_n 1, 1) := by decide +kernel
theorem dL_law_334 : decode cL_law 334 = .ok (.aload_n 0, 1) := by decide +kernel
theorem dL_law_335 : decode cL_law 335 = .ok (.iload_n 3, 1) := by decide +kernel
theorem dL_law_336 : decode cL_law 336 = .ok (.iconst 1, 1) := by decide +kernel
theorem dL_law_337 : decode cL_law 337 = .ok (.iadd, 1) := by decide +kernel
theorem dL_law_338 : decode cL_law 338 = .ok (.iaload, 1) := by decide +kernel
theorem dL_law_339 : decode cL_law 339 = .ok (.invokevirtual 44, 3) := by decide +kernel
theorem dL_law_342 : decode cL_law 342 = .ok (.pop, 1) := by decide +kernel
theorem dL_law_343 : decode cL_law 343 = .ok (.aload_n 2, 1) := by decide +kernel
theorem dL_law_344 : decode cL_law 344 = .ok (.aload_n 0, 1) := by decide +kernel
theorem dL_law_345 : decode cL_law 345 = .ok (.iload_n 3, 1) := by decide +kernel
theorem dL_law_346 : decode cL_law 346 = .ok (.iconst 1, 1) := by decide +kernel
theorem dL_law_347 : decode cL_law 347 = .ok (.iadd, 1) := by decide +kernel
theorem dL_law_348 : decode cL_law 348 = .ok (.iaload, 1) := by decide +kernel
theorem dL_law_349 : decode cL_law 349 = .ok (.invokevirtual 47, 3) := by decide +kernel
theorem dL_law_352 : decode cL_law 352 = .ok (.pop, 1) := by decide +kernel
theorem dL_law_353 : decode cL_law 353 = .ok (.goto 368, 3) := by decide +kernel
theorem dL_law_356 : decode cL_law 356 = .ok (.aload_n 1, 1) := by decide +kernel
theorem dL_law_357 : decode cL_law 357 = .ok (.aload_n 0, 1) := by decide +kernel
theorem dL_law_358 : decode cL_law 358 = .ok (.iload_n 3, 1) := by decide +kernel
theorem dL_law_359 : decode cL_law 359 = .ok (.iconst 1, 1) := by decide +kernel
theorem dL_law_360 : decode cL_law 360 = .ok (.iadd, 1) := by decide +kernel
theorem dL_law_361 : decode cL_law 361 = .ok (.iaload, 1) := by decide +kernel
theorem dL_law_362 : decode cL_law 362 = .ok (.invokevirtual 48, 3) := by decide +kernel
theorem dL_law_365 : decode cL_law 365 = .ok (.pop, 1) := by decide +kernel
theorem dL_law_366 : decode cL_law 366 = .ok (.aload_n 2, 1) := by decide +kernel
theorem dL_law_367 : decode cL_law 367 = .ok (.aload_n 0, 1) := by decide +kernel
theorem dL_law_368 : decode cL_law 368 = .ok (.iload_n 3, 1) := by decide +kernel
theorem dL_law_369 : decode cL_law 369 = .ok (.iconst 1, 1) := by decide +kernel
theorem dL_law_370 : decode cL_law 370 = .ok (.iadd, 1) := by decide +kernel
theorem dL_law_371 : decode cL_law 371 = .ok (.iaload, 1) := by decide +kernel
theorem dL_law_372 : decode cL_law 372 = .ok (.invokevirtual 51, 3) := by decide +kernel
theorem dL_law_375 : decode cL_law 375 = .ok (.pop, 1) := by decide +kernel
theorem dL_law_376 : decode cL_law 376 = .ok (.goto 345, 3) := by decide +kernel
theorem dL_law_379 : decode cL_law 379 = .ok (.aload_n 1, 1) := by decide +kernel
theorem dL_law_380 : decode cL_law 380 = .ok (.aload_n 0, 1) := by decide +kernel
theorem dL_law_381 : decode cL_law 381 = .ok (.iload_n 3, 1) := by decide +kernel
theorem dL_law_382 : decode cL_law 382 = .ok (.iconst 1, 1) := by decide +kernel
theorem dL_law_383 : decode cL_law 383 = .ok (.iadd, 1) := by decide +kernel
theorem dL_law_384 : decode cL_law 384 = .ok (.iaload, 1) := by decide +kernel
theorem dL_law_385 : decode cL_law 385 = .ok (.invokevirtual 52, 3) := by decide +kernel
theorem dL_law_388 : decode cL_law 388 = .ok (.pop, 1) := by decide +kernel
theorem dL_law_389 : decode cL_law 389 = .ok (.aload_n 2, 1) := by decide +kernel
theorem dL_law_390 : decode cL_law 390 = .ok (.aload_n 0, 1) := by decide +kernel
theorem dL_law_391 : decode cL_law 391 = .ok (.iload_n 3, 1) := by decide +kernel
theorem dL_law_392 : decode cL_law 392 = .ok (.iconst 1, 1) := by decide +kernel
theorem dL_law_393 : decode cL_law 393 = .ok (.iadd, 1) := by decide +kernel
theorem dL_law_394 : decode cL_law 394 = .ok (.iaload, 1) := by decide +kernel
theorem dL_law_395 : decode cL_law 395 = .ok (.invokevirtual 55, 3) := by decide +kernel
theorem dL_law_398 : decode cL_law 398 = .ok (.pop, 1) := by decide +kernel
theorem dL_law_399 : decode cL_law 399 = .ok (.goto 322, 3) := by decide +kernel
theorem dL_law_402 : decode cL_law 402 = .ok (.aload_n 1, 1) := by decide +kernel
theorem dL_law_403 : decode cL_law 403 = .ok (.aload_n 0, 1) := by decide +kernel
theorem dL_law_404 : decode cL_law 404 = .ok (.iload_n 3, 1) := by decide +kernel
theorem dL_law_405 : decode cL_law 405 = .ok (.iconst 1, 1) := by decide +kernel
theorem dL_law_406 : decode cL_law 406 = .ok (.iadd, 1) := by decide +kernel
theorem dL_law_407 : decode cL_law 407 = .ok (.iaload, 1) := by decide +kernel
theorem dL_law_408 : decode cL_law 408 = .ok (.invokevirtual 56, 3) := by decide +kernel
theorem dL_law_411 : decode cL_law 411 = .ok (.pop, 1) := by decide +kernel
theorem dL_law_412 : decode cL_law 412 = .ok (.aload_n 2, 1) := by decide +kernel
theorem dL_law_413 : decode cL_law 413 = .ok (.aload_n 0, 1) := by decide +kernel
theorem dL_law_414 : decode cL_law 414 = .ok (.iload_n 3, 1) := by decide +kernel
theorem dL_law_415 : decode cL_law 415 = .ok (.iconst 1, 1) := by decide +kernel
theorem dL_law_416 : decode cL_law 416 = .ok (.iadd, 1) := by decide +kernel
theorem dL_law_417 : decode cL_law 417 = .ok (.iaload, 1) := by decide +kernel
theorem dL_law_418 : decode cL_law 418 = .ok (.invokevirtual 59, 3) := by decide +kernel
theorem dL_law_421 : decode cL_law 421 = .ok (.pop, 1) := by decide +kernel
theorem dL_law_422 : decode cL_law 422 = .ok (.goto 299, 3) := by decide +kernel
theorem dL_law_425 : decode cL_law 425 = .ok (.aload_n 1, 1) := by decide +kernel
theorem dL_law_426 : decode cL_law 426 = .ok (.aload_n 0, 1) := by decide +kernel
theorem dL_law_427 : decode cL_law 427 = .ok (.iload_n 3, 1) := by decide +kernel
theorem dL_law_428 : decode cL_law 428 = .ok (.iconst 1, 1) := by decide +kernel
theorem dL_law_429 : decode cL_law 429 = .ok (.iadd, 1) := by decide +kernel
theorem dL_law_430 : decode cL_law 430 = .ok (.iaload, 1) := by decide +kernel
theorem dL_law_431 : decode cL_law 431 = .ok (.invokevirtual 60, 3) := by decide +kernel
theorem dL_law_434 : decode cL_law 434 = .ok (.pop, 1) := by decide +kernel
theorem dL_law_435 : decode cL_law 435 = .ok (.aload_n 2, 1) := by decide +kernel
theorem dL_law_436 : decode cL_law 436 = .ok (.aload_n 0, 1) := by decide +kernel
theorem dL_law_437 : decode cL_law 437 = .ok (.iload_n 3, 1) := by decide +kernel
theorem dL_law_438 : decode cL_law 438 = .ok (.iconst 1, 1) := by decide +kernel
theorem dL_law_439 : decode cL_law 439 = .ok (.iadd, 1) := by decide +kernel
theorem dL_law_440 : decode cL_law 440 = .ok (.iaload, 1) := by decide +kernel
theorem dL_law_441 : decode cL_law 441 = .ok (.invokevirtual 63, 3) := by decide +kernel
theorem dL_law_444 : decode cL_law 444 = .ok (.pop, 1) := by decide +kernel
theorem dL_law_445 : decode cL_law 445 = .ok (.goto 276, 3) := by decide +kernel
theorem dL_law_448 : decode cL_law 448 = .ok (.aload_n 1, 1) := by decide +kernel
theorem dL_law_449 : decode cL_law 449 = .ok (.aload_n 0, 1) := by decide +kernel
theorem dL_law_450 : decode cL_law 450 = .ok (.iload_n 3, 1) := by decide +kernel
theorem dL_law_451 : decode cL_law 451 = .ok (.iconst 1, 1) := by decide +kernel
theorem dL_law_452 : decode cL_law 452 = .ok (.iadd, 1) := by decide +kernel
theorem dL_law_453 : decode cL_law 453 = .ok (.iaload, 1) := by decide +kernel
theorem dL_law_454 : decode cL_law 454 = .ok (.invokevirtual 64, 3) := by decide +kernel
theorem dL_law_457 : decode cL_law 457 = .ok (.pop, 1) := by decide +kernel
theorem dL_law_458 : decode cL_law 458 = .ok (.aload_n 2, 1) := by decide +kernel
theorem dL_law_459 : decode cL_law 459 = .ok (.aload_n 0, 1) := by decide +kernel
theorem dL_law_460 : decode cL_law 460 = .ok (.iload_n 3, 1) := by decide +kernel
theorem dL_law_461 : decode cL_law 461 = .ok (.iconst 1, 1) := by decide +kernel
theorem dL_law_462 : decode cL_law 462 = .ok (.iadd, 1) := by decide +kernel
theorem dL_law_463 : decode cL_law 463 = .ok (.iaload, 1) := by decide +kernel
theorem dL_law_464 : decode cL_law 464 = .ok (.invokevirtual 67, 3) := by decide +kernel
theorem dL_law_467 : decode cL_law 467 = .ok (.pop, 1) := by decide +kernel
theorem dL_law_468 : decode cL_law 468 = .ok (.goto 253, 3) := by decide +kernel
theorem dL_law_471 : decode cL_law 471 = .ok (.aload_n 1, 1) := by decide +kernel
theorem dL_law_472 : decode cL_law 472 = .ok (.aload_n 0, 1) := by decide +kernel
theorem dL_law_473 : decode cL_law 473 = .ok (.iload_n 3, 1) := by decide +kernel
theorem dL_law_474 : decode cL_law 474 = .ok (.iconst 1, 1) := by decide +kernel
theorem dL_law_475 : decode cL_law 475 = .ok (.iadd, 1) := by decide +kernel
theorem dL_law_476 : decode cL_law 476 = .ok (.iaload, 1) := by decide +kernel
theorem dL_law_477 : decode cL_law 477 = .ok (.aload_n 0, 1) := by decide +kernel
theorem dL_law_478 : decode cL_law 478 = .ok (.iload_n 3, 1) := by decide +kernel
theorem dL_law_479 : decode cL_law 479 = .ok (.iconst 2, 1) := by decide +kernel
theorem dL_law_480 : decode cL_law 480 = .ok (.iadd, 1) := by decide +kernel
theorem dL_law_481 : decode cL_law 481 = .ok (.iaload, 1) := by decide +kernel
theorem dL_law_482 : decode cL_law 482 = .ok (.invokevirtual 68, 3) := by decide +kernel
theorem dL_law_485 : decode cL_law 485 = .ok (.pop, 1) := by decide +kernel
theorem dL_law_486 : decode cL_law 486 = .ok (.aload_n 2, 1) := by decide +kernel
theorem dL_law_487 : decode cL_law 487 = .ok (.aload_n 0, 1) := by decide +kernel
theorem dL_law_488 : decode cL_law 488 = .ok (.iload_n 3, 1) := by decide +kernel
theorem dL_law_489 : decode cL_law 489 = .ok (.iconst 1, 1) := by decide +kernel
theorem dL_law_490 : decode cL_law 490 = .ok (.iadd, 1) := by decide +kernel
theorem dL_law_491 : decode cL_law 491 = .ok (.iaload, 1) := by decide +kernel
theorem dL_law_492 : decode cL_law 492 = .ok (.aload_n 0, 1) := by decide +kernel
theorem dL_law_493 : decode cL_law 493 = .ok (.iload_n 3, 1) := by decide +kernel
theorem dL_law_494 : decode cL_law 494 = .ok (.iconst 2, 1) := by decide +kernel
theorem dL_law_495 : decode cL_law 495 = .ok (.iadd, 1) := by decide +kernel
theorem dL_law_496 : decode cL_law 496 = .ok (.iaload, 1) := by decide +kernel
theorem dL_law_497 : decode cL_law 497 = .ok (.invokevirtual 71, 3) := by decide +kernel
theorem dL_law_500 : decode cL_law 500 = .ok (.pop, 1) := by decide +kernel
theorem dL_law_501 : decode cL_law 501 = .ok (.goto 220, 3) := by decide +kernel
theorem dL_law_504 : decode cL_law 504 = .ok (.aload_n 1, 1) := by decide +kernel
theorem dL_law_505 : decode cL_law 505 = .ok (.aload_n 0, 1) := by decide +kernel
theorem dL_law_506 : decode cL_law 506 = .ok (.iload_n 3, 1) := by decide +kernel
theorem dL_law_507 : decode cL_law 507 = .ok (.iconst 1, 1) := by decide +kernel
theorem dL_law_508 : decode cL_law 508 = .ok (.iadd, 1) := by decide +kernel
theorem dL_law_509 : decode cL_law 509 = .ok (.iaload, 1) := by decide +kernel
theorem dL_law_510 : decode cL_law 510 = .ok (.aload_n 0, 1) := by decide +kernel
theorem dL_law_511 : decode cL_law 511 = .ok (.iload_n 3, 1) := by decide +kernel
theorem dL_law_512 : decode cL_law 512 = .ok (.iconst 2, 1) := by decide +kernel
theorem dL_law_513 : decode cL_law 513 = .ok (.iadd, 1) := by decide +kernel
theorem dL_law_514 : decode cL_law 514 = .ok (.iaload, 1) := by decide +kernel
theorem dL_law_515 : decode cL_law 515 = .ok (.invokevirtual 72, 3) := by decide +kernel
theorem dL_law_518 : decode cL_law 518 = .ok (.pop, 1) := by decide +kernel
theorem dL_law_519 : decode cL_law 519 = .ok (.aload_n 2, 1) := by decide +kernel
theorem dL_law_520 : decode cL_law 520 = .ok (.aload_n 0, 1) := by decide +kernel
theorem dL_law_521 : decode cL_law 521 = .ok (.iload_n 3, 1) := by decide +kernel
theorem dL_law_522 : decode cL_law 522 = .ok (.iconst 1, 1) := by decide +kernel
theorem dL_law_523 : decode cL_law 523 = .ok (.iadd, 1) := by decide +kernel
theorem dL_law_524 : decode cL_law 524 = .ok (.iaload, 1) := by decide +kernel
theorem dL_law_525 : decode cL_law 525 = .ok (.aload_n 0, 1) := by decide +kernel
theorem dL_law_526 : decode cL_law 526 = .ok (.iload_n 3, 1) := by decide +kernel
theorem dL_law_527 : decode cL_law 527 = .ok (.iconst 2, 1) := by decide +kernel
theorem dL_law_528 : decode cL_law 528 = .ok (.iadd, 1) := by decide +kernel
theorem dL_law_529 : decode cL_law 529 = .ok (.iaload, 1) := by decide +kernel
theorem dL_law_530 : decode cL_law 530 = .ok (.invokevirtual 75, 3) := by decide +kernel
theorem dL_law_533 : decode cL_law 533 = .ok (.pop, 1) := by decide +kernel
theorem dL_law_534 : decode cL_law 534 = .ok (.goto 187, 3) := by decide +kernel
theorem dL_law_537 : decode cL_law 537 = .ok (.aload_n 1, 1) := by decide +kernel
theorem dL_law_538 : decode cL_law 538 = .ok (.invokevirtual 76, 3) := by decide +kernel
theorem dL_law_541 : decode cL_law 541 = .ok (.pop, 1) := by decide +kernel
theorem dL_law_542 : decode cL_law 542 = .ok (.aload_n 2, 1) := by decide +kernel
theorem dL_law_543 : decode cL_law 543 = .ok (.invokevirtual 80, 3) := by decide +kernel
theorem dL_law_546 : decode cL_law 546 = .ok (.pop, 1) := by decide +kernel
theorem dL_law_547 : decode cL_law 547 = .ok (.goto 174, 3) := by decide +kernel
theorem dL_law_550 : decode cL_law 550 = .ok (.aload_n 1, 1) := by decide +kernel
theorem dL_law_551 : decode cL_law 551 = .ok (.aload_n 0, 1) := by decide +kernel
theorem dL_law_552 : decode cL_law 552 = .ok (.iload_n 3, 1) := by decide +kernel
theorem dL_law_553 : decode cL_law 553 = .ok (.iconst 1, 1) := by decide +kernel
theorem dL_law_554 : decode cL_law 554 = .ok (.iadd, 1) := by decide +kernel
theorem dL_law_555 : decode cL_law 555 = .ok (.iaload, 1) := by decide +kernel
theorem dL_law_556 : decode cL_law 556 = .ok (.invokevirtual 81, 3) := by decide +kernel
theorem dL_law_559 : decode cL_law 559 = .ok (.pop, 1) := by decide +kernel
theorem dL_law_560 : decode cL_law 560 = .ok (.aload_n 2, 1) := by decide +kernel
theorem dL_law_561 : decode cL_law 561 = .ok (.aload_n 0, 1) := by decide +kernel
theorem dL_law_562 : decode cL_law 562 = .ok (.iload_n 3, 1) := by decide +kernel
theorem dL_law_563 : decode cL_law 563 = .ok (.iconst 1, 1) := by decide +kernel
theorem dL_law_564 : decode cL_law 564 = .ok (.iadd, 1) := by decide +kernel
theorem dL_law_565 : decode cL_law 565 = .ok (.iaload, 1) := by decide +kernel
theorem dL_law_566 : decode cL_law 566 = .ok (.invokevirtual 84, 3) := by decide +kernel
theorem dL_law_569 : decode cL_law 569 = .ok (.pop, 1) := by decide +kernel
theorem dL_law_570 : decode cL_law 570 = .ok (.goto 151, 3) := by decide +kernel
theorem dL_law_573 : decode cL_law 573 = .ok (.aload_n 1, 1) := by decide +kernel
theorem dL_law_574 : decode cL_law 574 = .ok (.aload_n 0, 1) := by decide +kernel
theorem dL_law_575 : decode cL_law 575 = .ok (.iload_n 3, 1) := by decide +kernel
theorem dL_law_576 : decode cL_law 576 = .ok (.iconst 1, 1) := by decide +kernel
theorem dL_law_577 : decode cL_law 577 = .ok (.iadd, 1) := by decide +kernel
theorem dL_law_578 : decode cL_law 578 = .ok (.iaload, 1) := by decide +kernel
theorem dL_law_579 : decode cL_law 579 = .ok (.aload_n 0, 1) := by decide +kernel
theorem dL_law_580 : decode cL_law 580 = .ok (.iload_n 3, 1) := by decide +kernel
theorem dL_law_581 : decode cL_law 581 = .ok (.iconst 2, 1) := by decide +kernel
theorem dL_law_582 : decode cL_law 582 = .ok (.iadd, 1) := by decide +kernel
theorem dL_law_583 : decode cL_law 583 = .ok (.iaload, 1) := by decide +kernel
theorem dL_law_584 : decode cL_law 584 = .ok (.aload_n 0, 1) := by decide +kernel
theorem dL_law_585 : decode cL_law 585 = .ok (.iload_n 3, 1) := by decide +kernel
theorem dL_law_586 : decode cL_law 586 = .ok (.iconst 3, 1) := by decide +kernel
theorem dL_law_587 : decode cL_law 587 = .ok (.iadd, 1) := by decide +kernel
theorem dL_law_588 : decode cL_law 588 = .ok (.iaload, 1) := by decide +kernel
theorem dL_law_589 : decode cL_law 589 = .ok (.ifCond .eq 7, 3) := by decide +kernel
theorem dL_law_592 : decode cL_law 592 = .ok (.iconst 1, 1) := by decide +kernel
theorem dL_law_593 : decode cL_law 593 = .ok (.goto 4, 3) := by decide +kernel
theorem dL_law_596 : decode cL_law 596 = .ok (.iconst 0, 1) := by decide +kernel
theorem dL_law_597 : decode cL_law 597 = .ok (.invokevirtual 85, 3) := by decide +kernel
theorem dL_law_600 : decode cL_law 600 = .ok (.pop, 1) := by decide +kernel
theorem dL_law_601 : decode cL_law 601 = .ok (.aload_n 2, 1) := by decide +kernel
theorem dL_law_602 : decode cL_law 602 = .ok (.aload_n 0, 1) := by decide +kernel
theorem dL_law_603 : decode cL_law 603 = .ok (.iload_n 3, 1) := by decide +kernel
theorem dL_law_604 : decode cL_law 604 = .ok (.iconst 1, 1) := by decide +kernel
theorem dL_law_605 : decode cL_law 605 = .ok (.iadd, 1) := by decide +kernel
theorem dL_law_606 : decode cL_law 606 = .ok (.iaload, 1) := by decide +kernel
theorem dL_law_607 : decode cL_law 607 = .ok (.aload_n 0, 1) := by decide +kernel
theorem dL_law_608 : decode cL_law 608 = .ok (.iload_n 3, 1) := by decide +kernel
theorem dL_law_609 : decode cL_law 609 = .ok (.iconst 2, 1) := by decide +kernel
theorem dL_law_610 : decode cL_law 610 = .ok (.iadd, 1) := by decide +kernel
theorem dL_law_611 : decode cL_law 611 = .ok (.iaload, 1) := by decide +kernel
theorem dL_law_612 : decode cL_law 612 = .ok (.aload_n 0, 1) := by decide +kernel
theorem dL_law_613 : decode cL_law 613 = .ok (.iload_n 3, 1) := by decide +kernel
theorem dL_law_614 : decode cL_law 614 = .ok (.iconst 3, 1) := by decide +kernel
theorem dL_law_615 : decode cL_law 615 = .ok (.iadd, 1) := by decide +kernel
theorem dL_law_616 : decode cL_law 616 = .ok (.iaload, 1) := by decide +kernel
theorem dL_law_617 : decode cL_law 617 = .ok (.ifCond .eq 7, 3) := by decide +kernel
theorem dL_law_620 : decode cL_law 620 = .ok (.iconst 1, 1) := by decide +kernel
theorem dL_law_621 : decode cL_law 621 = .ok (.goto 4, 3) := by decide +kernel
theorem dL_law_624 : decode cL_law 624 = .ok (.iconst 0, 1) := by decide +kernel
theorem dL_law_625 : decode cL_law 625 = .ok (.invokevirtual 89, 3) := by decide +kernel
theorem dL_law_628 : decode cL_law 628 = .ok (.pop, 1) := by decide +kernel
theorem dL_law_629 : decode cL_law 629 = .ok (.goto 92, 3) := by decide +kernel
theorem dL_law_632 : decode cL_law 632 = .ok (.aload_n 1, 1) := by decide +kernel
theorem dL_law_633 : decode cL_law 633 = .ok (.aload_n 0, 1) := by decide +kernel
theorem dL_law_634 : decode cL_law 634 = .ok (.iload_n 3, 1) := by decide +kernel
theorem dL_law_635 : decode cL_law 635 = .ok (.iconst 1, 1) := by decide +kernel
theorem dL_law_636 : decode cL_law 636 = .ok (.iadd, 1) := by decide +kernel
theorem dL_law_637 : decode cL_law 637 = .ok (.iaload, 1) := by decide +kernel
theorem dL_law_638 : decode cL_law 638 = .ok (.aload_n 0, 1) := by decide +kernel
theorem dL_law_639 : decode cL_law 639 = .ok (.iload_n 3, 1) := by decide +kernel
theorem dL_law_640 : decode cL_law 640 = .ok (.iconst 2, 1) := by decide +kernel
theorem dL_law_641 : decode cL_law 641 = .ok (.iadd, 1) := by decide +kernel
theorem dL_law_642 : decode cL_law 642 = .ok (.iaload, 1) := by decide +kernel
theorem dL_law_643 : decode cL_law 643 = .ok (.invokevirtual 90, 3) := by decide +kernel
theorem dL_law_646 : decode cL_law 646 = .ok (.pop, 1) := by decide +kernel
theorem dL_law_647 : decode cL_law 647 = .ok (.aload_n 2, 1) := by decide +kernel
theorem dL_law_648 : decode cL_law 648 = .ok (.aload_n 0, 1) := by decide +kernel
theorem dL_law_649 : decode cL_law 649 = .ok (.iload_n 3, 1) := by decide +kernel
theorem dL_law_650 : decode cL_law 650 = .ok (.iconst 1, 1) := by decide +kernel
theorem dL_law_651 : decode cL_law 651 = .ok (.iadd, 1) := by decide +kernel
theorem dL_law_652 : decode cL_law 652 = .ok (.iaload, 1) := by decide +kernel
theorem dL_law_653 : decode cL_law 653 = .ok (.aload_n 0, 1) := by decide +kernel
theorem dL_law_654 : decode cL_law 654 = .ok (.iload_n 3, 1) := by decide +kernel
theorem dL_law_655 : decode cL_law 655 = .ok (.iconst 2, 1) := by decide +kernel
theorem dL_law_656 : decode cL_law 656 = .ok (.iadd, 1) := by decide +kernel
theorem dL_law_657 : decode cL_law 657 = .ok (.iaload, 1) := by decide +kernel
theorem dL_law_658 : decode cL_law 658 = .ok (.invokevirtual 93, 3) := by decide +kernel
theorem dL_law_661 : decode cL_law 661 = .ok (.pop, 1) := by decide +kernel
theorem dL_law_662 : decode cL_law 662 = .ok (.goto 59, 3) := by decide +kernel
theorem dL_law_665 : decode cL_law 665 = .ok (.aload_n 1, 1) := by decide +kernel
theorem dL_law_666 : decode cL_law 666 = .ok (.aload_n 0, 1) := by decide +kernel
theorem dL_law_667 : decode cL_law 667 = .ok (.iload_n 3, 1) := by decide +kernel
theorem dL_law_668 : decode cL_law 668 = .ok (.iconst 1, 1) := by decide +kernel
theorem dL_law_669 : decode cL_law 669 = .ok (.iadd, 1) := by decide +kernel
theorem dL_law_670 : decode cL_law 670 = .ok (.iaload, 1) := by decide +kernel
theorem dL_law_671 : decode cL_law 671 = .ok (.aload_n 0, 1) := by decide +kernel
theorem dL_law_672 : decode cL_law 672 = .ok (.iload_n 3, 1) := by decide +kernel
theorem dL_law_673 : decode cL_law 673 = .ok (.iconst 2, 1) := by decide +kernel
theorem dL_law_674 : decode cL_law 674 = .ok (.iadd, 1) := by decide +kernel
theorem dL_law_675 : decode cL_law 675 = .ok (.iaload, 1) := by decide +kernel
theorem dL_law_676 : decode cL_law 676 = .ok (.invokevirtual 94, 3) := by decide +kernel
theorem dL_law_679 : decode cL_law 679 = .ok (.aload_n 2, 1) := by decide +kernel
theorem dL_law_680 : decode cL_law 680 = .ok (.aload_n 0, 1) := by decide +kernel
theorem dL_law_681 : decode cL_law 681 = .ok (.iload_n 3, 1) := by decide +kernel
theorem dL_law_682 : decode cL_law 682 = .ok (.iconst 1, 1) := by decide +kernel
theorem dL_law_683 : decode cL_law 683 = .ok (.iadd, 1) := by decide +kernel
theorem dL_law_684 : decode cL_law 684 = .ok (.iaload, 1) := by decide +kernel
theorem dL_law_685 : decode cL_law 685 = .ok (.aload_n 0, 1) := by decide +kernel
theorem dL_law_686 : decode cL_law 686 = .ok (.iload_n 3, 1) := by decide +kernel
theorem dL_law_687 : decode cL_law 687 = .ok (.iconst 2, 1) := by decide +kernel
theorem dL_law_688 : decode cL_law 688 = .ok (.iadd, 1) := by decide +kernel
theorem dL_law_689 : decode cL_law 689 = .ok (.iaload, 1) := by decide +kernel
theorem dL_law_690 : decode cL_law 690 = .ok (.invokevirtual 97, 3) := by decide +kernel
theorem dL_law_693 : decode cL_law 693 = .ok (.if_icmp .eq 28, 3) := by decide +kernel
theorem dL_law_696 : decode cL_law 696 = .ok (.iconst 0, 1) := by decide +kernel
theorem dL_law_697 : decode cL_law 697 = .ok (.ireturn, 1) := by decide +kernel
theorem dL_law_698 : decode cL_law 698 = .ok (.aload_n 1, 1) := by decide +kernel
theorem dL_law_699 : decode cL_law 699 = .ok (.aload_n 0, 1) := by decide +kernel
theorem dL_law_700 : decode cL_law 700 = .ok (.iload_n 3, 1) := by decide +kernel
theorem dL_law_701 : decode cL_law 701 = .ok (.iconst 1, 1) := by decide +kernel
theorem dL_law_702 : decode cL_law 702 = .ok (.iadd, 1) := by decide +kernel
theorem dL_law_703 : decode cL_law 703 = .ok (.iaload, 1) := by decide +kernel
theorem dL_law_704 : decode cL_law 704 = .ok (.invokevirtual 98, 3) := by decide +kernel
theorem dL_law_707 : decode cL_law 707 = .ok (.pop, 1) := by decide +kernel
theorem dL_law_708 : decode cL_law 708 = .ok (.aload_n 2, 1) := by decide +kernel
theorem dL_law_709 : decode cL_law 709 = .ok (.aload_n 0, 1) := by decide +kernel
theorem dL_law_710 : decode cL_law 710 = .ok (.iload_n 3, 1) := by decide +kernel
theorem dL_law_711 : decode cL_law 711 = .ok (.iconst 1, 1) := by decide +kernel
theorem dL_law_712 : decode cL_law 712 = .ok (.iadd, 1) := by decide +kernel
theorem dL_law_713 : decode cL_law 713 = .ok (.iaload, 1) := by decide +kernel
theorem dL_law_714 : decode cL_law 714 = .ok (.invokevirtual 101, 3) := by decide +kernel
theorem dL_law_717 : decode cL_law 717 = .ok (.pop, 1) := by decide +kernel
theorem dL_law_718 : decode cL_law 718 = .ok (.goto 3, 3) := by decide +kernel
theorem dL_law_721 : decode cL_law 721 = .ok (.iinc 3 4, 3) := by decide +kernel
theorem dL_law_724 : decode cL_law 724 = .ok (.goto (-706), 3) := by decide +kernel
theorem dL_law_727 : decode cL_law 727 = .ok (.iconst 1, 1) := by decide +kernel
theorem dL_law_728 : decode cL_law 728 = .ok (.ireturn, 1) := by decide +kernel
