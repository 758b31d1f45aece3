theorem dX4_want_0 : decode cX4_want 0 = .ok (.aload_n 0, 1) := by decide +kernel
theorem dX4_want_1 : decode cX4_want 1 = .ok (.iload_n 1, 1) := by decide +kernel
theorem dX4_want_2 : decode cX4_want 2 = .ok (.invokevirtual 108, 3) := by decide +kernel
theorem dX4_want_5 : decode cX4_want 5 = .ok (.ifCond .eq 13, 3) := by decide +kernel
theorem dX4_want_8 : decode cX4_want 8 = .ok (.iload_n 2, 1) := by decide +kernel
theorem dX4_want_9 : decode cX4_want 9 = .ok (.ifCond .lt 9, 3) := by decide +kernel
theorem dX4_want_12 : decode cX4_want 12 = .ok (.iload_n 2, 1) := by decide +kernel
theorem dX4_want_13 : decode cX4_want 13 = .ok (.bipush 100, 2) := by decide +kernel
theorem dX4_want_15 : decode cX4_want 15 = .ok (.if_icmp .le 5, 3) := by decide +kernel
theorem dX4_want_18 : decode cX4_want 18 = .ok (.iconst (-1), 1) := by decide +kernel
theorem dX4_want_19 : decode cX4_want 19 = .ok (.ireturn, 1) := by decide +kernel
theorem dX4_want_20 : decode cX4_want 20 = .ok (.aload_n 0, 1) := by decide +kernel
theorem dX4_want_21 : decode cX4_want 21 = .ok (.getfield 18, 3) := by decide +kernel
theorem dX4_want_24 : decode cX4_want 24 = .ok (.iload_n 1, 1) := by decide +kernel
theorem dX4_want_25 : decode cX4_want 25 = .ok (.aaload, 1) := by decide +kernel
theorem dX4_want_26 : decode cX4_want 26 = .ok (.astore_n 3, 1) := by decide +kernel
theorem dX4_want_27 : decode cX4_want 27 = .ok (.aload_n 3, 1) := by decide +kernel
theorem dX4_want_28 : decode cX4_want 28 = .ok (.getfield 111, 3) := by decide +kernel
theorem dX4_want_31 : decode cX4_want 31 = .ok (.ifCond .ne 10, 3) := by decide +kernel
theorem dX4_want_34 : decode cX4_want 34 = .ok (.aload_n 3, 1) := by decide +kernel
theorem dX4_want_35 : decode cX4_want 35 = .ok (.invokevirtual 114, 3) := by decide +kernel
theorem dX4_want_38 : decode cX4_want 38 = .ok (.ifCond .eq 5, 3) := by decide +kernel
theorem dX4_want_41 : decode cX4_want 41 = .ok (.iconst (-1), 1) := by decide +kernel
theorem dX4_want_42 : decode cX4_want 42 = .ok (.ireturn, 1) := by decide +kernel
theorem dX4_want_43 : decode cX4_want 43 = .ok (.aload_n 3, 1) := by decide +kernel
theorem dX4_want_44 : decode cX4_want 44 = .ok (.getfield 118, 3) := by decide +kernel
theorem dX4_want_47 : decode cX4_want 47 = .ok (.iload_n 1, 1) := by decide +kernel
theorem dX4_want_48 : decode cX4_want 48 = .ok (.iload_n 2, 1) := by decide +kernel
theorem dX4_want_49 : decode cX4_want 49 = .ok (.invokevirtual 122, 3) := by decide +kernel
theorem dX4_want_52 : decode cX4_want 52 = .ok (.aload_n 3, 1) := by decide +kernel
theorem dX4_want_53 : decode cX4_want 53 = .ok (.iconst 1, 1) := by decide +kernel
theorem dX4_want_54 : decode cX4_want 54 = .ok (.putfield 127, 3) := by decide +kernel
theorem dX4_want_57 : decode cX4_want 57 = .ok (.aload_n 3, 1) := by decide +kernel
theorem dX4_want_58 : decode cX4_want 58 = .ok (.iconst 0, 1) := by decide +kernel
theorem dX4_want_59 : decode cX4_want 59 = .ok (.putfield 130, 3) := by decide +kernel
theorem dX4_want_62 : decode cX4_want 62 = .ok (.aload_n 3, 1) := by decide +kernel
theorem dX4_want_63 : decode cX4_want 63 = .ok (.getfield 118, 3) := by decide +kernel
theorem dX4_want_66 : decode cX4_want 66 = .ok (.getfield 133, 3) := by decide +kernel
theorem dX4_want_69 : decode cX4_want 69 = .ok (.ireturn, 1) := by decide +kernel
set_option maxRecDepth 20000 in
theorem ggX4_begin_X4_isUp : GoodIn wsX4_begin wsX4_isUp := goodIn_r _ [15, 1, 16, 17, 18, 19, 14, 20, 21, 22, 23, 24, 25, 26, 27, 28, 80, 81, 82, 83, 84, 85, 86, 87, 88, 89, 90, 91, 92, 93, 94, 95, 96, 97, 98, 99, 100, 101, 105, 106, 107] rfl (by decide +kernel)
set_option maxRecDepth 20000 in
theorem gX4_begin_X4_isUp : GoodIn wsX4_begin (wsV RX4 108 RX4 yX4_isUp wsX4_isUp) := goodIn_app (goodIn_of _ (by decide +kernel)) ggX4_begin_X4_isUp
set_option maxRecDepth 20000 in
theorem ggX4_begin_X3_firstPlace : GoodIn wsX4_begin wsX3_firstPlace := goodIn_r _ [33, 34, 35, 36, 37, 38, 32, 39, 40, 41, 42, 43, 44, 45, 46, 47, 48, 49, 50, 51, 52, 53, 90, 91, 92, 93, 94, 95, 96, 97, 98, 99, 100, 101, 102, 103, 104] rfl (by decide +kernel)
set_option maxRecDepth 20000 in
theorem gX4_begin_X3_firstPlace : GoodIn wsX4_begin (wsV RX4 136 RX3 yX3_firstPlace wsX3_firstPlace) := goodIn_app (goodIn_of _ (by decide +kernel)) ggX4_begin_X3_firstPlace
set_option maxRecDepth 20000 in
theorem ggX4_begin_X3_holds : GoodIn wsX4_begin wsX3_holds := goodIn_r _ [57, 58, 40, 90, 91, 92, 93, 94, 95, 96, 97, 98, 99, 100, 101] rfl (by decide +kernel)
set_option maxRecDepth 20000 in
theorem gX4_begin_X3_holds : GoodIn wsX4_begin (wsV RX4 139 RX3 yX3_holds wsX3_holds) := goodIn_app (goodIn_of _ (by decide +kernel)) ggX4_begin_X3_holds
set_option maxRecDepth 20000 in
theorem ggX4_begin_X2_serve : GoodIn wsX4_begin wsX2_serve := goodIn_r _ [62, 48, 47, 53, 63, 64, 65, 66, 67, 14, 68, 69, 70, 71, 72, 102, 103, 104] rfl (by decide +kernel)
set_option maxRecDepth 20000 in
theorem gX4_begin_X2_serve : GoodIn wsX4_begin (wsV RX4 149 RX2 yX2_serve wsX2_serve) := goodIn_app (goodIn_of _ (by decide +kernel)) ggX4_begin_X2_serve
set_option maxRecDepth 20000 in
theorem ggX4_begin_X4_tellOthersOfBegin : GoodIn wsX4_begin wsX4_tellOthersOfBegin := goodIn_r _ [76, 22, 77, 1, 78, 79, 80, 81, 82, 83, 84, 85, 86, 87, 88, 89, 105, 106, 107, 90, 91, 92, 93, 94, 95, 96, 97, 98, 99, 100, 101] rfl (by decide +kernel)
set_option maxRecDepth 20000 in
theorem gX4_begin_X4_tellOthersOfBegin : GoodIn wsX4_begin (wsV RX4 155 RX4 yX4_tellOthersOfBegin wsX4_tellOthersOfBegin) := goodIn_app (goodIn_of _ (by decide +kernel)) ggX4_begin_X4_tellOthersOfBegin
theorem dX4_begin_0 : decode cX4_begin 0 = .ok (.aload_n 0, 1) := by decide +kernel
theorem dX4_begin_1 : decode cX4_begin 1 = .ok (.iload_n 1, 1) := by decide +kernel
theorem dX4_begin_2 : decode cX4_begin 2 = .ok (.invokevirtual 108, 3) := by decide +kernel
theorem dX4_begin_5 : decode cX4_begin 5 = .ok (.ifCond .ne 5, 3) := by decide +kernel
theorem dX4_begin_8 : decode cX4_begin 8 = .ok (.iconst (-1), 1) := by decide +kernel
theorem dX4_begin_9 : decode cX4_begin 9 = .ok (.ireturn, 1) := by decide +kernel
theorem dX4_begin_10 : decode cX4_begin 10 = .ok (.aload_n 0, 1) := by decide +kernel
theorem dX4_begin_11 : decode cX4_begin 11 = .ok (.getfield 18, 3) := by decide +kernel
theorem dX4_begin_14 : decode cX4_begin 14 = .ok (.iload_n 1, 1) := by decide +kernel
theorem dX4_begin_15 : decode cX4_begin 15 = .ok (.aaload, 1) := by decide +kernel
theorem dX4_begin_16 : decode cX4_begin 16 = .ok (.astore_n 2, 1) := by decide +kernel
theorem dX4_begin_17 : decode cX4_begin 17 = .ok (.aload_n 2, 1) := by decide +kernel
theorem dX4_begin_18 : decode cX4_begin 18 = .ok (.aload_n 0, 1) := by decide +kernel
theorem dX4_begin_19 : decode cX4_begin 19 = .ok (.getfield 85, 3) := by decide +kernel
theorem dX4_begin_22 : decode cX4_begin 22 = .ok (.aload_n 0, 1) := by decide +kernel
theorem dX4_begin_23 : decode cX4_begin 23 = .ok (.getfield 88, 3) := by decide +kernel
theorem dX4_begin_26 : decode cX4_begin 26 = .ok (.invokevirtual 136, 3) := by decide +kernel
theorem dX4_begin_29 : decode cX4_begin 29 = .ok (.istore_n 3, 1) := by decide +kernel
theorem dX4_begin_30 : decode cX4_begin 30 = .ok (.aload_n 2, 1) := by decide +kernel
theorem dX4_begin_31 : decode cX4_begin 31 = .ok (.invokevirtual 139, 3) := by decide +kernel
theorem dX4_begin_34 : decode cX4_begin 34 = .ok (.ifCond .eq 29, 3) := by decide +kernel
theorem dX4_begin_37 : decode cX4_begin 37 = .ok (.aload_n 2, 1) := by decide +kernel
theorem dX4_begin_38 : decode cX4_begin 38 = .ok (.getfield 111, 3) := by decide +kernel
theorem dX4_begin_41 : decode cX4_begin 41 = .ok (.ifCond .ne 22, 3) := by decide +kernel
theorem dX4_begin_44 : decode cX4_begin 44 = .ok (.iload_n 3, 1) := by decide +kernel
theorem dX4_begin_45 : decode cX4_begin 45 = .ok (.bipush (-2), 2) := by decide +kernel
theorem dX4_begin_47 : decode cX4_begin 47 = .ok (.if_icmp .eq 16, 3) := by decide +kernel
theorem dX4_begin_50 : decode cX4_begin 50 = .ok (.aload_n 2, 1) := by decide +kernel
theorem dX4_begin_51 : decode cX4_begin 51 = .ok (.getfield 118, 3) := by decide +kernel
theorem dX4_begin_54 : decode cX4_begin 54 = .ok (.getfield 142, 3) := by decide +kernel
theorem dX4_begin_57 : decode cX4_begin 57 = .ok (.iload_n 3, 1) := by decide +kernel
theorem dX4_begin_58 : decode cX4_begin 58 = .ok (.iaload, 1) := by decide +kernel
theorem dX4_begin_59 : decode cX4_begin 59 = .ok (.iload_n 1, 1) := by decide +kernel
theorem dX4_begin_60 : decode cX4_begin 60 = .ok (.if_icmp .eq 6, 3) := by decide +kernel
theorem dX4_begin_63 : decode cX4_begin 63 = .ok (.bipush (-2), 2) := by decide +kernel
theorem dX4_begin_65 : decode cX4_begin 65 = .ok (.ireturn, 1) := by decide +kernel
theorem dX4_begin_66 : decode cX4_begin 66 = .ok (.iload_n 3, 1) := by decide +kernel
theorem dX4_begin_67 : decode cX4_begin 67 = .ok (.ifCond .le 13, 3) := by decide +kernel
theorem dX4_begin_70 : decode cX4_begin 70 = .ok (.aload_n 2, 1) := by decide +kernel
theorem dX4_begin_71 : decode cX4_begin 71 = .ok (.dup, 1) := by decide +kernel
theorem dX4_begin_72 : decode cX4_begin 72 = .ok (.getfield 146, 3) := by decide +kernel
theorem dX4_begin_75 : decode cX4_begin 75 = .ok (.iconst 1, 1) := by decide +kernel
theorem dX4_begin_76 : decode cX4_begin 76 = .ok (.iadd, 1) := by decide +kernel
theorem dX4_begin_77 : decode cX4_begin 77 = .ok (.putfield 146, 3) := by decide +kernel
theorem dX4_begin_80 : decode cX4_begin 80 = .ok (.aload_n 2, 1) := by decide +kernel
theorem dX4_begin_81 : decode cX4_begin 81 = .ok (.getfield 118, 3) := by decide +kernel
theorem dX4_begin_84 : decode cX4_begin 84 = .ok (.iload_n 3, 1) := by decide +kernel
theorem dX4_begin_85 : decode cX4_begin 85 = .ok (.invokevirtual 149, 3) := by decide +kernel
theorem dX4_begin_88 : decode cX4_begin 88 = .ok (.aload_n 2, 1) := by decide +kernel
theorem dX4_begin_89 : decode cX4_begin 89 = .ok (.getfield 118, 3) := by decide +kernel
theorem dX4_begin_92 : decode cX4_begin 92 = .ok (.getfield 133, 3) := by decide +kernel
theorem dX4_begin_95 : decode cX4_begin 95 = .ok (.ifCond .le 13, 3) := by decide +kernel
theorem dX4_begin_98 : decode cX4_begin 98 = .ok (.aload_n 2, 1) := by decide +kernel
theorem dX4_begin_99 : decode cX4_begin 99 = .ok (.dup, 1) := by decide +kernel
theorem dX4_begin_100 : decode cX4_begin 100 = .ok (.getfield 152, 3) := by decide +kernel
theorem dX4_begin_103 : decode cX4_begin 103 = .ok (.iconst 1, 1) := by decide +kernel
theorem dX4_begin_104 : decode cX4_begin 104 = .ok (.iadd, 1) := by decide +kernel
theorem dX4_begin_105 : decode cX4_begin 105 = .ok (.putfield 152, 3) := by decide +kernel
theorem dX4_begin_108 : decode cX4_begin 108 = .ok (.aload_n 2, 1) := by decide +kernel
theorem dX4_begin_109 : decode cX4_begin 109 = .ok (.iconst 1, 1) := by decide +kernel
theorem dX4_begin_110 : decode cX4_begin 110 = .ok (.putfield 111, 3) := by decide +kernel
theorem dX4_begin_113 : decode cX4_begin 113 = .ok (.aload_n 0, 1) := by decide +kernel
theorem dX4_begin_114 : decode cX4_begin 114 = .ok (.dup, 1) := by decide +kernel
theorem dX4_begin_115 : decode cX4_begin 115 = .ok (.getfield 91, 3) := by decide +kernel
theorem dX4_begin_118 : decode cX4_begin 118 = .ok (.iconst 1, 1) := by decide +kernel
theorem dX4_begin_119 : decode cX4_begin 119 = .ok (.iadd, 1) := by decide +kernel
theorem dX4_begin_120 : decode cX4_begin 120 = .ok (.putfield 91, 3) := by decide +kernel
theorem dX4_begin_123 : decode cX4_begin 123 = .ok (.aload_n 0, 1) := by decide +kernel
theorem dX4_begin_124 : decode cX4_begin 124 = .ok (.iload_n 1, 1) := by decide +kernel
theorem dX4_begin_125 : decode cX4_begin 125 = .ok (.invokevirtual 155, 3) := by decide +kernel
theorem dX4_begin_128 : decode cX4_begin 128 = .ok (.iconst 0, 1) := by decide +kernel
theorem dX4_begin_129 : decode cX4_begin 129 = .ok (.ireturn, 1) := by decide +kernel
set_option maxRecDepth 20000 in
theorem ggX4_end_X4_isStation : GoodIn wsX4_end wsX4_isStation := goodIn_r _ [8, 9, 10, 11, 12, 13, 14, 15, 16, 24, 25, 26, 27, 28, 29, 30, 31, 32, 33, 46, 47, 48] rfl (by decide +kernel)
set_option maxRecDepth 20000 in
theorem gX4_end_X4_isStation : GoodIn wsX4_end (wsV RX4 158 RX4 yX4_isStation wsX4_isStation) := goodIn_app (goodIn_of _ (by decide +kernel)) ggX4_end_X4_isStation
set_option maxRecDepth 20000 in
theorem ggX4_end_X3_stopPumping : GoodIn wsX4_end wsX3_stopPumping := goodIn_r _ [21, 22, 23, 34, 35, 36, 37, 38, 39, 40, 41, 42, 43, 44, 45] rfl (by decide +kernel)
set_option maxRecDepth 20000 in
theorem gX4_end_X3_stopPumping : GoodIn wsX4_end (wsV RX4 161 RX3 yX3_stopPumping wsX3_stopPumping) := goodIn_app (goodIn_of _ (by decide +kernel)) ggX4_end_X3_stopPumping
theorem dX4_end_0 : decode cX4_end 0 = .ok (.aload_n 0, 1) := by decide +kernel
theorem dX4_end_1 : decode cX4_end 1 = .ok (.iload_n 1, 1) := by decide +kernel
theorem dX4_end_2 : decode cX4_end 2 = .ok (.invokevirtual 158, 3) := by decide +kernel
theorem dX4_end_5 : decode cX4_end 5 = .ok (.ifCond .eq 15, 3) := by decide +kernel
theorem dX4_end_8 : decode cX4_end 8 = .ok (.aload_n 0, 1) := by decide +kernel
theorem dX4_end_9 : decode cX4_end 9 = .ok (.getfield 18, 3) := by decide +kernel
theorem dX4_end_12 : decode cX4_end 12 = .ok (.iload_n 1, 1) := by decide +kernel
theorem dX4_end_13 : decode cX4_end 13 = .ok (.aaload, 1) := by decide +kernel
theorem dX4_end_14 : decode cX4_end 14 = .ok (.getfield 111, 3) := by decide +kernel
theorem dX4_end_17 : decode cX4_end 17 = .ok (.ifCond .ne 5, 3) := by decide +kernel
theorem dX4_end_20 : decode cX4_end 20 = .ok (.iconst (-1), 1) := by decide +kernel
theorem dX4_end_21 : decode cX4_end 21 = .ok (.ireturn, 1) := by decide +kernel
theorem dX4_end_22 : decode cX4_end 22 = .ok (.aload_n 0, 1) := by decide +kernel
theorem dX4_end_23 : decode cX4_end 23 = .ok (.getfield 18, 3) := by decide +kernel
theorem dX4_end_26 : decode cX4_end 26 = .ok (.iload_n 1, 1) := by decide +kernel
theorem dX4_end_27 : decode cX4_end 27 = .ok (.aaload, 1) := by decide +kernel
theorem dX4_end_28 : decode cX4_end 28 = .ok (.invokevirtual 161, 3) := by decide +kernel
theorem dX4_end_31 : decode cX4_end 31 = .ok (.aload_n 0, 1) := by decide +kernel
theorem dX4_end_32 : decode cX4_end 32 = .ok (.getfield 18, 3) := by decide +kernel
theorem dX4_end_35 : decode cX4_end 35 = .ok (.iload_n 1, 1) := by decide +kernel
theorem dX4_end_36 : decode cX4_end 36 = .ok (.aaload, 1) := by decide +kernel
theorem dX4_end_37 : decode cX4_end 37 = .ok (.getfield 164, 3) := by decide +kernel
theorem dX4_end_40 : decode cX4_end 40 = .ok (.ireturn, 1) := by decide +kernel
set_option maxRecDepth 20000 in
theorem ggX4_step_X4_isUp : GoodIn wsX4_step wsX4_isUp := goodIn_r _ [11, 1, 12, 13, 14, 15, 10, 16, 17, 18, 19, 20, 21, 22, 23, 24, 127, 128, 129, 130, 131, 132, 133, 134, 135, 136, 137, 138, 139, 140, 141, 142, 143, 144, 145, 146, 147, 148, 152, 153, 154] rfl (by decide +kernel)
set_option maxRecDepth 20000 in
theorem gX4_step_X4_isUp : GoodIn wsX4_step (wsV RX4 108 RX4 yX4_isUp wsX4_isUp) := goodIn_app (goodIn_of _ (by decide +kernel)) ggX4_step_X4_isUp
set_option maxRecDepth 20000 in
theorem ggX4_step_X4_canPassOn : GoodIn wsX4_step wsX4_canPassOn := goodIn_r _ [28, 5, 29, 30, 2, 31, 32, 33, 34, 35, 36, 37, 38, 39, 40, 41, 42, 43, 44, 45, 46, 47, 48, 49, 50, 51, 52, 53, 54, 55, 56, 57, 58, 59, 60, 61, 62, 127, 128, 129, 130, 131, 132, 133, 134, 135, 136, 137, 138, 139, 140, 141, 142, 143, 144, 145, 146, 147, 148, 149, 150, 151] rfl (by decide +kernel)
set_option maxRecDepth 20000 in
theorem gX4_step_X4_canPassOn : GoodIn wsX4_step (wsV RX4 167 RX4 yX4_canPassOn wsX4_canPassOn) := goodIn_app (goodIn_of _ (by decide +kernel)) ggX4_step_X4_canPassOn
set_option maxRecDepth 20000 in
theorem ggX4_step_X4_passOn : GoodIn wsX4_step wsX4_passOn := goodIn_r _ [66, 5, 29, 2, 31, 67, 68, 32, 3, 33, 34, 35, 36, 37, 38, 39, 40, 41, 42, 43, 44, 45, 46, 47, 48, 49, 50, 51, 52, 53, 54, 55, 56, 57, 69, 70, 71, 72, 73, 74, 75, 76, 77, 10, 78, 79, 80, 81, 82, 83, 84, 85, 86, 87, 88, 89, 90, 91, 92, 93, 94, 95, 96, 97, 98, 99, 100, 101, 102, 103, 104, 105, 106, 107, 108, 109, 110, 111, 112, 113, 114, 115, 116, 117, 6, 4, 118, 119, 120, 121, 122, 127, 128, 129, 130, 131, 132, 133, 134, 135, 136, 137, 138, 139, 140, 141, 142, 143, 144, 145, 146, 147, 148, 149, 150, 151, 155, 156, 157, 158, 159, 160] rfl (by decide +kernel)
set_option maxRecDepth 20000 in
theorem gX4_step_X4_passOn : GoodIn wsX4_step (wsV RX4 171 RX4 yX4_passOn wsX4_passOn) := goodIn_app (goodIn_of _ (by decide +kernel)) ggX4_step_X4_passOn
set_option maxRecDepth 20000 in
theorem ggX4_step_X3_pointsAway : GoodIn wsX4_step wsX3_pointsAway := goodIn_r _ [126, 62, 44, 137, 138, 139, 140, 141, 142, 143, 144, 145, 146, 147, 148] rfl (by decide +kernel)
set_option maxRecDepth 20000 in
theorem gX4_step_X3_pointsAway : GoodIn wsX4_step (wsV RX4 175 RX3 yX3_pointsAway wsX3_pointsAway) := goodIn_app (goodIn_of _ (by decide +kernel)) ggX4_step_X3_pointsAway
set_option maxRecDepth 20000 in
theorem ggX4_step_X4_ask : GoodIn wsX4_step wsX4_ask := goodIn_r _ [117, 2, 6, 4, 32, 67, 118, 119, 120, 49, 121, 57, 122, 54, 55, 56, 51, 83, 84, 85, 10, 86, 87, 88, 89, 90, 91, 92, 93, 94, 95, 96, 97, 98, 99, 100, 101, 102, 103, 104, 105, 106, 107, 108, 109, 110, 111, 112, 113, 137, 138, 139, 140, 141, 142, 143, 144, 145, 146, 147, 148, 149, 150, 151, 127, 128, 129, 130, 131, 132, 133, 134, 135, 136, 155, 156, 157, 158, 159, 160] rfl (by decide +kernel)
set_option maxRecDepth 20000 in
theorem gX4_step_X4_ask : GoodIn wsX4_step (wsV RX4 181 RX4 yX4_ask wsX4_ask) := goodIn_app (goodIn_of _ (by decide +kernel)) ggX4_step_X4_ask
set_option maxRecDepth 20000 in
theorem ggX4_step_X2_greatestRank : GoodIn wsX4_step wsX2_greatestRank := goodIn_r _ [121, 57, 122, 54, 55, 49, 56, 51, 149, 150, 151] rfl (by decide +kernel)
set_option maxRecDepth 20000 in
theorem gX4_step_X2_greatestRank : GoodIn wsX4_step (wsV RX4 184 RX2 yX2_greatestRank wsX2_greatestRank) := goodIn_app (goodIn_of _ (by decide +kernel)) ggX4_step_X2_greatestRank
theorem dX4_step_0 : decode cX4_step 0 = .ok (.aload_n 0, 1) := by decide +kernel
theorem dX4_step_1 : decode cX4_step 1 = .ok (.iload_n 1, 1) := by decide +kernel
theorem dX4_step_2 : decode cX4_step 2 = .ok (.invokevirtual 108, 3) := by decide +kernel
theorem dX4_step_5 : decode cX4_step 5 = .ok (.ifCond .ne 5, 3) := by decide +kernel
theorem dX4_step_8 : decode cX4_step 8 = .ok (.iconst (-1), 1) := by decide +kernel
theorem dX4_step_9 : decode cX4_step 9 = .ok (.ireturn, 1) := by decide +kernel
theorem dX4_step_10 : decode cX4_step 10 = .ok (.aload_n 0, 1) := by decide +kernel
theorem dX4_step_11 : decode cX4_step 11 = .ok (.getfield 18, 3) := by decide +kernel
theorem dX4_step_14 : decode cX4_step 14 = .ok (.iload_n 1, 1) := by decide +kernel
theorem dX4_step_15 : decode cX4_step 15 = .ok (.aaload, 1) := by decide +kernel
theorem dX4_step_16 : decode cX4_step 16 = .ok (.astore_n 2, 1) := by decide +kernel
theorem dX4_step_17 : decode cX4_step 17 = .ok (.aload_n 0, 1) := by decide +kernel
theorem dX4_step_18 : decode cX4_step 18 = .ok (.aload_n 2, 1) := by decide +kernel
theorem dX4_step_19 : decode cX4_step 19 = .ok (.invokevirtual 167, 3) := by decide +kernel
theorem dX4_step_22 : decode cX4_step 22 = .ok (.ifCond .eq 10, 3) := by decide +kernel
theorem dX4_step_25 : decode cX4_step 25 = .ok (.aload_n 0, 1) := by decide +kernel
theorem dX4_step_26 : decode cX4_step 26 = .ok (.aload_n 2, 1) := by decide +kernel
theorem dX4_step_27 : decode cX4_step 27 = .ok (.invokevirtual 171, 3) := by decide +kernel
theorem dX4_step_30 : decode cX4_step 30 = .ok (.iconst 1, 1) := by decide +kernel
theorem dX4_step_31 : decode cX4_step 31 = .ok (.ireturn, 1) := by decide +kernel
theorem dX4_step_32 : decode cX4_step 32 = .ok (.aload_n 2, 1) := by decide +kernel
theorem dX4_step_33 : decode cX4_step 33 = .ok (.invokevirtual 175, 3) := by decide +kernel
theorem dX4_step_36 : decode cX4_step 36 = .ok (.ifCond .eq 13, 3) := by decide +kernel
theorem dX4_step_39 : decode cX4_step 39 = .ok (.aload_n 2, 1) := by decide +kernel
theorem dX4_step_40 : decode cX4_step 40 = .ok (.getfield 118, 3) := by decide +kernel
theorem dX4_step_43 : decode cX4_step 43 = .ok (.getfield 133, 3) := by decide +kernel
theorem dX4_step_46 : decode cX4_step 46 = .ok (.ifCond .ne 5, 3) := by decide +kernel
theorem dX4_step_49 : decode cX4_step 49 = .ok (.iconst 0, 1) := by decide +kernel
theorem dX4_step_50 : decode cX4_step 50 = .ok (.ireturn, 1) := by decide +kernel
theorem dX4_step_51 : decode cX4_step 51 = .ok (.aload_n 2, 1) := by decide +kernel
theorem dX4_step_52 : decode cX4_step 52 = .ok (.getfield 178, 3) := by decide +kernel
theorem dX4_step_55 : decode cX4_step 55 = .ok (.ifCond .ne 10, 3) := by decide +kernel
theorem dX4_step_58 : decode cX4_step 58 = .ok (.aload_n 0, 1) := by decide +kernel
theorem dX4_step_59 : decode cX4_step 59 = .ok (.aload_n 2, 1) := by decide +kernel
theorem dX4_step_60 : decode cX4_step 60 = .ok (.invokevirtual 181, 3) := by decide +kernel
theorem dX4_step_63 : decode cX4_step 63 = .ok (.iconst 2, 1) := by decide +kernel
theorem dX4_step_64 : decode cX4_step 64 = .ok (.ireturn, 1) := by decide +kernel
theorem dX4_step_65 : decode cX4_step 65 = .ok (.aload_n 0, 1) := by decide +kernel
theorem dX4_step_66 : decode cX4_step 66 = .ok (.getfield 85, 3) := by decide +kernel
theorem dX4_step_69 : decode cX4_step 69 = .ok (.iconst 2, 1) := by decide +kernel
theorem dX4_step_70 : decode cX4_step 70 = .ok (.if_icmp .ne 24, 3) := by decide +kernel
theorem dX4_step_73 : decode cX4_step 73 = .ok (.aload_n 2, 1) := by decide +kernel
theorem dX4_step_74 : decode cX4_step 74 = .ok (.getfield 118, 3) := by decide +kernel
theorem dX4_step_77 : decode cX4_step 77 = .ok (.invokevirtual 184, 3) := by decide +kernel
theorem dX4_step_80 : decode cX4_step 80 = .ok (.aload_n 2, 1) := by decide +kernel
theorem dX4_step_81 : decode cX4_step 81 = .ok (.getfield 187, 3) := by decide +kernel
theorem dX4_step_84 : decode cX4_step 84 = .ok (.if_icmp .le 10, 3) := by decide +kernel
theorem dX4_step_87 : decode cX4_step 87 = .ok (.aload_n 0, 1) := by decide +kernel
theorem dX4_step_88 : decode cX4_step 88 = .ok (.aload_n 2, 1) := by decide +kernel
theorem dX4_step_89 : decode cX4_step 89 = .ok (.invokevirtual 181, 3) := by decide +kernel
theorem dX4_step_92 : decode cX4_step 92 = .ok (.iconst 3, 1) := by decide +kernel
theorem dX4_step_93 : decode cX4_step 93 = .ok (.ireturn, 1) := by decide +kernel
theorem dX4_step_94 : decode cX4_step 94 = .ok (.iconst 0, 1) := by decide +kernel
theorem dX4_step_95 : decode cX4_step 95 = .ok (.ireturn, 1) := by decide +kernel
set_option maxRecDepth 20000 in
theorem ggX4_deliver_X4_isCopy : GoodIn wsX4_deliver wsX4_isCopy := goodIn_r _ [14, 15, 1, 16, 83, 84, 85, 86, 87, 88, 89, 90, 91, 92, 93, 94, 95, 96, 97, 98] rfl (by decide +kernel)
set_option maxRecDepth 20000 in
theorem gX4_deliver_X4_isCopy : GoodIn wsX4_deliver (wsV RX4 190 RX4 yX4_isCopy wsX4_isCopy) := goodIn_app (goodIn_of _ (by decide +kernel)) ggX4_deliver_X4_isCopy
set_option maxRecDepth 20000 in
theorem ggX4_deliver_X1_remove : GoodIn wsX4_deliver wsX1_remove := goodIn_r _ [21, 22, 23, 24, 25, 26, 27, 28, 13, 29, 30, 31, 32, 33, 93, 94, 95, 96, 97, 98] rfl (by decide +kernel)
set_option maxRecDepth 20000 in
theorem gX4_deliver_X1_remove : GoodIn wsX4_deliver (wsV RX4 208 RX1 yX1_remove wsX1_remove) := goodIn_app (goodIn_of _ (by decide +kernel)) ggX4_deliver_X1_remove
set_option maxRecDepth 20000 in
theorem ggX4_deliver_X4_takeOut : GoodIn wsX4_deliver wsX4_takeOut := goodIn_r _ [37, 38, 5, 39, 40, 41, 20, 42, 23, 24, 25, 17, 18, 19, 21, 22, 26, 27, 28, 13, 29, 30, 31, 32, 33, 43, 44, 45, 46, 1, 47, 48, 49, 50, 51, 52, 53, 54, 83, 84, 85, 86, 87, 88, 89, 90, 91, 92, 93, 94, 95, 96, 97, 98] rfl (by decide +kernel)
set_option maxRecDepth 20000 in
theorem gX4_deliver_X4_takeOut : GoodIn wsX4_deliver (wsV RX4 214 RX4 yX4_takeOut wsX4_takeOut) := goodIn_app (goodIn_of _ (by decide +kernel)) ggX4_deliver_X4_takeOut
set_option maxRecDepth 20000 in
theorem ggX4_deliver_X4_read : GoodIn wsX4_deliver wsX4_read := goodIn_r _ [58, 7, 59, 60, 61, 62, 63, 64, 65, 66, 67, 68, 69, 70, 71, 72, 73, 74, 75, 76, 77, 78, 79, 80, 81, 83, 84, 85, 86, 87, 88, 89, 90, 91, 92, 99, 100, 101, 102, 103, 104, 105, 106, 107, 108, 109, 110, 111, 112, 113] rfl (by decide +kernel)
set_option maxRecDepth 20000 in
theorem gX4_deliver_X4_read : GoodIn wsX4_deliver (wsV RX4 218 RX4 yX4_read wsX4_read) := goodIn_app (goodIn_of _ (by decide +kernel)) ggX4_deliver_X4_read
set_option maxRecDepth 20000 in
theorem ggX4_deliver_X1_add : GoodIn wsX4_deliver wsX1_add := goodIn_r _ [54, 23, 22, 24, 25, 26, 27, 93, 94, 95, 96, 97, 98] rfl (by decide +kernel)
set_option maxRecDepth 20000 in
theorem gX4_deliver_X1_add : GoodIn wsX4_deliver (wsV RX4 222 RX1 yX1_add wsX1_add) := goodIn_app (goodIn_of _ (by decide +kernel)) ggX4_deliver_X1_add
theorem dX4_deliver_0 : decode cX4_deliver 0 = .ok (.aload_n 0, 1) := by decide +kernel
theorem dX4_deliver_1 : decode cX4_deliver 1 = .ok (.iload_n 1, 1) := by decide +kernel
theorem dX4_deliver_2 : decode cX4_deliver 2 = .ok (.invokevirtual 190, 3) := by decide +kernel
theorem dX4_deliver_5 : decode cX4_deliver 5 = .ok (.ifCond .ne 5, 3) := by decide +kernel
theorem dX4_deliver_8 : decode cX4_deliver 8 = .ok (.iconst (-1), 1) := by decide +kernel
theorem dX4_deliver_9 : decode cX4_deliver 9 = .ok (.ireturn, 1) := by decide +kernel
theorem dX4_deliver_10 : decode cX4_deliver 10 = .ok (.aload_n 0, 1) := by decide +kernel
theorem dX4_deliver_11 : decode cX4_deliver 11 = .ok (.getfield 31, 3) := by decide +kernel
theorem dX4_deliver_14 : decode cX4_deliver 14 = .ok (.getfield 193, 3) := by decide +kernel
theorem dX4_deliver_17 : decode cX4_deliver 17 = .ok (.iload_n 1, 1) := by decide +kernel
theorem dX4_deliver_18 : decode cX4_deliver 18 = .ok (.iaload, 1) := by decide +kernel
theorem dX4_deliver_19 : decode cX4_deliver 19 = .ok (.istore_n 2, 1) := by decide +kernel
theorem dX4_deliver_20 : decode cX4_deliver 20 = .ok (.aload_n 0, 1) := by decide +kernel
theorem dX4_deliver_21 : decode cX4_deliver 21 = .ok (.getfield 31, 3) := by decide +kernel
theorem dX4_deliver_24 : decode cX4_deliver 24 = .ok (.getfield 196, 3) := by decide +kernel
theorem dX4_deliver_27 : decode cX4_deliver 27 = .ok (.iload_n 1, 1) := by decide +kernel
theorem dX4_deliver_28 : decode cX4_deliver 28 = .ok (.iaload, 1) := by decide +kernel
theorem dX4_deliver_29 : decode cX4_deliver 29 = .ok (.istore_n 3, 1) := by decide +kernel
theorem dX4_deliver_30 : decode cX4_deliver 30 = .ok (.aload_n 0, 1) := by decide +kernel
theorem dX4_deliver_31 : decode cX4_deliver 31 = .ok (.getfield 31, 3) := by decide +kernel
theorem dX4_deliver_34 : decode cX4_deliver 34 = .ok (.getfield 199, 3) := by decide +kernel
theorem dX4_deliver_37 : decode cX4_deliver 37 = .ok (.iload_n 1, 1) := by decide +kernel
theorem dX4_deliver_38 : decode cX4_deliver 38 = .ok (.iaload, 1) := by decide +kernel
theorem dX4_deliver_39 : decode cX4_deliver 39 = .ok (.istore 4, 2) := by decide +kernel
theorem dX4_deliver_41 : decode cX4_deliver 41 = .ok (.aload_n 0, 1) := by decide +kernel
theorem dX4_deliver_42 : decode cX4_deliver 42 = .ok (.getfield 31, 3) := by decide +kernel
theorem dX4_deliver_45 : decode cX4_deliver 45 = .ok (.getfield 202, 3) := by decide +kernel
theorem dX4_deliver_48 : decode cX4_deliver 48 = .ok (.iload_n 1, 1) := by decide +kernel
theorem dX4_deliver_49 : decode cX4_deliver 49 = .ok (.iaload, 1) := by decide +kernel
theorem dX4_deliver_50 : decode cX4_deliver 50 = .ok (.istore 5, 2) := by decide +kernel
theorem dX4_deliver_52 : decode cX4_deliver 52 = .ok (.aload_n 0, 1) := by decide +kernel
theorem dX4_deliver_53 : decode cX4_deliver 53 = .ok (.getfield 31, 3) := by decide +kernel
theorem dX4_deliver_56 : decode cX4_deliver 56 = .ok (.getfield 205, 3) := by decide +kernel
theorem dX4_deliver_59 : decode cX4_deliver 59 = .ok (.iload_n 1, 1) := by decide +kernel
theorem dX4_deliver_60 : decode cX4_deliver 60 = .ok (.iaload, 1) := by decide +kernel
theorem dX4_deliver_61 : decode cX4_deliver 61 = .ok (.istore 6, 2) := by decide +kernel
theorem dX4_deliver_63 : decode cX4_deliver 63 = .ok (.aload_n 0, 1) := by decide +kernel
theorem dX4_deliver_64 : decode cX4_deliver 64 = .ok (.getfield 31, 3) := by decide +kernel
theorem dX4_deliver_67 : decode cX4_deliver 67 = .ok (.iload_n 1, 1) := by decide +kernel
theorem dX4_deliver_68 : decode cX4_deliver 68 = .ok (.invokevirtual 208, 3) := by decide +kernel
theorem dX4_deliver_71 : decode cX4_deliver 71 = .ok (.aload_n 0, 1) := by decide +kernel
theorem dX4_deliver_72 : decode cX4_deliver 72 = .ok (.getfield 18, 3) := by decide +kernel
theorem dX4_deliver_75 : decode cX4_deliver 75 = .ok (.iload 4, 2) := by decide +kernel
theorem dX4_deliver_77 : decode cX4_deliver 77 = .ok (.aaload, 1) := by decide +kernel
theorem dX4_deliver_78 : decode cX4_deliver 78 = .ok (.getfield 211, 3) := by decide +kernel
theorem dX4_deliver_81 : decode cX4_deliver 81 = .ok (.ifCond .eq 5, 3) := by decide +kernel
theorem dX4_deliver_84 : decode cX4_deliver 84 = .ok (.iconst 0, 1) := by decide +kernel
theorem dX4_deliver_85 : decode cX4_deliver 85 = .ok (.ireturn, 1) := by decide +kernel
theorem dX4_deliver_86 : decode cX4_deliver 86 = .ok (.iload_n 2, 1) := by decide +kernel
theorem dX4_deliver_87 : decode cX4_deliver 87 = .ok (.iconst 2, 1) := by decide +kernel
theorem dX4_deliver_88 : decode cX4_deliver 88 = .ok (.if_icmp .ne 21, 3) := by decide +kernel
theorem dX4_deliver_91 : decode cX4_deliver 91 = .ok (.aload_n 0, 1) := by decide +kernel
theorem dX4_deliver_92 : decode cX4_deliver 92 = .ok (.iload 4, 2) := by decide +kernel
theorem dX4_deliver_94 : decode cX4_deliver 94 = .ok (.iload_n 3, 1) := by decide +kernel
theorem dX4_deliver_95 : decode cX4_deliver 95 = .ok (.iload 5, 2) := by decide +kernel
theorem dX4_deliver_97 : decode cX4_deliver 97 = .ok (.invokevirtual 214, 3) := by decide +kernel
theorem dX4_deliver_100 : decode cX4_deliver 100 = .ok (.ifCond .eq 7, 3) := by decide +kernel
theorem dX4_deliver_103 : decode cX4_deliver 103 = .ok (.iconst 3, 1) := by decide +kernel
theorem dX4_deliver_104 : decode cX4_deliver 104 = .ok (.goto 4, 3) := by decide +kernel
theorem dX4_deliver_107 : decode cX4_deliver 107 = .ok (.iconst 4, 1) := by decide +kernel
theorem dX4_deliver_108 : decode cX4_deliver 108 = .ok (.ireturn, 1) := by decide +kernel
theorem dX4_deliver_109 : decode cX4_deliver 109 = .ok (.iload 5, 2) := by decide +kernel
theorem dX4_deliver_111 : decode cX4_deliver 111 = .ok (.aload_n 0, 1) := by decide +kernel
theorem dX4_deliver_112 : decode cX4_deliver 112 = .ok (.getfield 39, 3) := by decide +kernel
theorem dX4_deliver_115 : decode cX4_deliver 115 = .ok (.iload_n 3, 1) := by decide +kernel
theorem dX4_deliver_116 : decode cX4_deliver 116 = .ok (.aaload, 1) := by decide +kernel
theorem dX4_deliver_117 : decode cX4_deliver 117 = .ok (.iload 4, 2) := by decide +kernel
theorem dX4_deliver_119 : decode cX4_deliver 119 = .ok (.iaload, 1) := by decide +kernel
theorem dX4_deliver_120 : decode cX4_deliver 120 = .ok (.if_icmp .ne 7, 3) := by decide +kernel
theorem dX4_deliver_123 : decode cX4_deliver 123 = .ok (.iconst 1, 1) := by decide +kernel
theorem dX4_deliver_124 : decode cX4_deliver 124 = .ok (.goto 4, 3) := by decide +kernel
theorem dX4_deliver_127 : decode cX4_deliver 127 = .ok (.iconst 0, 1) := by decide +kernel
theorem dX4_deliver_128 : decode cX4_deliver 128 = .ok (.istore 7, 2) := by decide +kernel
theorem dX4_deliver_130 : decode cX4_deliver 130 = .ok (.iload 7, 2) := by decide +kernel
theorem dX4_deliver_132 : decode cX4_deliver 132 = .ok (.ifCond .eq 26, 3) := by decide +kernel
theorem dX4_deliver_135 : decode cX4_deliver 135 = .ok (.aload_n 0, 1) := by decide +kernel
theorem dX4_deliver_136 : decode cX4_deliver 136 = .ok (.getfield 39, 3) := by decide +kernel
theorem dX4_deliver_139 : decode cX4_deliver 139 = .ok (.iload_n 3, 1) := by decide +kernel
theorem dX4_deliver_140 : decode cX4_deliver 140 = .ok (.aaload, 1) := by decide +kernel
theorem dX4_deliver_141 : decode cX4_deliver 141 = .ok (.iload 4, 2) := by decide +kernel
theorem dX4_deliver_143 : decode cX4_deliver 143 = .ok (.dup2, 1) := by decide +kernel
theorem dX4_deliver_144 : decode cX4_deliver 144 = .ok (.iaload, 1) := by decide +kernel
theorem dX4_deliver_145 : decode cX4_deliver 145 = .ok (.iconst 1, 1) := by decide +kernel
theorem dX4_deliver_146 : decode cX4_deliver 146 = .ok (.iadd, 1) := by decide +kernel
theorem dX4_deliver_147 : decode cX4_deliver 147 = .ok (.iastore, 1) := by decide +kernel
theorem dX4_deliver_148 : decode cX4_deliver 148 = .ok (.aload_n 0, 1) := by decide +kernel
theorem dX4_deliver_149 : decode cX4_deliver 149 = .ok (.iload_n 2, 1) := by decide +kernel
theorem dX4_deliver_150 : decode cX4_deliver 150 = .ok (.iload_n 3, 1) := by decide +kernel
theorem dX4_deliver_151 : decode cX4_deliver 151 = .ok (.iload 4, 2) := by decide +kernel
theorem dX4_deliver_153 : decode cX4_deliver 153 = .ok (.iload 6, 2) := by decide +kernel
theorem dX4_deliver_155 : decode cX4_deliver 155 = .ok (.invokevirtual 218, 3) := by decide +kernel
theorem dX4_deliver_158 : decode cX4_deliver 158 = .ok (.aload_n 0, 1) := by decide +kernel
theorem dX4_deliver_159 : decode cX4_deliver 159 = .ok (.getfield 31, 3) := by decide +kernel
theorem dX4_deliver_162 : decode cX4_deliver 162 = .ok (.iconst 2, 1) := by decide +kernel
theorem dX4_deliver_163 : decode cX4_deliver 163 = .ok (.iload 4, 2) := by decide +kernel
theorem dX4_deliver_165 : decode cX4_deliver 165 = .ok (.iload_n 3, 1) := by decide +kernel
theorem dX4_deliver_166 : decode cX4_deliver 166 = .ok (.iload 5, 2) := by decide +kernel
theorem dX4_deliver_168 : decode cX4_deliver 168 = .ok (.iconst 0, 1) := by decide +kernel
theorem dX4_deliver_169 : decode cX4_deliver 169 = .ok (.invokevirtual 222, 3) := by decide +kernel
theorem dX4_deliver_172 : decode cX4_deliver 172 = .ok (.iload 7, 2) := by decide +kernel
theorem dX4_deliver_174 : decode cX4_deliver 174 = .ok (.ifCond .eq 7, 3) := by decide +kernel
theorem dX4_deliver_177 : decode cX4_deliver 177 = .ok (.iconst 1, 1) := by decide +kernel
theorem dX4_deliver_178 : decode cX4_deliver 178 = .ok (.goto 4, 3) := by decide +kernel
theorem dX4_deliver_181 : decode cX4_deliver 181 = .ok (.iconst 2, 1) := by decide +kernel
theorem dX4_deliver_182 : decode cX4_deliver 182 = .ok (.ireturn, 1) := by decide +kernel
set_option maxRecDepth 20000 in
theorem ggX4_lose_X4_isCopy : GoodIn wsX4_lose wsX4_isCopy := goodIn_r _ [7, 8, 1, 2, 26, 27, 28, 29, 30, 31, 32, 33, 34, 35, 36, 37, 38, 39, 40, 41] rfl (by decide +kernel)
set_option maxRecDepth 20000 in
theorem gX4_lose_X4_isCopy : GoodIn wsX4_lose (wsV RX4 190 RX4 yX4_isCopy wsX4_isCopy) := goodIn_app (goodIn_of _ (by decide +kernel)) ggX4_lose_X4_isCopy
set_option maxRecDepth 20000 in
theorem ggX4_lose_X1_remove : GoodIn wsX4_lose wsX1_remove := goodIn_r _ [13, 14, 15, 16, 17, 18, 19, 20, 6, 21, 22, 23, 24, 25, 36, 37, 38, 39, 40, 41] rfl (by decide +kernel)
set_option maxRecDepth 20000 in
theorem gX4_lose_X1_remove : GoodIn wsX4_lose (wsV RX4 208 RX1 yX1_remove wsX1_remove) := goodIn_app (goodIn_of _ (by decide +kernel)) ggX4_lose_X1_remove
theorem dX4_lose_0 : decode cX4_lose 0 = .ok (.aload_n 0, 1) := by decide +kernel
theorem dX4_lose_1 : decode cX4_lose 1 = .ok (.iload_n 1, 1) := by decide +kernel
theorem dX4_lose_2 : decode cX4_lose 2 = .ok (.invokevirtual 190, 3) := by decide +kernel
theorem dX4_lose_5 : decode cX4_lose 5 = .ok (.ifCond .ne 5, 3) := by decide +kernel
theorem dX4_lose_8 : decode cX4_lose 8 = .ok (.iconst (-1), 1) := by decide +kernel
theorem dX4_lose_9 : decode cX4_lose 9 = .ok (.ireturn, 1) := by decide +kernel
theorem dX4_lose_10 : decode cX4_lose 10 = .ok (.aload_n 0, 1) := by decide +kernel
theorem dX4_lose_11 : decode cX4_lose 11 = .ok (.getfield 31, 3) := by decide +kernel
theorem dX4_lose_14 : decode cX4_lose 14 = .ok (.iload_n 1, 1) := by decide +kernel
theorem dX4_lose_15 : decode cX4_lose 15 = .ok (.invokevirtual 208, 3) := by decide +kernel
theorem dX4_lose_18 : decode cX4_lose 18 = .ok (.aload_n 0, 1) := by decide +kernel
theorem dX4_lose_19 : decode cX4_lose 19 = .ok (.getfield 31, 3) := by decide +kernel
theorem dX4_lose_22 : decode cX4_lose 22 = .ok (.getfield 94, 3) := by decide +kernel
theorem dX4_lose_25 : decode cX4_lose 25 = .ok (.ireturn, 1) := by decide +kernel
set_option maxRecDepth 20000 in
theorem ggX4_twin_X4_isCopy : GoodIn wsX4_twin wsX4_isCopy := goodIn_r _ [7, 8, 1, 2, 24, 25, 26, 27, 28, 29, 30, 31, 32, 33, 34, 35, 36, 37, 38, 39] rfl (by decide +kernel)
set_option maxRecDepth 20000 in
theorem gX4_twin_X4_isCopy : GoodIn wsX4_twin (wsV RX4 190 RX4 yX4_isCopy wsX4_isCopy) := goodIn_app (goodIn_of _ (by decide +kernel)) ggX4_twin_X4_isCopy
set_option maxRecDepth 20000 in
theorem ggX4_twin_X1_addCopy : GoodIn wsX4_twin wsX1_addCopy := goodIn_r _ [13, 14, 15, 16, 17, 18, 19, 20, 21, 12, 22, 23, 34, 35, 36, 37, 38, 39] rfl (by decide +kernel)
set_option maxRecDepth 20000 in
theorem gX4_twin_X1_addCopy : GoodIn wsX4_twin (wsV RX4 225 RX1 yX1_addCopy wsX1_addCopy) := goodIn_app (goodIn_of _ (by decide +kernel)) ggX4_twin_X1_addCopy
theorem dX4_twin_0 : decode cX4_twin 0 = .ok (.aload_n 0, 1) := by decide +kernel
theorem dX4_twin_1 : decode cX4_twin 1 = .ok (.iload_n 1, 1) := by decide +kernel
theorem dX4_twin_2 : decode cX4_twin 2 = .ok (.invokevirtual 190, 3) := by decide +kernel
theorem dX4_twin_5 : decode cX4_twin 5 = .ok (.ifCond .eq 15, 3) := by decide +kernel
theorem dX4_twin_8 : decode cX4_twin 8 = .ok (.aload_n 0, 1) := by decide +kernel
theorem dX4_twin_9 : decode cX4_twin 9 = .ok (.getfield 31, 3) := by decide +kernel
theorem dX4_twin_12 : decode cX4_twin 12 = .ok (.getfield 94, 3) := by decide +kernel
theorem dX4_twin_15 : decode cX4_twin 15 = .ok (.bipush 60, 2) := by decide +kernel
theorem dX4_twin_17 : decode cX4_twin 17 = .ok (.if_icmp .ne 5, 3) := by decide +kernel
theorem dX4_twin_20 : decode cX4_twin 20 = .ok (.iconst (-1), 1) := by decide +kernel
theorem dX4_twin_21 : decode cX4_twin 21 = .ok (.ireturn, 1) := by decide +kernel
theorem dX4_twin_22 : decode cX4_twin 22 = .ok (.aload_n 0, 1) := by decide +kernel
theorem dX4_twin_23 : decode cX4_twin 23 = .ok (.getfield 31, 3) := by decide +kernel
theorem dX4_twin_26 : decode cX4_twin 26 = .ok (.aload_n 0, 1) := by decide +kernel
theorem dX4_twin_27 : decode cX4_twin 27 = .ok (.getfield 31, 3) := by decide +kernel
theorem dX4_twin_30 : decode cX4_twin 30 = .ok (.iload_n 1, 1) := by decide +kernel
theorem dX4_twin_31 : decode cX4_twin 31 = .ok (.invokevirtual 225, 3) := by decide +kernel
theorem dX4_twin_34 : decode cX4_twin 34 = .ok (.aload_n 0, 1) := by decide +kernel
theorem dX4_twin_35 : decode cX4_twin 35 = .ok (.getfield 31, 3) := by decide +kernel
theorem dX4_twin_38 : decode cX4_twin 38 = .ok (.getfield 94, 3) := by decide +kernel
theorem dX4_twin_41 : decode cX4_twin 41 = .ok (.ireturn, 1) := by decide +kernel
set_option maxRecDepth 20000 in
theorem ggX4_resend_X4_isUp : GoodIn wsX4_resend wsX4_isUp := goodIn_r _ [9, 10, 11, 12, 13, 14, 8, 15, 16, 1, 17, 18, 19, 20, 21, 22, 47, 48, 49, 50, 51, 52, 53, 54, 55, 56, 66, 67, 68, 69, 70, 71, 72, 73, 74, 75, 76, 77, 57, 58, 59] rfl (by decide +kernel)
set_option maxRecDepth 20000 in
theorem gX4_resend_X4_isUp : GoodIn wsX4_resend (wsV RX4 108 RX4 yX4_isUp wsX4_isUp) := goodIn_app (goodIn_of _ (by decide +kernel)) ggX4_resend_X4_isUp
set_option maxRecDepth 20000 in
theorem ggX4_resend_X4_copyFirst : GoodIn wsX4_resend wsX4_copyFirst := goodIn_r _ [26, 27, 3, 28, 29, 30, 31, 32, 33, 34, 35, 36, 37, 38, 39, 40, 41, 42, 43, 44, 45, 46, 47, 48, 49, 50, 51, 52, 53, 54, 55, 56, 60, 61, 62, 63, 64, 65] rfl (by decide +kernel)
set_option maxRecDepth 20000 in
theorem gX4_resend_X4_copyFirst : GoodIn wsX4_resend (wsV RX4 231 RX4 yX4_copyFirst wsX4_copyFirst) := goodIn_app (goodIn_of _ (by decide +kernel)) ggX4_resend_X4_copyFirst
theorem dX4_resend_0 : decode cX4_resend 0 = .ok (.aload_n 0, 1) := by decide +kernel
theorem dX4_resend_1 : decode cX4_resend 1 = .ok (.iload_n 1, 1) := by decide +kernel
theorem dX4_resend_2 : decode cX4_resend 2 = .ok (.invokevirtual 108, 3) := by decide +kernel
theorem dX4_resend_5 : decode cX4_resend 5 = .ok (.ifCond .ne 5, 3) := by decide +kernel
theorem dX4_resend_8 : decode cX4_resend 8 = .ok (.iconst (-1), 1) := by decide +kernel
theorem dX4_resend_9 : decode cX4_resend 9 = .ok (.ireturn, 1) := by decide +kernel
theorem dX4_resend_10 : decode cX4_resend 10 = .ok (.iconst 0, 1) := by decide +kernel
theorem dX4_resend_11 : decode cX4_resend 11 = .ok (.istore_n 2, 1) := by decide +kernel
theorem dX4_resend_12 : decode cX4_resend 12 = .ok (.iload_n 2, 1) := by decide +kernel
theorem dX4_resend_13 : decode cX4_resend 13 = .ok (.aload_n 0, 1) := by decide +kernel
theorem dX4_resend_14 : decode cX4_resend 14 = .ok (.getfield 10, 3) := by decide +kernel
theorem dX4_resend_17 : decode cX4_resend 17 = .ok (.getfield 229, 3) := by decide +kernel
theorem dX4_resend_20 : decode cX4_resend 20 = .ok (.if_icmp .ge 15, 3) := by decide +kernel
theorem dX4_resend_23 : decode cX4_resend 23 = .ok (.aload_n 0, 1) := by decide +kernel
theorem dX4_resend_24 : decode cX4_resend 24 = .ok (.iload_n 1, 1) := by decide +kernel
theorem dX4_resend_25 : decode cX4_resend 25 = .ok (.iload_n 2, 1) := by decide +kernel
theorem dX4_resend_26 : decode cX4_resend 26 = .ok (.invokevirtual 231, 3) := by decide +kernel
theorem dX4_resend_29 : decode cX4_resend 29 = .ok (.iinc 2 1, 3) := by decide +kernel
theorem dX4_resend_32 : decode cX4_resend 32 = .ok (.goto (-20), 3) := by decide +kernel
theorem dX4_resend_35 : decode cX4_resend 35 = .ok (.aload_n 0, 1) := by decide +kernel
theorem dX4_resend_36 : decode cX4_resend 36 = .ok (.getfield 31, 3) := by decide +kernel
theorem dX4_resend_39 : decode cX4_resend 39 = .ok (.getfield 94, 3) := by decide +kernel
theorem dX4_resend_42 : decode cX4_resend 42 = .ok (.ireturn, 1) := by decide +kernel
set_option maxRecDepth 20000 in
theorem ggX4_crash_X4_isUp : GoodIn wsX4_crash wsX4_isUp := goodIn_r _ [8, 1, 3, 9, 10, 11, 7, 12, 13, 14, 15, 16, 17, 18, 19, 20, 28, 29, 30, 31, 32, 33, 34, 35, 36, 37, 38, 39, 40, 41, 42, 43, 44, 45, 46, 47, 48, 49, 50, 51, 52] rfl (by decide +kernel)
set_option maxRecDepth 20000 in
theorem gX4_crash_X4_isUp : GoodIn wsX4_crash (wsV RX4 108 RX4 yX4_isUp wsX4_isUp) := goodIn_app (goodIn_of _ (by decide +kernel)) ggX4_crash_X4_isUp
set_option maxRecDepth 20000 in
theorem ggX4_crash_X3_stopPumping : GoodIn wsX4_crash wsX3_stopPumping := goodIn_r _ [25, 26, 27, 38, 39, 40, 41, 42, 43, 44, 45, 46, 47, 48, 49] rfl (by decide +kernel)
set_option maxRecDepth 20000 in
theorem gX4_crash_X3_stopPumping : GoodIn wsX4_crash (wsV RX4 161 RX3 yX3_stopPumping wsX3_stopPumping) := goodIn_app (goodIn_of _ (by decide +kernel)) ggX4_crash_X3_stopPumping
theorem dX4_crash_0 : decode cX4_crash 0 = .ok (.aload_n 0, 1) := by decide +kernel
theorem dX4_crash_1 : decode cX4_crash 1 = .ok (.iload_n 1, 1) := by decide +kernel
theorem dX4_crash_2 : decode cX4_crash 2 = .ok (.invokevirtual 108, 3) := by decide +kernel
theorem dX4_crash_5 : decode cX4_crash 5 = .ok (.ifCond .ne 5, 3) := by decide +kernel
theorem dX4_crash_8 : decode cX4_crash 8 = .ok (.iconst (-1), 1) := by decide +kernel
theorem dX4_crash_9 : decode cX4_crash 9 = .ok (.ireturn, 1) := by decide +kernel
theorem dX4_crash_10 : decode cX4_crash 10 = .ok (.aload_n 0, 1) := by decide +kernel
theorem dX4_crash_11 : decode cX4_crash 11 = .ok (.getfield 18, 3) := by decide +kernel
theorem dX4_crash_14 : decode cX4_crash 14 = .ok (.iload_n 1, 1) := by decide +kernel
theorem dX4_crash_15 : decode cX4_crash 15 = .ok (.aaload, 1) := by decide +kernel
theorem dX4_crash_16 : decode cX4_crash 16 = .ok (.astore_n 2, 1) := by decide +kernel
theorem dX4_crash_17 : decode cX4_crash 17 = .ok (.aload_n 2, 1) := by decide +kernel
theorem dX4_crash_18 : decode cX4_crash 18 = .ok (.getfield 111, 3) := by decide +kernel
theorem dX4_crash_21 : decode cX4_crash 21 = .ok (.ifCond .eq 7, 3) := by decide +kernel
theorem dX4_crash_24 : decode cX4_crash 24 = .ok (.aload_n 2, 1) := by decide +kernel
theorem dX4_crash_25 : decode cX4_crash 25 = .ok (.invokevirtual 161, 3) := by decide +kernel
theorem dX4_crash_28 : decode cX4_crash 28 = .ok (.aload_n 2, 1) := by decide +kernel
theorem dX4_crash_29 : decode cX4_crash 29 = .ok (.iconst 1, 1) := by decide +kernel
theorem dX4_crash_30 : decode cX4_crash 30 = .ok (.putfield 211, 3) := by decide +kernel
theorem dX4_crash_33 : decode cX4_crash 33 = .ok (.iconst 0, 1) := by decide +kernel
theorem dX4_crash_34 : decode cX4_crash 34 = .ok (.ireturn, 1) := by decide +kernel
set_option maxRecDepth 20000 in
theorem ggX4_restart_X4_isStation : GoodIn wsX4_restart wsX4_isStation := goodIn_r _ [7, 8, 9, 10, 11, 12, 13, 14, 15, 16, 17, 18, 19, 20, 21, 22, 23, 24, 25, 38, 39, 40] rfl (by decide +kernel)
set_option maxRecDepth 20000 in
theorem gX4_restart_X4_isStation : GoodIn wsX4_restart (wsV RX4 158 RX4 yX4_isStation wsX4_isStation) := goodIn_app (goodIn_of _ (by decide +kernel)) ggX4_restart_X4_isStation
theorem dX4_restart_0 : decode cX4_restart 0 = .ok (.aload_n 0, 1) := by decide +kernel
theorem dX4_restart_1 : decode cX4_restart 1 = .ok (.iload_n 1, 1) := by decide +kernel
theorem dX4_restart_2 : decode cX4_restart 2 = .ok (.invokevirtual 158, 3) := by decide +kernel
theorem dX4_restart_5 : decode cX4_restart 5 = .ok (.ifCond .eq 15, 3) := by decide +kernel
theorem dX4_restart_8 : decode cX4_restart 8 = .ok (.aload_n 0, 1) := by decide +kernel
theorem dX4_restart_9 : decode cX4_restart 9 = .ok (.getfield 18, 3) := by decide +kernel
theorem dX4_restart_12 : decode cX4_restart 12 = .ok (.iload_n 1, 1) := by decide +kernel
theorem dX4_restart_13 : decode cX4_restart 13 = .ok (.aaload, 1) := by decide +kernel
theorem dX4_restart_14 : decode cX4_restart 14 = .ok (.getfield 211, 3) := by decide +kernel
theorem dX4_restart_17 : decode cX4_restart 17 = .ok (.ifCond .ne 5, 3) := by decide +kernel
theorem dX4_restart_20 : decode cX4_restart 20 = .ok (.iconst (-1), 1) := by decide +kernel
theorem dX4_restart_21 : decode cX4_restart 21 = .ok (.ireturn, 1) := by decide +kernel
theorem dX4_restart_22 : decode cX4_restart 22 = .ok (.aload_n 0, 1) := by decide +kernel
theorem dX4_restart_23 : decode cX4_restart 23 = .ok (.getfield 18, 3) := by decide +kernel
theorem dX4_restart_26 : decode cX4_restart 26 = .ok (.iload_n 1, 1) := by decide +kernel
theorem dX4_restart_27 : decode cX4_restart 27 = .ok (.aaload, 1) := by decide +kernel
theorem dX4_restart_28 : decode cX4_restart 28 = .ok (.iconst 0, 1) := by decide +kernel
theorem dX4_restart_29 : decode cX4_restart 29 = .ok (.putfield 211, 3) := by decide +kernel
theorem dX4_restart_32 : decode cX4_restart 32 = .ok (.iconst 0, 1) := by decide +kernel
theorem dX4_restart_33 : decode cX4_restart 33 = .ok (.ireturn, 1) := by decide +kernel
set_option maxRecDepth 20000 in
theorem ggX4_cut_X4_isStation : GoodIn wsX4_cut wsX4_isStation := goodIn_r _ [10, 11, 1, 12, 13, 14, 15, 16, 17, 55, 56, 57, 58, 59, 60, 61, 62, 63, 64, 77, 78, 79] rfl (by decide +kernel)
set_option maxRecDepth 20000 in
theorem gX4_cut_X4_isStation : GoodIn wsX4_cut (wsV RX4 158 RX4 yX4_isStation wsX4_isStation) := goodIn_app (goodIn_of _ (by decide +kernel)) ggX4_cut_X4_isStation
set_option maxRecDepth 20000 in
theorem ggX4_cut_X0_linked : GoodIn wsX4_cut wsX0_linked := goodIn_r _ [21, 22, 23, 9, 24, 77, 78, 79] rfl (by decide +kernel)
set_option maxRecDepth 20000 in
theorem gX4_cut_X0_linked : GoodIn wsX4_cut (wsV RX4 234 RX0 yX0_linked wsX0_linked) := goodIn_app (goodIn_of _ (by decide +kernel)) ggX4_cut_X0_linked
set_option maxRecDepth 20000 in
theorem ggX4_cut_X1_hasBetween : GoodIn wsX4_cut wsX1_hasBetween := goodIn_r _ [29, 30, 31, 32, 28, 33, 34, 35, 36, 80, 81, 82, 83, 84, 85] rfl (by decide +kernel)
set_option maxRecDepth 20000 in
theorem gX4_cut_X1_hasBetween : GoodIn wsX4_cut (wsV RX4 237 RX1 yX1_hasBetween wsX1_hasBetween) := goodIn_app (goodIn_of _ (by decide +kernel)) ggX4_cut_X1_hasBetween
set_option maxRecDepth 20000 in
theorem ggX4_cut_X2_placeOf : GoodIn wsX4_cut wsX2_placeOf := goodIn_r _ [41, 42, 43, 86, 87, 88] rfl (by decide +kernel)
set_option maxRecDepth 20000 in
theorem gX4_cut_X2_placeOf : GoodIn wsX4_cut (wsV RX4 240 RX2 yX2_placeOf wsX2_placeOf) := goodIn_app (goodIn_of _ (by decide +kernel)) ggX4_cut_X2_placeOf
set_option maxRecDepth 20000 in
theorem ggX4_cut_X0_untie : GoodIn wsX4_cut wsX0_untie := goodIn_r _ [47, 22, 48, 77, 78, 79] rfl (by decide +kernel)
set_option maxRecDepth 20000 in
theorem gX4_cut_X0_untie : GoodIn wsX4_cut (wsV RX4 243 RX0 yX0_untie wsX0_untie) := goodIn_app (goodIn_of _ (by decide +kernel)) ggX4_cut_X0_untie
set_option maxRecDepth 20000 in
theorem ggX4_cut_X3_forget : GoodIn wsX4_cut wsX3_forget := goodIn_r _ [53, 54, 65, 66, 67, 68, 69, 70, 71, 72, 73, 74, 75, 76] rfl (by decide +kernel)
set_option maxRecDepth 20000 in
theorem gX4_cut_X3_forget : GoodIn wsX4_cut (wsV RX4 246 RX3 yX3_forget wsX3_forget) := goodIn_app (goodIn_of _ (by decide +kernel)) ggX4_cut_X3_forget
theorem dX4_cut_0 : decode cX4_cut 0 = .ok (.aload_n 0, 1) := by decide +kernel
theorem dX4_cut_1 : decode cX4_cut 1 = .ok (.iload_n 1, 1) := by decide +kernel
theorem dX4_cut_2 : decode cX4_cut 2 = .ok (.invokevirtual 158, 3) := by decide +kernel
theorem dX4_cut_5 : decode cX4_cut 5 = .ok (.ifCond .eq 23, 3) := by decide +kernel
theorem dX4_cut_8 : decode cX4_cut 8 = .ok (.aload_n 0, 1) := by decide +kernel
theorem dX4_cut_9 : decode cX4_cut 9 = .ok (.iload_n 2, 1) := by decide +kernel
theorem dX4_cut_10 : decode cX4_cut 10 = .ok (.invokevirtual 158, 3) := by decide +kernel
theorem dX4_cut_13 : decode cX4_cut 13 = .ok (.ifCond .eq 15, 3) := by decide +kernel
theorem dX4_cut_16 : decode cX4_cut 16 = .ok (.aload_n 0, 1) := by decide +kernel
theorem dX4_cut_17 : decode cX4_cut 17 = .ok (.getfield 10, 3) := by decide +kernel
theorem dX4_cut_20 : decode cX4_cut 20 = .ok (.iload_n 1, 1) := by decide +kernel
theorem dX4_cut_21 : decode cX4_cut 21 = .ok (.iload_n 2, 1) := by decide +kernel
theorem dX4_cut_22 : decode cX4_cut 22 = .ok (.invokevirtual 234, 3) := by decide +kernel
theorem dX4_cut_25 : decode cX4_cut 25 = .ok (.ifCond .ne 5, 3) := by decide +kernel
theorem dX4_cut_28 : decode cX4_cut 28 = .ok (.iconst (-1), 1) := by decide +kernel
theorem dX4_cut_29 : decode cX4_cut 29 = .ok (.ireturn, 1) := by decide +kernel
theorem dX4_cut_30 : decode cX4_cut 30 = .ok (.aload_n 0, 1) := by decide +kernel
theorem dX4_cut_31 : decode cX4_cut 31 = .ok (.getfield 27, 3) := by decide +kernel
theorem dX4_cut_34 : decode cX4_cut 34 = .ok (.iload_n 1, 1) := by decide +kernel
theorem dX4_cut_35 : decode cX4_cut 35 = .ok (.iload_n 2, 1) := by decide +kernel
theorem dX4_cut_36 : decode cX4_cut 36 = .ok (.invokevirtual 237, 3) := by decide +kernel
theorem dX4_cut_39 : decode cX4_cut 39 = .ok (.ifCond .ne 15, 3) := by decide +kernel
theorem dX4_cut_42 : decode cX4_cut 42 = .ok (.aload_n 0, 1) := by decide +kernel
theorem dX4_cut_43 : decode cX4_cut 43 = .ok (.getfield 31, 3) := by decide +kernel
theorem dX4_cut_46 : decode cX4_cut 46 = .ok (.iload_n 1, 1) := by decide +kernel
theorem dX4_cut_47 : decode cX4_cut 47 = .ok (.iload_n 2, 1) := by decide +kernel
theorem dX4_cut_48 : decode cX4_cut 48 = .ok (.invokevirtual 237, 3) := by decide +kernel
theorem dX4_cut_51 : decode cX4_cut 51 = .ok (.ifCond .eq 6, 3) := by decide +kernel
theorem dX4_cut_54 : decode cX4_cut 54 = .ok (.bipush (-3), 2) := by decide +kernel
theorem dX4_cut_56 : decode cX4_cut 56 = .ok (.ireturn, 1) := by decide +kernel
theorem dX4_cut_57 : decode cX4_cut 57 = .ok (.aload_n 0, 1) := by decide +kernel
theorem dX4_cut_58 : decode cX4_cut 58 = .ok (.getfield 18, 3) := by decide +kernel
theorem dX4_cut_61 : decode cX4_cut 61 = .ok (.iload_n 1, 1) := by decide +kernel
theorem dX4_cut_62 : decode cX4_cut 62 = .ok (.aaload, 1) := by decide +kernel
theorem dX4_cut_63 : decode cX4_cut 63 = .ok (.getfield 118, 3) := by decide +kernel
theorem dX4_cut_66 : decode cX4_cut 66 = .ok (.iload_n 2, 1) := by decide +kernel
theorem dX4_cut_67 : decode cX4_cut 67 = .ok (.invokevirtual 240, 3) := by decide +kernel
theorem dX4_cut_70 : decode cX4_cut 70 = .ok (.bipush (-2), 2) := by decide +kernel
theorem dX4_cut_72 : decode cX4_cut 72 = .ok (.if_icmp .ne 21, 3) := by decide +kernel
theorem dX4_cut_75 : decode cX4_cut 75 = .ok (.aload_n 0, 1) := by decide +kernel
theorem dX4_cut_76 : decode cX4_cut 76 = .ok (.getfield 18, 3) := by decide +kernel
theorem dX4_cut_79 : decode cX4_cut 79 = .ok (.iload_n 2, 1) := by decide +kernel
theorem dX4_cut_80 : decode cX4_cut 80 = .ok (.aaload, 1) := by decide +kernel
theorem dX4_cut_81 : decode cX4_cut 81 = .ok (.getfield 118, 3) := by decide +kernel
theorem dX4_cut_84 : decode cX4_cut 84 = .ok (.iload_n 1, 1) := by decide +kernel
theorem dX4_cut_85 : decode cX4_cut 85 = .ok (.invokevirtual 240, 3) := by decide +kernel
theorem dX4_cut_88 : decode cX4_cut 88 = .ok (.bipush (-2), 2) := by decide +kernel
theorem dX4_cut_90 : decode cX4_cut 90 = .ok (.if_icmp .eq 6, 3) := by decide +kernel
theorem dX4_cut_93 : decode cX4_cut 93 = .ok (.bipush (-4), 2) := by decide +kernel
theorem dX4_cut_95 : decode cX4_cut 95 = .ok (.ireturn, 1) := by decide +kernel
theorem dX4_cut_96 : decode cX4_cut 96 = .ok (.aload_n 0, 1) := by decide +kernel
theorem dX4_cut_97 : decode cX4_cut 97 = .ok (.getfield 10, 3) := by decide +kernel
theorem dX4_cut_100 : decode cX4_cut 100 = .ok (.iload_n 1, 1) := by decide +kernel
theorem dX4_cut_101 : decode cX4_cut 101 = .ok (.iload_n 2, 1) := by decide +kernel
theorem dX4_cut_102 : decode cX4_cut 102 = .ok (.invokevirtual 243, 3) := by decide +kernel
theorem dX4_cut_105 : decode cX4_cut 105 = .ok (.aload_n 0, 1) := by decide +kernel
theorem dX4_cut_106 : decode cX4_cut 106 = .ok (.getfield 18, 3) := by decide +kernel
theorem dX4_cut_109 : decode cX4_cut 109 = .ok (.iload_n 1, 1) := by decide +kernel
theorem dX4_cut_110 : decode cX4_cut 110 = .ok (.aaload, 1) := by decide +kernel
theorem dX4_cut_111 : decode cX4_cut 111 = .ok (.iload_n 2, 1) := by decide +kernel
theorem dX4_cut_112 : decode cX4_cut 112 = .ok (.invokevirtual 246, 3) := by decide +kernel
theorem dX4_cut_115 : decode cX4_cut 115 = .ok (.aload_n 0, 1) := by decide +kernel
theorem dX4_cut_116 : decode cX4_cut 116 = .ok (.getfield 18, 3) := by decide +kernel
theorem dX4_cut_119 : decode cX4_cut 119 = .ok (.iload_n 2, 1) := by decide +kernel
theorem dX4_cut_120 : decode cX4_cut 120 = .ok (.aaload, 1) := by decide +kernel
theorem dX4_cut_121 : decode cX4_cut 121 = .ok (.iload_n 1, 1) := by decide +kernel
theorem dX4_cut_122 : decode cX4_cut 122 = .ok (.invokevirtual 246, 3) := by decide +kernel
theorem dX4_cut_125 : decode cX4_cut 125 = .ok (.iconst 0, 1) := by decide +kernel
theorem dX4_cut_126 : decode cX4_cut 126 = .ok (.ireturn, 1) := by decide +kernel
set_option maxRecDepth 20000 in
theorem ggX4_join_X4_isStation : GoodIn wsX4_join wsX4_isStation := goodIn_r _ [6, 7, 1, 8, 9, 10, 11, 12, 13, 70, 71, 72, 73, 74, 75, 76, 77, 78, 79, 80, 81, 82] rfl (by decide +kernel)
set_option maxRecDepth 20000 in
theorem gX4_join_X4_isStation : GoodIn wsX4_join (wsV RX4 158 RX4 yX4_isStation wsX4_isStation) := goodIn_app (goodIn_of _ (by decide +kernel)) ggX4_join_X4_isStation
set_option maxRecDepth 20000 in
theorem ggX4_join_X0_partOf : GoodIn wsX4_join wsX0_partOf := goodIn_r _ [17, 13, 18, 19, 5, 20, 80, 81, 82] rfl (by decide +kernel)
set_option maxRecDepth 20000 in
theorem gX4_join_X0_partOf : GoodIn wsX4_join (wsV RX4 66 RX0 yX0_partOf wsX0_partOf) := goodIn_app (goodIn_of _ (by decide +kernel)) ggX4_join_X0_partOf
set_option maxRecDepth 20000 in
theorem ggX4_join_X4_placeOfRight : GoodIn wsX4_join wsX4_placeOfRight := goodIn_r _ [24, 25, 26, 27, 28, 29, 30, 31, 32, 33, 34, 5, 35, 1, 36, 37, 38, 39, 40, 41, 42, 43, 44, 70, 71, 72, 73, 74, 75, 76, 77, 78, 79, 83, 84, 85, 86, 87, 88, 80, 81, 82, 89, 90, 91, 92, 93, 94, 95, 96, 97, 98, 99, 100] rfl (by decide +kernel)
set_option maxRecDepth 20000 in
theorem gX4_join_X4_placeOfRight : GoodIn wsX4_join (wsV RX4 249 RX4 yX4_placeOfRight wsX4_placeOfRight) := goodIn_app (goodIn_of _ (by decide +kernel)) ggX4_join_X4_placeOfRight
set_option maxRecDepth 20000 in
theorem ggX4_join_X4_contains : GoodIn wsX4_join wsX4_contains := goodIn_r _ [20] rfl (by decide +kernel)
set_option maxRecDepth 20000 in
theorem gX4_join_X4_contains : GoodIn wsX4_join (va_wsS RX4 69 yX4_contains wsX4_contains) := goodIn_app (goodIn_of _ (by decide +kernel)) ggX4_join_X4_contains
set_option maxRecDepth 20000 in
theorem ggX4_join_X4_hang : GoodIn wsX4_join wsX4_hang := goodIn_r _ [49, 1, 50, 30, 51, 52, 53, 5, 54, 36, 37, 55, 56, 57, 58, 59, 41, 60, 43, 44, 61, 62, 63, 64, 65, 66, 67, 11, 68, 18, 69, 70, 71, 72, 73, 74, 75, 76, 77, 78, 79, 80, 81, 82, 89, 90, 91, 92, 93, 94, 95, 96, 97, 98, 99, 100] rfl (by decide +kernel)
set_option maxRecDepth 20000 in
theorem gX4_join_X4_hang : GoodIn wsX4_join (wsV RX4 252 RX4 yX4_hang wsX4_hang) := goodIn_app (goodIn_of _ (by decide +kernel)) ggX4_join_X4_hang
theorem dX4_join_0 : decode cX4_join 0 = .ok (.aload_n 0, 1) := by decide +kernel
theorem dX4_join_1 : decode cX4_join 1 = .ok (.iload_n 1, 1) := by decide +kernel
theorem dX4_join_2 : decode cX4_join 2 = .ok (.invokevirtual 158, 3) := by decide +kernel
theorem dX4_join_5 : decode cX4_join 5 = .ok (.ifCond .eq 11, 3) := by decide +kernel
theorem dX4_join_8 : decode cX4_join 8 = .ok (.aload_n 0, 1) := by decide +kernel
theorem dX4_join_9 : decode cX4_join 9 = .ok (.iload_n 2, 1) := by decide +kernel
theorem dX4_join_10 : decode cX4_join 10 = .ok (.invokevirtual 158, 3) := by decide +kernel
theorem dX4_join_13 : decode cX4_join 13 = .ok (.ifCond .ne 5, 3) := by decide +kernel
theorem dX4_join_16 : decode cX4_join 16 = .ok (.iconst (-1), 1) := by decide +kernel
theorem dX4_join_17 : decode cX4_join 17 = .ok (.ireturn, 1) := by decide +kernel
theorem dX4_join_18 : decode cX4_join 18 = .ok (.aload_n 0, 1) := by decide +kernel
theorem dX4_join_19 : decode cX4_join 19 = .ok (.getfield 10, 3) := by decide +kernel
theorem dX4_join_22 : decode cX4_join 22 = .ok (.iload_n 1, 1) := by decide +kernel
theorem dX4_join_23 : decode cX4_join 23 = .ok (.invokevirtual 66, 3) := by decide +kernel
theorem dX4_join_26 : decode cX4_join 26 = .ok (.istore_n 3, 1) := by decide +kernel
theorem dX4_join_27 : decode cX4_join 27 = .ok (.aload_n 0, 1) := by decide +kernel
theorem dX4_join_28 : decode cX4_join 28 = .ok (.invokevirtual 249, 3) := by decide +kernel
theorem dX4_join_31 : decode cX4_join 31 = .ok (.istore 4, 2) := by decide +kernel
theorem dX4_join_33 : decode cX4_join 33 = .ok (.iload_n 3, 1) := by decide +kernel
theorem dX4_join_34 : decode cX4_join 34 = .ok (.iload_n 2, 1) := by decide +kernel
theorem dX4_join_35 : decode cX4_join 35 = .ok (.invokestatic 69, 3) := by decide +kernel
theorem dX4_join_38 : decode cX4_join 38 = .ok (.ifCond .ne 10, 3) := by decide +kernel
theorem dX4_join_41 : decode cX4_join 41 = .ok (.iload 4, 2) := by decide +kernel
theorem dX4_join_43 : decode cX4_join 43 = .ok (.bipush (-2), 2) := by decide +kernel
theorem dX4_join_45 : decode cX4_join 45 = .ok (.if_icmp .ne 5, 3) := by decide +kernel
theorem dX4_join_48 : decode cX4_join 48 = .ok (.iconst (-1), 1) := by decide +kernel
theorem dX4_join_49 : decode cX4_join 49 = .ok (.ireturn, 1) := by decide +kernel
theorem dX4_join_50 : decode cX4_join 50 = .ok (.iload_n 3, 1) := by decide +kernel
theorem dX4_join_51 : decode cX4_join 51 = .ok (.iload 4, 2) := by decide +kernel
theorem dX4_join_53 : decode cX4_join 53 = .ok (.invokestatic 69, 3) := by decide +kernel
theorem dX4_join_56 : decode cX4_join 56 = .ok (.ifCond .eq 10, 3) := by decide +kernel
theorem dX4_join_59 : decode cX4_join 59 = .ok (.aload_n 0, 1) := by decide +kernel
theorem dX4_join_60 : decode cX4_join 60 = .ok (.iload_n 2, 1) := by decide +kernel
theorem dX4_join_61 : decode cX4_join 61 = .ok (.iload_n 1, 1) := by decide +kernel
theorem dX4_join_62 : decode cX4_join 62 = .ok (.invokevirtual 252, 3) := by decide +kernel
theorem dX4_join_65 : decode cX4_join 65 = .ok (.ireturn, 1) := by decide +kernel
theorem dX4_join_66 : decode cX4_join 66 = .ok (.aload_n 0, 1) := by decide +kernel
theorem dX4_join_67 : decode cX4_join 67 = .ok (.getfield 10, 3) := by decide +kernel
theorem dX4_join_70 : decode cX4_join 70 = .ok (.iload_n 2, 1) := by decide +kernel
theorem dX4_join_71 : decode cX4_join 71 = .ok (.invokevirtual 66, 3) := by decide +kernel
theorem dX4_join_74 : decode cX4_join 74 = .ok (.iload 4, 2) := by decide +kernel
theorem dX4_join_76 : decode cX4_join 76 = .ok (.invokestatic 69, 3) := by decide +kernel
theorem dX4_join_79 : decode cX4_join 79 = .ok (.ifCond .eq 10, 3) := by decide +kernel
theorem dX4_join_82 : decode cX4_join 82 = .ok (.aload_n 0, 1) := by decide +kernel
theorem dX4_join_83 : decode cX4_join 83 = .ok (.iload_n 1, 1) := by decide +kernel
theorem dX4_join_84 : decode cX4_join 84 = .ok (.iload_n 2, 1) := by decide +kernel
theorem dX4_join_85 : decode cX4_join 85 = .ok (.invokevirtual 252, 3) := by decide +kernel
theorem dX4_join_88 : decode cX4_join 88 = .ok (.ireturn, 1) := by decide +kernel
theorem dX4_join_89 : decode cX4_join 89 = .ok (.iconst (-1), 1) := by decide +kernel
theorem dX4_join_90 : decode cX4_join 90 = .ok (.ireturn, 1) := by decide +kernel
set_option maxRecDepth 20000 in
theorem ggX4_holder_X4_whoHolds : GoodIn wsX4_holder wsX4_whoHolds := goodIn_r _ [6, 7, 8, 9, 10, 11, 12, 13, 14, 15, 16, 17, 18, 19, 20, 21, 22, 23, 24, 25, 26, 27, 28, 29, 30, 31, 32, 33, 34, 35, 36, 37, 38, 39, 40, 41] rfl (by decide +kernel)
set_option maxRecDepth 20000 in
theorem gX4_holder_X4_whoHolds : GoodIn wsX4_holder (wsV RX4 255 RX4 yX4_whoHolds wsX4_whoHolds) := goodIn_app (goodIn_of _ (by decide +kernel)) ggX4_holder_X4_whoHolds
theorem dX4_holder_0 : decode cX4_holder 0 = .ok (.aload_n 0, 1) := by decide +kernel
theorem dX4_holder_1 : decode cX4_holder 1 = .ok (.getfield 55, 3) := by decide +kernel
theorem dX4_holder_4 : decode cX4_holder 4 = .ok (.ifCond .eq 10, 3) := by decide +kernel
theorem dX4_holder_7 : decode cX4_holder 7 = .ok (.aload_n 0, 1) := by decide +kernel
theorem dX4_holder_8 : decode cX4_holder 8 = .ok (.invokevirtual 255, 3) := by decide +kernel
theorem dX4_holder_11 : decode cX4_holder 11 = .ok (.goto 4, 3) := by decide +kernel
theorem dX4_holder_14 : decode cX4_holder 14 = .ok (.iconst (-1), 1) := by decide +kernel
theorem dX4_holder_15 : decode cX4_holder 15 = .ok (.ireturn, 1) := by decide +kernel
set_option maxRecDepth 20000 in
theorem ggX4_pointer_X4_isStation : GoodIn wsX4_pointer wsX4_isStation := goodIn_r _ [7, 8, 9, 10, 11, 12, 13, 14, 15, 16, 17, 18, 19, 20, 21, 22, 23, 24, 25, 38, 39, 40] rfl (by decide +kernel)
set_option maxRecDepth 20000 in
theorem gX4_pointer_X4_isStation : GoodIn wsX4_pointer (wsV RX4 158 RX4 yX4_isStation wsX4_isStation) := goodIn_app (goodIn_of _ (by decide +kernel)) ggX4_pointer_X4_isStation
theorem dX4_pointer_0 : decode cX4_pointer 0 = .ok (.aload_n 0, 1) := by decide +kernel
theorem dX4_pointer_1 : decode cX4_pointer 1 = .ok (.iload_n 1, 1) := by decide +kernel
theorem dX4_pointer_2 : decode cX4_pointer 2 = .ok (.invokevirtual 158, 3) := by decide +kernel
theorem dX4_pointer_5 : decode cX4_pointer 5 = .ok (.ifCond .eq 15, 3) := by decide +kernel
theorem dX4_pointer_8 : decode cX4_pointer 8 = .ok (.aload_n 0, 1) := by decide +kernel
theorem dX4_pointer_9 : decode cX4_pointer 9 = .ok (.getfield 18, 3) := by decide +kernel
theorem dX4_pointer_12 : decode cX4_pointer 12 = .ok (.iload_n 1, 1) := by decide +kernel
theorem dX4_pointer_13 : decode cX4_pointer 13 = .ok (.aaload, 1) := by decide +kernel
theorem dX4_pointer_14 : decode cX4_pointer 14 = .ok (.getfield 258, 3) := by decide +kernel
theorem dX4_pointer_17 : decode cX4_pointer 17 = .ok (.goto 4, 3) := by decide +kernel
theorem dX4_pointer_20 : decode cX4_pointer 20 = .ok (.iconst (-1), 1) := by decide +kernel
theorem dX4_pointer_21 : decode cX4_pointer 21 = .ok (.ireturn, 1) := by decide +kernel
set_option maxRecDepth 20000 in
theorem ggX4_queue_X4_isStation : GoodIn wsX4_queue wsX4_isStation := goodIn_r _ [10, 11, 12, 13, 14, 15, 16, 17, 18, 19, 20, 21, 22, 23, 24, 25, 26, 27, 28, 44, 45, 46] rfl (by decide +kernel)
set_option maxRecDepth 20000 in
theorem gX4_queue_X4_isStation : GoodIn wsX4_queue (wsV RX4 158 RX4 yX4_isStation wsX4_isStation) := goodIn_app (goodIn_of _ (by decide +kernel)) ggX4_queue_X4_isStation
theorem dX4_queue_0 : decode cX4_queue 0 = .ok (.aload_n 0, 1) := by decide +kernel
theorem dX4_queue_1 : decode cX4_queue 1 = .ok (.iload_n 1, 1) := by decide +kernel
theorem dX4_queue_2 : decode cX4_queue 2 = .ok (.invokevirtual 158, 3) := by decide +kernel
theorem dX4_queue_5 : decode cX4_queue 5 = .ok (.ifCond .eq 23, 3) := by decide +kernel
theorem dX4_queue_8 : decode cX4_queue 8 = .ok (.iload_n 2, 1) := by decide +kernel
theorem dX4_queue_9 : decode cX4_queue 9 = .ok (.ifCond .lt 19, 3) := by decide +kernel
theorem dX4_queue_12 : decode cX4_queue 12 = .ok (.iload_n 2, 1) := by decide +kernel
theorem dX4_queue_13 : decode cX4_queue 13 = .ok (.aload_n 0, 1) := by decide +kernel
theorem dX4_queue_14 : decode cX4_queue 14 = .ok (.getfield 18, 3) := by decide +kernel
theorem dX4_queue_17 : decode cX4_queue 17 = .ok (.iload_n 1, 1) := by decide +kernel
theorem dX4_queue_18 : decode cX4_queue 18 = .ok (.aaload, 1) := by decide +kernel
theorem dX4_queue_19 : decode cX4_queue 19 = .ok (.getfield 118, 3) := by decide +kernel
theorem dX4_queue_22 : decode cX4_queue 22 = .ok (.getfield 133, 3) := by decide +kernel
theorem dX4_queue_25 : decode cX4_queue 25 = .ok (.if_icmp .lt 5, 3) := by decide +kernel
theorem dX4_queue_28 : decode cX4_queue 28 = .ok (.iconst (-1), 1) := by decide +kernel
theorem dX4_queue_29 : decode cX4_queue 29 = .ok (.ireturn, 1) := by decide +kernel
theorem dX4_queue_30 : decode cX4_queue 30 = .ok (.iload_n 3, 1) := by decide +kernel
theorem dX4_queue_31 : decode cX4_queue 31 = .ok (.ifCond .eq 20, 3) := by decide +kernel
theorem dX4_queue_34 : decode cX4_queue 34 = .ok (.aload_n 0, 1) := by decide +kernel
theorem dX4_queue_35 : decode cX4_queue 35 = .ok (.getfield 18, 3) := by decide +kernel
theorem dX4_queue_38 : decode cX4_queue 38 = .ok (.iload_n 1, 1) := by decide +kernel
theorem dX4_queue_39 : decode cX4_queue 39 = .ok (.aaload, 1) := by decide +kernel
theorem dX4_queue_40 : decode cX4_queue 40 = .ok (.getfield 118, 3) := by decide +kernel
theorem dX4_queue_43 : decode cX4_queue 43 = .ok (.getfield 261, 3) := by decide +kernel
theorem dX4_queue_46 : decode cX4_queue 46 = .ok (.iload_n 2, 1) := by decide +kernel
theorem dX4_queue_47 : decode cX4_queue 47 = .ok (.iaload, 1) := by decide +kernel
theorem dX4_queue_48 : decode cX4_queue 48 = .ok (.goto 17, 3) := by decide +kernel
theorem dX4_queue_51 : decode cX4_queue 51 = .ok (.aload_n 0, 1) := by decide +kernel
theorem dX4_queue_52 : decode cX4_queue 52 = .ok (.getfield 18, 3) := by decide +kernel
theorem dX4_queue_55 : decode cX4_queue 55 = .ok (.iload_n 1, 1) := by decide +kernel
theorem dX4_queue_56 : decode cX4_queue 56 = .ok (.aaload, 1) := by decide +kernel
theorem dX4_queue_57 : decode cX4_queue 57 = .ok (.getfield 118, 3) := by decide +kernel
theorem dX4_queue_60 : decode cX4_queue 60 = .ok (.getfield 142, 3) := by decide +kernel
theorem dX4_queue_63 : decode cX4_queue 63 = .ok (.iload_n 2, 1) := by decide +kernel
theorem dX4_queue_64 : decode cX4_queue 64 = .ok (.iaload, 1) := by decide +kernel
theorem dX4_queue_65 : decode cX4_queue 65 = .ok (.ireturn, 1) := by decide +kernel
set_option maxRecDepth 20000 in
theorem ggX4_letter_X4_isCopy : GoodIn wsX4_letter wsX4_isCopy := goodIn_r _ [11, 12, 1, 13, 14, 15, 16, 17, 18, 19, 20, 21, 22, 23, 24, 25, 26, 27, 28, 29] rfl (by decide +kernel)
set_option maxRecDepth 20000 in
theorem gX4_letter_X4_isCopy : GoodIn wsX4_letter (wsV RX4 190 RX4 yX4_isCopy wsX4_isCopy) := goodIn_app (goodIn_of _ (by decide +kernel)) ggX4_letter_X4_isCopy
theorem dX4_letter_0 : decode cX4_letter 0 = .ok (.aload_n 0, 1) := by decide +kernel
theorem dX4_letter_1 : decode cX4_letter 1 = .ok (.iload_n 1, 1) := by decide +kernel
theorem dX4_letter_2 : decode cX4_letter 2 = .ok (.invokevirtual 190, 3) := by decide +kernel
theorem dX4_letter_5 : decode cX4_letter 5 = .ok (.ifCond .ne 5, 3) := by decide +kernel
theorem dX4_letter_8 : decode cX4_letter 8 = .ok (.iconst (-1), 1) := by decide +kernel
theorem dX4_letter_9 : decode cX4_letter 9 = .ok (.ireturn, 1) := by decide +kernel
theorem dX4_letter_10 : decode cX4_letter 10 = .ok (.iload_n 2, 1) := by decide +kernel
theorem dX4_letter_11 : decode cX4_letter 11 = .ok (.tableswitch 83 0 4 #[33, 43, 53, 63, 73], 33) := by decide +kernel
theorem dX4_letter_44 : decode cX4_letter 44 = .ok (.aload_n 0, 1) := by decide +kernel
theorem dX4_letter_45 : decode cX4_letter 45 = .ok (.getfield 31, 3) := by decide +kernel
theorem dX4_letter_48 : decode cX4_letter 48 = .ok (.getfield 193, 3) := by decide +kernel
theorem dX4_letter_51 : decode cX4_letter 51 = .ok (.iload_n 1, 1) := by decide +kernel
theorem dX4_letter_52 : decode cX4_letter 52 = .ok (.iaload, 1) := by decide +kernel
theorem dX4_letter_53 : decode cX4_letter 53 = .ok (.ireturn, 1) := by decide +kernel
theorem dX4_letter_54 : decode cX4_letter 54 = .ok (.aload_n 0, 1) := by decide +kernel
theorem dX4_letter_55 : decode cX4_letter 55 = .ok (.getfield 31, 3) := by decide +kernel
theorem dX4_letter_58 : decode cX4_letter 58 = .ok (.getfield 196, 3) := by decide +kernel
theorem dX4_letter_61 : decode cX4_letter 61 = .ok (.iload_n 1, 1) := by decide +kernel
theorem dX4_letter_62 : decode cX4_letter 62 = .ok (.iaload, 1) := by decide +kernel
theorem dX4_letter_63 : decode cX4_letter 63 = .ok (.ireturn, 1) := by decide +kernel
theorem dX4_letter_64 : decode cX4_letter 64 = .ok (.aload_n 0, 1) := by decide +kernel
theorem dX4_letter_65 : decode cX4_letter 65 = .ok (.getfield 31, 3) := by decide +kernel
theorem dX4_letter_68 : decode cX4_letter 68 = .ok (.getfield 199, 3) := by decide +kernel
theorem dX4_letter_71 : decode cX4_letter 71 = .ok (.iload_n 1, 1) := by decide +kernel
theorem dX4_letter_72 : decode cX4_letter 72 = .ok (.iaload, 1) := by decide +kernel
theorem dX4_letter_73 : decode cX4_letter 73 = .ok (.ireturn, 1) := by decide +kernel
theorem dX4_letter_74 : decode cX4_letter 74 = .ok (.aload_n 0, 1) := by decide +kernel
theorem dX4_letter_75 : decode cX4_letter 75 = .ok (.getfield 31, 3) := by decide +kernel
theorem dX4_letter_78 : decode cX4_letter 78 = .ok (.getfield 202, 3) := by decide +kernel
theorem dX4_letter_81 : decode cX4_letter 81 = .ok (.iload_n 1, 1) := by decide +kernel
theorem dX4_letter_82 : decode cX4_letter 82 = .ok (.iaload, 1) := by decide +kernel
theorem dX4_letter_83 : decode cX4_letter 83 = .ok (.ireturn, 1) := by decide +kernel
theorem dX4_letter_84 : decode cX4_letter 84 = .ok (.aload_n 0, 1) := by decide +kernel
theorem dX4_letter_85 : decode cX4_letter 85 = .ok (.getfield 31, 3) := by decide +kernel
theorem dX4_letter_88 : decode cX4_letter 88 = .ok (.getfield 205, 3) := by decide +kernel
theorem dX4_letter_91 : decode cX4_letter 91 = .ok (.iload_n 1, 1) := by decide +kernel
theorem dX4_letter_92 : decode cX4_letter 92 = .ok (.iaload, 1) := by decide +kernel
theorem dX4_letter_93 : decode cX4_letter 93 = .ok (.ireturn, 1) := by decide +kernel
theorem dX4_letter_94 : decode cX4_letter 94 = .ok (.iconst (-1), 1) := by decide +kernel
theorem dX4_letter_95 : decode cX4_letter 95 = .ok (.ireturn, 1) := by decide +kernel
set_option maxRecDepth 20000 in
theorem ggX4_told_X4_isStation : GoodIn wsX4_told wsX4_isStation := goodIn_r _ [17, 18, 12, 19, 20, 21, 22, 23, 24, 44, 45, 46, 47, 48, 49, 50, 51, 52, 53, 69, 70, 71] rfl (by decide +kernel)
set_option maxRecDepth 20000 in
theorem gX4_told_X4_isStation : GoodIn wsX4_told (wsV RX4 158 RX4 yX4_isStation wsX4_isStation) := goodIn_app (goodIn_of _ (by decide +kernel)) ggX4_told_X4_isStation
set_option maxRecDepth 20000 in
theorem ggX4_told_X1_sentBy : GoodIn wsX4_told wsX1_sentBy := goodIn_r _ [29, 30, 31, 72, 73, 74, 75, 76, 77] rfl (by decide +kernel)
set_option maxRecDepth 20000 in
theorem gX4_told_X1_sentBy : GoodIn wsX4_told (wsV RX4 262 RX1 yX1_sentBy wsX1_sentBy) := goodIn_app (goodIn_of _ (by decide +kernel)) ggX4_told_X1_sentBy
set_option maxRecDepth 20000 in
theorem ggX4_told_X0_neighboursOf : GoodIn wsX4_told wsX0_neighboursOf := goodIn_r _ [35, 36, 37, 38, 39, 40, 41, 42, 43, 69, 70, 71] rfl (by decide +kernel)
set_option maxRecDepth 20000 in
theorem gX4_told_X0_neighboursOf : GoodIn wsX4_told (wsV RX4 265 RX0 yX0_neighboursOf wsX0_neighboursOf) := goodIn_app (goodIn_of _ (by decide +kernel)) ggX4_told_X0_neighboursOf
theorem dX4_told_0 : decode cX4_told 0 = .ok (.aload_n 0, 1) := by decide +kernel
theorem dX4_told_1 : decode cX4_told 1 = .ok (.iload_n 1, 1) := by decide +kernel
theorem dX4_told_2 : decode cX4_told 2 = .ok (.invokevirtual 158, 3) := by decide +kernel
theorem dX4_told_5 : decode cX4_told 5 = .ok (.ifCond .ne 5, 3) := by decide +kernel
theorem dX4_told_8 : decode cX4_told 8 = .ok (.iconst (-1), 1) := by decide +kernel
theorem dX4_told_9 : decode cX4_told 9 = .ok (.ireturn, 1) := by decide +kernel
theorem dX4_told_10 : decode cX4_told 10 = .ok (.aload_n 0, 1) := by decide +kernel
theorem dX4_told_11 : decode cX4_told 11 = .ok (.getfield 18, 3) := by decide +kernel
theorem dX4_told_14 : decode cX4_told 14 = .ok (.iload_n 1, 1) := by decide +kernel
theorem dX4_told_15 : decode cX4_told 15 = .ok (.aaload, 1) := by decide +kernel
theorem dX4_told_16 : decode cX4_told 16 = .ok (.astore_n 3, 1) := by decide +kernel
theorem dX4_told_17 : decode cX4_told 17 = .ok (.iload_n 2, 1) := by decide +kernel
theorem dX4_told_18 : decode cX4_told 18 = .ok (.tableswitch 139 0 9 #[54, 67, 80, 93, 101, 106, 111, 116, 121, 130], 54) := by decide +kernel
theorem dX4_told_72 : decode cX4_told 72 = .ok (.aload_n 3, 1) := by decide +kernel
theorem dX4_told_73 : decode cX4_told 73 = .ok (.getfield 178, 3) := by decide +kernel
theorem dX4_told_76 : decode cX4_told 76 = .ok (.ifCond .eq 7, 3) := by decide +kernel
theorem dX4_told_79 : decode cX4_told 79 = .ok (.iconst 1, 1) := by decide +kernel
theorem dX4_told_80 : decode cX4_told 80 = .ok (.goto 4, 3) := by decide +kernel
theorem dX4_told_83 : decode cX4_told 83 = .ok (.iconst 0, 1) := by decide +kernel
theorem dX4_told_84 : decode cX4_told 84 = .ok (.ireturn, 1) := by decide +kernel
theorem dX4_told_85 : decode cX4_told 85 = .ok (.aload_n 3, 1) := by decide +kernel
theorem dX4_told_86 : decode cX4_told 86 = .ok (.getfield 111, 3) := by decide +kernel
theorem dX4_told_89 : decode cX4_told 89 = .ok (.ifCond .eq 7, 3) := by decide +kernel
theorem dX4_told_92 : decode cX4_told 92 = .ok (.iconst 1, 1) := by decide +kernel
theorem dX4_told_93 : decode cX4_told 93 = .ok (.goto 4, 3) := by decide +kernel
theorem dX4_told_96 : decode cX4_told 96 = .ok (.iconst 0, 1) := by decide +kernel
theorem dX4_told_97 : decode cX4_told 97 = .ok (.ireturn, 1) := by decide +kernel
theorem dX4_told_98 : decode cX4_told 98 = .ok (.aload_n 3, 1) := by decide +kernel
theorem dX4_told_99 : decode cX4_told 99 = .ok (.getfield 211, 3) := by decide +kernel
theorem dX4_told_102 : decode cX4_told 102 = .ok (.ifCond .eq 7, 3) := by decide +kernel
theorem dX4_told_105 : decode cX4_told 105 = .ok (.iconst 1, 1) := by decide +kernel
theorem dX4_told_106 : decode cX4_told 106 = .ok (.goto 4, 3) := by decide +kernel
theorem dX4_told_109 : decode cX4_told 109 = .ok (.iconst 0, 1) := by decide +kernel
theorem dX4_told_110 : decode cX4_told 110 = .ok (.ireturn, 1) := by decide +kernel
theorem dX4_told_111 : decode cX4_told 111 = .ok (.aload_n 3, 1) := by decide +kernel
theorem dX4_told_112 : decode cX4_told 112 = .ok (.getfield 118, 3) := by decide +kernel
theorem dX4_told_115 : decode cX4_told 115 = .ok (.getfield 133, 3) := by decide +kernel
theorem dX4_told_118 : decode cX4_told 118 = .ok (.ireturn, 1) := by decide +kernel
theorem dX4_told_119 : decode cX4_told 119 = .ok (.aload_n 3, 1) := by decide +kernel
theorem dX4_told_120 : decode cX4_told 120 = .ok (.getfield 152, 3) := by decide +kernel
theorem dX4_told_123 : decode cX4_told 123 = .ok (.ireturn, 1) := by decide +kernel
theorem dX4_told_124 : decode cX4_told 124 = .ok (.aload_n 3, 1) := by decide +kernel
theorem dX4_told_125 : decode cX4_told 125 = .ok (.getfield 164, 3) := by decide +kernel
theorem dX4_told_128 : decode cX4_told 128 = .ok (.ireturn, 1) := by decide +kernel
theorem dX4_told_129 : decode cX4_told 129 = .ok (.aload_n 3, 1) := by decide +kernel
theorem dX4_told_130 : decode cX4_told 130 = .ok (.getfield 130, 3) := by decide +kernel
theorem dX4_told_133 : decode cX4_told 133 = .ok (.ireturn, 1) := by decide +kernel
theorem dX4_told_134 : decode cX4_told 134 = .ok (.aload_n 3, 1) := by decide +kernel
theorem dX4_told_135 : decode cX4_told 135 = .ok (.getfield 146, 3) := by decide +kernel
theorem dX4_told_138 : decode cX4_told 138 = .ok (.ireturn, 1) := by decide +kernel
theorem dX4_told_139 : decode cX4_told 139 = .ok (.aload_n 0, 1) := by decide +kernel
theorem dX4_told_140 : decode cX4_told 140 = .ok (.getfield 27, 3) := by decide +kernel
theorem dX4_told_143 : decode cX4_told 143 = .ok (.iload_n 1, 1) := by decide +kernel
theorem dX4_told_144 : decode cX4_told 144 = .ok (.invokevirtual 262, 3) := by decide +kernel
theorem dX4_told_147 : decode cX4_told 147 = .ok (.ireturn, 1) := by decide +kernel
theorem dX4_told_148 : decode cX4_told 148 = .ok (.aload_n 0, 1) := by decide +kernel
theorem dX4_told_149 : decode cX4_told 149 = .ok (.getfield 10, 3) := by decide +kernel
theorem dX4_told_152 : decode cX4_told 152 = .ok (.iload_n 1, 1) := by decide +kernel
theorem dX4_told_153 : decode cX4_told 153 = .ok (.invokevirtual 265, 3) := by decide +kernel
theorem dX4_told_156 : decode cX4_told 156 = .ok (.ireturn, 1) := by decide +kernel
theorem dX4_told_157 : decode cX4_told 157 = .ok (.iconst (-1), 1) := by decide +kernel
theorem dX4_told_158 : decode cX4_told 158 = .ok (.ireturn, 1) := by decide +kernel
set_option maxRecDepth 20000 in
theorem ggX4_count_X4_whoPumps : GoodIn wsX4_count wsX4_whoPumps := goodIn_r _ [12, 1, 2, 13, 14, 43, 44, 45, 46, 47, 48, 49, 50, 51, 52, 53, 54, 55, 62, 63, 64, 65, 66, 67, 68, 69, 70, 71, 72, 73] rfl (by decide +kernel)
set_option maxRecDepth 20000 in
theorem gX4_count_X4_whoPumps : GoodIn wsX4_count (wsV RX4 268 RX4 yX4_whoPumps wsX4_whoPumps) := goodIn_app (goodIn_of _ (by decide +kernel)) ggX4_count_X4_whoPumps
set_option maxRecDepth 20000 in
theorem ggX4_count_X4_placeOfRight : GoodIn wsX4_count wsX4_placeOfRight := goodIn_r _ [18, 19, 6, 20, 21, 22, 23, 24, 25, 26, 27, 11, 28, 1, 2, 13, 29, 30, 31, 32, 33, 34, 35, 43, 44, 45, 46, 47, 48, 49, 50, 51, 52, 56, 57, 58, 59, 60, 61, 53, 54, 55, 62, 63, 64, 65, 66, 67, 68, 69, 70, 71, 72, 73] rfl (by decide +kernel)
set_option maxRecDepth 20000 in
theorem gX4_count_X4_placeOfRight : GoodIn wsX4_count (wsV RX4 249 RX4 yX4_placeOfRight wsX4_placeOfRight) := goodIn_app (goodIn_of _ (by decide +kernel)) ggX4_count_X4_placeOfRight
set_option maxRecDepth 20000 in
theorem ggX4_count_X0_parts : GoodIn wsX4_count wsX0_parts := goodIn_r _ [40, 41, 42, 53, 54, 55] rfl (by decide +kernel)
set_option maxRecDepth 20000 in
theorem gX4_count_X0_parts : GoodIn wsX4_count (wsV RX4 81 RX0 yX0_parts wsX0_parts) := goodIn_app (goodIn_of _ (by decide +kernel)) ggX4_count_X0_parts
theorem dX4_count_0 : decode cX4_count 0 = .ok (.iload_n 1, 1) := by decide +kernel
theorem dX4_count_1 : decode cX4_count 1 = .ok (.tableswitch 134 0 6 #[43, 51, 59, 78, 94, 110, 118], 43) := by decide +kernel
theorem dX4_count_44 : decode cX4_count 44 = .ok (.aload_n 0, 1) := by decide +kernel
theorem dX4_count_45 : decode cX4_count 45 = .ok (.getfield 10, 3) := by decide +kernel
theorem dX4_count_48 : decode cX4_count 48 = .ok (.getfield 229, 3) := by decide +kernel
theorem dX4_count_51 : decode cX4_count 51 = .ok (.ireturn, 1) := by decide +kernel
theorem dX4_count_52 : decode cX4_count 52 = .ok (.aload_n 0, 1) := by decide +kernel
theorem dX4_count_53 : decode cX4_count 53 = .ok (.getfield 10, 3) := by decide +kernel
theorem dX4_count_56 : decode cX4_count 56 = .ok (.getfield 77, 3) := by decide +kernel
theorem dX4_count_59 : decode cX4_count 59 = .ok (.ireturn, 1) := by decide +kernel
theorem dX4_count_60 : decode cX4_count 60 = .ok (.aload_n 0, 1) := by decide +kernel
theorem dX4_count_61 : decode cX4_count 61 = .ok (.getfield 55, 3) := by decide +kernel
theorem dX4_count_64 : decode cX4_count 64 = .ok (.ifCond .eq 13, 3) := by decide +kernel
theorem dX4_count_67 : decode cX4_count 67 = .ok (.aload_n 0, 1) := by decide +kernel
theorem dX4_count_68 : decode cX4_count 68 = .ok (.getfield 31, 3) := by decide +kernel
theorem dX4_count_71 : decode cX4_count 71 = .ok (.getfield 94, 3) := by decide +kernel
theorem dX4_count_74 : decode cX4_count 74 = .ok (.goto 4, 3) := by decide +kernel
theorem dX4_count_77 : decode cX4_count 77 = .ok (.iconst (-1), 1) := by decide +kernel
theorem dX4_count_78 : decode cX4_count 78 = .ok (.ireturn, 1) := by decide +kernel
theorem dX4_count_79 : decode cX4_count 79 = .ok (.aload_n 0, 1) := by decide +kernel
theorem dX4_count_80 : decode cX4_count 80 = .ok (.getfield 55, 3) := by decide +kernel
theorem dX4_count_83 : decode cX4_count 83 = .ok (.ifCond .eq 10, 3) := by decide +kernel
theorem dX4_count_86 : decode cX4_count 86 = .ok (.aload_n 0, 1) := by decide +kernel
theorem dX4_count_87 : decode cX4_count 87 = .ok (.invokevirtual 268, 3) := by decide +kernel
theorem dX4_count_90 : decode cX4_count 90 = .ok (.goto 4, 3) := by decide +kernel
theorem dX4_count_93 : decode cX4_count 93 = .ok (.iconst (-1), 1) := by decide +kernel
theorem dX4_count_94 : decode cX4_count 94 = .ok (.ireturn, 1) := by decide +kernel
theorem dX4_count_95 : decode cX4_count 95 = .ok (.aload_n 0, 1) := by decide +kernel
theorem dX4_count_96 : decode cX4_count 96 = .ok (.getfield 55, 3) := by decide +kernel
theorem dX4_count_99 : decode cX4_count 99 = .ok (.ifCond .eq 10, 3) := by decide +kernel
theorem dX4_count_102 : decode cX4_count 102 = .ok (.aload_n 0, 1) := by decide +kernel
theorem dX4_count_103 : decode cX4_count 103 = .ok (.invokevirtual 249, 3) := by decide +kernel
theorem dX4_count_106 : decode cX4_count 106 = .ok (.goto 4, 3) := by decide +kernel
theorem dX4_count_109 : decode cX4_count 109 = .ok (.iconst (-1), 1) := by decide +kernel
theorem dX4_count_110 : decode cX4_count 110 = .ok (.ireturn, 1) := by decide +kernel
theorem dX4_count_111 : decode cX4_count 111 = .ok (.aload_n 0, 1) := by decide +kernel
theorem dX4_count_112 : decode cX4_count 112 = .ok (.getfield 10, 3) := by decide +kernel
theorem dX4_count_115 : decode cX4_count 115 = .ok (.invokevirtual 81, 3) := by decide +kernel
theorem dX4_count_118 : decode cX4_count 118 = .ok (.ireturn, 1) := by decide +kernel
theorem dX4_count_119 : decode cX4_count 119 = .ok (.aload_n 0, 1) := by decide +kernel
theorem dX4_count_120 : decode cX4_count 120 = .ok (.getfield 55, 3) := by decide +kernel
theorem dX4_count_123 : decode cX4_count 123 = .ok (.ifCond .eq 10, 3) := by decide +kernel
theorem dX4_count_126 : decode cX4_count 126 = .ok (.aload_n 0, 1) := by decide +kernel
theorem dX4_count_127 : decode cX4_count 127 = .ok (.getfield 91, 3) := by decide +kernel
theorem dX4_count_130 : decode cX4_count 130 = .ok (.goto 4, 3) := by decide +kernel
theorem dX4_count_133 : decode cX4_count 133 = .ok (.iconst (-1), 1) := by decide +kernel
theorem dX4_count_134 : decode cX4_count 134 = .ok (.ireturn, 1) := by decide +kernel
theorem dX4_count_135 : decode cX4_count 135 = .ok (.iconst (-1), 1) := by decide +kernel
theorem dX4_count_136 : decode cX4_count 136 = .ok (.ireturn, 1) := by decide +kernel
set_option maxRecDepth 20000 in
theorem ggX4_isStation_X0_has : GoodIn wsX4_isStation wsX0_has := goodIn_r _ [7, 8, 19, 20, 21] rfl (by decide +kernel)
set_option maxRecDepth 20000 in
theorem gX4_isStation_X0_has : GoodIn wsX4_isStation (wsV RX4 62 RX0 yX0_has wsX0_has) := goodIn_app (goodIn_of _ (by decide +kernel)) ggX4_isStation_X0_has
theorem dX4_isStation_0 : decode cX4_isStation 0 = .ok (.aload_n 0, 1) := by decide +kernel
theorem dX4_isStation_1 : decode cX4_isStation 1 = .ok (.getfield 55, 3) := by decide +kernel
theorem dX4_isStation_4 : decode cX4_isStation 4 = .ok (.ifCond .eq 18, 3) := by decide +kernel
theorem dX4_isStation_7 : decode cX4_isStation 7 = .ok (.aload_n 0, 1) := by decide +kernel
theorem dX4_isStation_8 : decode cX4_isStation 8 = .ok (.getfield 10, 3) := by decide +kernel
theorem dX4_isStation_11 : decode cX4_isStation 11 = .ok (.iload_n 1, 1) := by decide +kernel
theorem dX4_isStation_12 : decode cX4_isStation 12 = .ok (.invokevirtual 62, 3) := by decide +kernel
theorem dX4_isStation_15 : decode cX4_isStation 15 = .ok (.ifCond .eq 7, 3) := by decide +kernel
