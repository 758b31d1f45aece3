theorem dX4_isStation_18 : decode cX4_isStation 18 = .ok (.iconst 1, 1) := by decide +kernel
theorem dX4_isStation_19 : decode cX4_isStation 19 = .ok (.goto 4, 3) := by decide +kernel
theorem dX4_isStation_22 : decode cX4_isStation 22 = .ok (.iconst 0, 1) := by decide +kernel
theorem dX4_isStation_23 : decode cX4_isStation 23 = .ok (.ireturn, 1) := by decide +kernel
set_option maxRecDepth 20000 in
theorem ggX4_isUp_X4_isStation : GoodIn wsX4_isUp wsX4_isStation := goodIn_r _ [7, 8, 9, 10, 11, 12, 13, 14, 15, 16, 17, 18, 19, 20, 21, 22, 23, 24, 25, 38, 39, 40] rfl (by decide +kernel)
set_option maxRecDepth 20000 in
theorem gX4_isUp_X4_isStation : GoodIn wsX4_isUp (wsV RX4 158 RX4 yX4_isStation wsX4_isStation) := goodIn_app (goodIn_of _ (by decide +kernel)) ggX4_isUp_X4_isStation
theorem dX4_isUp_0 : decode cX4_isUp 0 = .ok (.aload_n 0, 1) := by decide +kernel
theorem dX4_isUp_1 : decode cX4_isUp 1 = .ok (.iload_n 1, 1) := by decide +kernel
theorem dX4_isUp_2 : decode cX4_isUp 2 = .ok (.invokevirtual 158, 3) := by decide +kernel
theorem dX4_isUp_5 : decode cX4_isUp 5 = .ok (.ifCond .eq 19, 3) := by decide +kernel
theorem dX4_isUp_8 : decode cX4_isUp 8 = .ok (.aload_n 0, 1) := by decide +kernel
theorem dX4_isUp_9 : decode cX4_isUp 9 = .ok (.getfield 18, 3) := by decide +kernel
theorem dX4_isUp_12 : decode cX4_isUp 12 = .ok (.iload_n 1, 1) := by decide +kernel
theorem dX4_isUp_13 : decode cX4_isUp 13 = .ok (.aaload, 1) := by decide +kernel
theorem dX4_isUp_14 : decode cX4_isUp 14 = .ok (.getfield 211, 3) := by decide +kernel
theorem dX4_isUp_17 : decode cX4_isUp 17 = .ok (.ifCond .ne 7, 3) := by decide +kernel
theorem dX4_isUp_20 : decode cX4_isUp 20 = .ok (.iconst 1, 1) := by decide +kernel
theorem dX4_isUp_21 : decode cX4_isUp 21 = .ok (.goto 4, 3) := by decide +kernel
theorem dX4_isUp_24 : decode cX4_isUp 24 = .ok (.iconst 0, 1) := by decide +kernel
theorem dX4_isUp_25 : decode cX4_isUp 25 = .ok (.ireturn, 1) := by decide +kernel
theorem dX4_isCopy_0 : decode cX4_isCopy 0 = .ok (.aload_n 0, 1) := by decide +kernel
theorem dX4_isCopy_1 : decode cX4_isCopy 1 = .ok (.getfield 55, 3) := by decide +kernel
theorem dX4_isCopy_4 : decode cX4_isCopy 4 = .ok (.ifCond .eq 22, 3) := by decide +kernel
theorem dX4_isCopy_7 : decode cX4_isCopy 7 = .ok (.iload_n 1, 1) := by decide +kernel
theorem dX4_isCopy_8 : decode cX4_isCopy 8 = .ok (.ifCond .lt 18, 3) := by decide +kernel
theorem dX4_isCopy_11 : decode cX4_isCopy 11 = .ok (.iload_n 1, 1) := by decide +kernel
theorem dX4_isCopy_12 : decode cX4_isCopy 12 = .ok (.aload_n 0, 1) := by decide +kernel
theorem dX4_isCopy_13 : decode cX4_isCopy 13 = .ok (.getfield 31, 3) := by decide +kernel
theorem dX4_isCopy_16 : decode cX4_isCopy 16 = .ok (.getfield 94, 3) := by decide +kernel
theorem dX4_isCopy_19 : decode cX4_isCopy 19 = .ok (.if_icmp .ge 7, 3) := by decide +kernel
theorem dX4_isCopy_22 : decode cX4_isCopy 22 = .ok (.iconst 1, 1) := by decide +kernel
theorem dX4_isCopy_23 : decode cX4_isCopy 23 = .ok (.goto 4, 3) := by decide +kernel
theorem dX4_isCopy_26 : decode cX4_isCopy 26 = .ok (.iconst 0, 1) := by decide +kernel
theorem dX4_isCopy_27 : decode cX4_isCopy 27 = .ok (.ireturn, 1) := by decide +kernel
theorem dX4_contains_0 : decode cX4_contains 0 = .ok (.iload_n 0, 1) := by decide +kernel
theorem dX4_contains_1 : decode cX4_contains 1 = .ok (.iconst 1, 1) := by decide +kernel
theorem dX4_contains_2 : decode cX4_contains 2 = .ok (.iload_n 1, 1) := by decide +kernel
theorem dX4_contains_3 : decode cX4_contains 3 = .ok (.ishl, 1) := by decide +kernel
theorem dX4_contains_4 : decode cX4_contains 4 = .ok (.iand, 1) := by decide +kernel
theorem dX4_contains_5 : decode cX4_contains 5 = .ok (.ifCond .eq 7, 3) := by decide +kernel
theorem dX4_contains_8 : decode cX4_contains 8 = .ok (.iconst 1, 1) := by decide +kernel
theorem dX4_contains_9 : decode cX4_contains 9 = .ok (.goto 4, 3) := by decide +kernel
theorem dX4_contains_12 : decode cX4_contains 12 = .ok (.iconst 0, 1) := by decide +kernel
theorem dX4_contains_13 : decode cX4_contains 13 = .ok (.ireturn, 1) := by decide +kernel
set_option maxRecDepth 20000 in
theorem ggX4_pointAllTo_X4_pointNeighboursTo : GoodIn wsX4_pointAllTo wsX4_pointNeighboursTo := goodIn_r _ [9, 3, 4, 1, 2, 10, 11, 12, 13, 14, 15, 16, 8, 17, 18, 19, 20, 21, 22, 23, 24, 25, 26, 27, 40, 41, 42, 28, 29, 30, 31, 32, 33, 34, 35, 36, 37, 38, 39] rfl (by decide +kernel)
set_option maxRecDepth 20000 in
theorem gX4_pointAllTo_X4_pointNeighboursTo : GoodIn wsX4_pointAllTo (wsV RX4 271 RX4 yX4_pointNeighboursTo wsX4_pointNeighboursTo) := goodIn_app (goodIn_of _ (by decide +kernel)) ggX4_pointAllTo_X4_pointNeighboursTo
theorem dX4_pointAllTo_0 : decode cX4_pointAllTo 0 = .ok (.aload_n 0, 1) := by decide +kernel
theorem dX4_pointAllTo_1 : decode cX4_pointAllTo 1 = .ok (.getfield 18, 3) := by decide +kernel
theorem dX4_pointAllTo_4 : decode cX4_pointAllTo 4 = .ok (.iload_n 1, 1) := by decide +kernel
theorem dX4_pointAllTo_5 : decode cX4_pointAllTo 5 = .ok (.aaload, 1) := by decide +kernel
theorem dX4_pointAllTo_6 : decode cX4_pointAllTo 6 = .ok (.iload_n 1, 1) := by decide +kernel
theorem dX4_pointAllTo_7 : decode cX4_pointAllTo 7 = .ok (.putfield 258, 3) := by decide +kernel
theorem dX4_pointAllTo_10 : decode cX4_pointAllTo 10 = .ok (.iconst 0, 1) := by decide +kernel
theorem dX4_pointAllTo_11 : decode cX4_pointAllTo 11 = .ok (.istore_n 2, 1) := by decide +kernel
theorem dX4_pointAllTo_12 : decode cX4_pointAllTo 12 = .ok (.iload_n 2, 1) := by decide +kernel
theorem dX4_pointAllTo_13 : decode cX4_pointAllTo 13 = .ok (.aload_n 0, 1) := by decide +kernel
theorem dX4_pointAllTo_14 : decode cX4_pointAllTo 14 = .ok (.getfield 10, 3) := by decide +kernel
theorem dX4_pointAllTo_17 : decode cX4_pointAllTo 17 = .ok (.getfield 229, 3) := by decide +kernel
theorem dX4_pointAllTo_20 : decode cX4_pointAllTo 20 = .ok (.if_icmp .ge 47, 3) := by decide +kernel
theorem dX4_pointAllTo_23 : decode cX4_pointAllTo 23 = .ok (.iconst 0, 1) := by decide +kernel
theorem dX4_pointAllTo_24 : decode cX4_pointAllTo 24 = .ok (.istore_n 3, 1) := by decide +kernel
theorem dX4_pointAllTo_25 : decode cX4_pointAllTo 25 = .ok (.iload_n 3, 1) := by decide +kernel
theorem dX4_pointAllTo_26 : decode cX4_pointAllTo 26 = .ok (.aload_n 0, 1) := by decide +kernel
theorem dX4_pointAllTo_27 : decode cX4_pointAllTo 27 = .ok (.getfield 10, 3) := by decide +kernel
theorem dX4_pointAllTo_30 : decode cX4_pointAllTo 30 = .ok (.getfield 229, 3) := by decide +kernel
theorem dX4_pointAllTo_33 : decode cX4_pointAllTo 33 = .ok (.if_icmp .ge 28, 3) := by decide +kernel
theorem dX4_pointAllTo_36 : decode cX4_pointAllTo 36 = .ok (.aload_n 0, 1) := by decide +kernel
theorem dX4_pointAllTo_37 : decode cX4_pointAllTo 37 = .ok (.getfield 18, 3) := by decide +kernel
theorem dX4_pointAllTo_40 : decode cX4_pointAllTo 40 = .ok (.iload_n 3, 1) := by decide +kernel
theorem dX4_pointAllTo_41 : decode cX4_pointAllTo 41 = .ok (.aaload, 1) := by decide +kernel
theorem dX4_pointAllTo_42 : decode cX4_pointAllTo 42 = .ok (.getfield 258, 3) := by decide +kernel
theorem dX4_pointAllTo_45 : decode cX4_pointAllTo 45 = .ok (.bipush (-2), 2) := by decide +kernel
theorem dX4_pointAllTo_47 : decode cX4_pointAllTo 47 = .ok (.if_icmp .eq 8, 3) := by decide +kernel
theorem dX4_pointAllTo_50 : decode cX4_pointAllTo 50 = .ok (.aload_n 0, 1) := by decide +kernel
theorem dX4_pointAllTo_51 : decode cX4_pointAllTo 51 = .ok (.iload_n 3, 1) := by decide +kernel
theorem dX4_pointAllTo_52 : decode cX4_pointAllTo 52 = .ok (.invokevirtual 271, 3) := by decide +kernel
theorem dX4_pointAllTo_55 : decode cX4_pointAllTo 55 = .ok (.iinc 3 1, 3) := by decide +kernel
theorem dX4_pointAllTo_58 : decode cX4_pointAllTo 58 = .ok (.goto (-33), 3) := by decide +kernel
theorem dX4_pointAllTo_61 : decode cX4_pointAllTo 61 = .ok (.iinc 2 1, 3) := by decide +kernel
theorem dX4_pointAllTo_64 : decode cX4_pointAllTo 64 = .ok (.goto (-52), 3) := by decide +kernel
theorem dX4_pointAllTo_67 : decode cX4_pointAllTo 67 = .ok (.return_, 1) := by decide +kernel
set_option maxRecDepth 20000 in
theorem ggX4_pointNeighboursTo_X0_linked : GoodIn wsX4_pointNeighboursTo wsX0_linked := goodIn_r _ [9, 10, 11, 12, 13, 24, 25, 26] rfl (by decide +kernel)
set_option maxRecDepth 20000 in
theorem gX4_pointNeighboursTo_X0_linked : GoodIn wsX4_pointNeighboursTo (wsV RX4 234 RX0 yX0_linked wsX0_linked) := goodIn_app (goodIn_of _ (by decide +kernel)) ggX4_pointNeighboursTo_X0_linked
theorem dX4_pointNeighboursTo_0 : decode cX4_pointNeighboursTo 0 = .ok (.iconst 0, 1) := by decide +kernel
theorem dX4_pointNeighboursTo_1 : decode cX4_pointNeighboursTo 1 = .ok (.istore_n 2, 1) := by decide +kernel
theorem dX4_pointNeighboursTo_2 : decode cX4_pointNeighboursTo 2 = .ok (.iload_n 2, 1) := by decide +kernel
theorem dX4_pointNeighboursTo_3 : decode cX4_pointNeighboursTo 3 = .ok (.aload_n 0, 1) := by decide +kernel
theorem dX4_pointNeighboursTo_4 : decode cX4_pointNeighboursTo 4 = .ok (.getfield 10, 3) := by decide +kernel
theorem dX4_pointNeighboursTo_7 : decode cX4_pointNeighboursTo 7 = .ok (.getfield 229, 3) := by decide +kernel
theorem dX4_pointNeighboursTo_10 : decode cX4_pointNeighboursTo 10 = .ok (.if_icmp .ge 45, 3) := by decide +kernel
theorem dX4_pointNeighboursTo_13 : decode cX4_pointNeighboursTo 13 = .ok (.aload_n 0, 1) := by decide +kernel
theorem dX4_pointNeighboursTo_14 : decode cX4_pointNeighboursTo 14 = .ok (.getfield 10, 3) := by decide +kernel
theorem dX4_pointNeighboursTo_17 : decode cX4_pointNeighboursTo 17 = .ok (.iload_n 1, 1) := by decide +kernel
theorem dX4_pointNeighboursTo_18 : decode cX4_pointNeighboursTo 18 = .ok (.iload_n 2, 1) := by decide +kernel
theorem dX4_pointNeighboursTo_19 : decode cX4_pointNeighboursTo 19 = .ok (.invokevirtual 234, 3) := by decide +kernel
theorem dX4_pointNeighboursTo_22 : decode cX4_pointNeighboursTo 22 = .ok (.ifCond .eq 27, 3) := by decide +kernel
theorem dX4_pointNeighboursTo_25 : decode cX4_pointNeighboursTo 25 = .ok (.aload_n 0, 1) := by decide +kernel
theorem dX4_pointNeighboursTo_26 : decode cX4_pointNeighboursTo 26 = .ok (.getfield 18, 3) := by decide +kernel
theorem dX4_pointNeighboursTo_29 : decode cX4_pointNeighboursTo 29 = .ok (.iload_n 2, 1) := by decide +kernel
theorem dX4_pointNeighboursTo_30 : decode cX4_pointNeighboursTo 30 = .ok (.aaload, 1) := by decide +kernel
theorem dX4_pointNeighboursTo_31 : decode cX4_pointNeighboursTo 31 = .ok (.getfield 258, 3) := by decide +kernel
theorem dX4_pointNeighboursTo_34 : decode cX4_pointNeighboursTo 34 = .ok (.bipush (-2), 2) := by decide +kernel
theorem dX4_pointNeighboursTo_36 : decode cX4_pointNeighboursTo 36 = .ok (.if_icmp .ne 13, 3) := by decide +kernel
theorem dX4_pointNeighboursTo_39 : decode cX4_pointNeighboursTo 39 = .ok (.aload_n 0, 1) := by decide +kernel
theorem dX4_pointNeighboursTo_40 : decode cX4_pointNeighboursTo 40 = .ok (.getfield 18, 3) := by decide +kernel
theorem dX4_pointNeighboursTo_43 : decode cX4_pointNeighboursTo 43 = .ok (.iload_n 2, 1) := by decide +kernel
theorem dX4_pointNeighboursTo_44 : decode cX4_pointNeighboursTo 44 = .ok (.aaload, 1) := by decide +kernel
theorem dX4_pointNeighboursTo_45 : decode cX4_pointNeighboursTo 45 = .ok (.iload_n 1, 1) := by decide +kernel
theorem dX4_pointNeighboursTo_46 : decode cX4_pointNeighboursTo 46 = .ok (.putfield 258, 3) := by decide +kernel
theorem dX4_pointNeighboursTo_49 : decode cX4_pointNeighboursTo 49 = .ok (.iinc 2 1, 3) := by decide +kernel
theorem dX4_pointNeighboursTo_52 : decode cX4_pointNeighboursTo 52 = .ok (.goto (-50), 3) := by decide +kernel
theorem dX4_pointNeighboursTo_55 : decode cX4_pointNeighboursTo 55 = .ok (.return_, 1) := by decide +kernel
theorem dX4_tellOthersOfBegin_0 : decode cX4_tellOthersOfBegin 0 = .ok (.iconst 0, 1) := by decide +kernel
theorem dX4_tellOthersOfBegin_1 : decode cX4_tellOthersOfBegin 1 = .ok (.istore_n 2, 1) := by decide +kernel
theorem dX4_tellOthersOfBegin_2 : decode cX4_tellOthersOfBegin 2 = .ok (.iload_n 2, 1) := by decide +kernel
theorem dX4_tellOthersOfBegin_3 : decode cX4_tellOthersOfBegin 3 = .ok (.aload_n 0, 1) := by decide +kernel
theorem dX4_tellOthersOfBegin_4 : decode cX4_tellOthersOfBegin 4 = .ok (.getfield 10, 3) := by decide +kernel
theorem dX4_tellOthersOfBegin_7 : decode cX4_tellOthersOfBegin 7 = .ok (.getfield 229, 3) := by decide +kernel
theorem dX4_tellOthersOfBegin_10 : decode cX4_tellOthersOfBegin 10 = .ok (.if_icmp .ge 41, 3) := by decide +kernel
theorem dX4_tellOthersOfBegin_13 : decode cX4_tellOthersOfBegin 13 = .ok (.iload_n 2, 1) := by decide +kernel
theorem dX4_tellOthersOfBegin_14 : decode cX4_tellOthersOfBegin 14 = .ok (.iload_n 1, 1) := by decide +kernel
theorem dX4_tellOthersOfBegin_15 : decode cX4_tellOthersOfBegin 15 = .ok (.if_icmp .eq 30, 3) := by decide +kernel
theorem dX4_tellOthersOfBegin_18 : decode cX4_tellOthersOfBegin 18 = .ok (.aload_n 0, 1) := by decide +kernel
theorem dX4_tellOthersOfBegin_19 : decode cX4_tellOthersOfBegin 19 = .ok (.getfield 18, 3) := by decide +kernel
theorem dX4_tellOthersOfBegin_22 : decode cX4_tellOthersOfBegin 22 = .ok (.iload_n 2, 1) := by decide +kernel
theorem dX4_tellOthersOfBegin_23 : decode cX4_tellOthersOfBegin 23 = .ok (.aaload, 1) := by decide +kernel
theorem dX4_tellOthersOfBegin_24 : decode cX4_tellOthersOfBegin 24 = .ok (.getfield 127, 3) := by decide +kernel
theorem dX4_tellOthersOfBegin_27 : decode cX4_tellOthersOfBegin 27 = .ok (.ifCond .eq 18, 3) := by decide +kernel
theorem dX4_tellOthersOfBegin_30 : decode cX4_tellOthersOfBegin 30 = .ok (.aload_n 0, 1) := by decide +kernel
theorem dX4_tellOthersOfBegin_31 : decode cX4_tellOthersOfBegin 31 = .ok (.getfield 18, 3) := by decide +kernel
theorem dX4_tellOthersOfBegin_34 : decode cX4_tellOthersOfBegin 34 = .ok (.iload_n 2, 1) := by decide +kernel
theorem dX4_tellOthersOfBegin_35 : decode cX4_tellOthersOfBegin 35 = .ok (.aaload, 1) := by decide +kernel
theorem dX4_tellOthersOfBegin_36 : decode cX4_tellOthersOfBegin 36 = .ok (.dup, 1) := by decide +kernel
theorem dX4_tellOthersOfBegin_37 : decode cX4_tellOthersOfBegin 37 = .ok (.getfield 130, 3) := by decide +kernel
theorem dX4_tellOthersOfBegin_40 : decode cX4_tellOthersOfBegin 40 = .ok (.iconst 1, 1) := by decide +kernel
theorem dX4_tellOthersOfBegin_41 : decode cX4_tellOthersOfBegin 41 = .ok (.iadd, 1) := by decide +kernel
theorem dX4_tellOthersOfBegin_42 : decode cX4_tellOthersOfBegin 42 = .ok (.putfield 130, 3) := by decide +kernel
theorem dX4_tellOthersOfBegin_45 : decode cX4_tellOthersOfBegin 45 = .ok (.iinc 2 1, 3) := by decide +kernel
theorem dX4_tellOthersOfBegin_48 : decode cX4_tellOthersOfBegin 48 = .ok (.goto (-46), 3) := by decide +kernel
theorem dX4_tellOthersOfBegin_51 : decode cX4_tellOthersOfBegin 51 = .ok (.return_, 1) := by decide +kernel
set_option maxRecDepth 20000 in
theorem ggX4_canPassOn_X3_firstPlace : GoodIn wsX4_canPassOn wsX3_firstPlace := goodIn_r _ [11, 12, 13, 14, 15, 16, 10, 17, 18, 19, 20, 21, 22, 23, 24, 25, 26, 27, 28, 29, 30, 31, 47, 48, 49, 50, 51, 52, 53, 54, 55, 56, 57, 58, 59, 60, 61] rfl (by decide +kernel)
set_option maxRecDepth 20000 in
theorem gX4_canPassOn_X3_firstPlace : GoodIn wsX4_canPassOn (wsV RX4 136 RX3 yX3_firstPlace wsX3_firstPlace) := goodIn_app (goodIn_of _ (by decide +kernel)) ggX4_canPassOn_X3_firstPlace
set_option maxRecDepth 20000 in
theorem ggX4_canPassOn_X3_holds : GoodIn wsX4_canPassOn wsX3_holds := goodIn_r _ [35, 36, 18, 47, 48, 49, 50, 51, 52, 53, 54, 55, 56, 57, 58] rfl (by decide +kernel)
set_option maxRecDepth 20000 in
theorem gX4_canPassOn_X3_holds : GoodIn wsX4_canPassOn (wsV RX4 139 RX3 yX3_holds wsX3_holds) := goodIn_app (goodIn_of _ (by decide +kernel)) ggX4_canPassOn_X3_holds
theorem dX4_canPassOn_0 : decode cX4_canPassOn 0 = .ok (.aload_n 1, 1) := by decide +kernel
theorem dX4_canPassOn_1 : decode cX4_canPassOn 1 = .ok (.aload_n 0, 1) := by decide +kernel
theorem dX4_canPassOn_2 : decode cX4_canPassOn 2 = .ok (.getfield 85, 3) := by decide +kernel
theorem dX4_canPassOn_5 : decode cX4_canPassOn 5 = .ok (.aload_n 0, 1) := by decide +kernel
theorem dX4_canPassOn_6 : decode cX4_canPassOn 6 = .ok (.getfield 88, 3) := by decide +kernel
theorem dX4_canPassOn_9 : decode cX4_canPassOn 9 = .ok (.invokevirtual 136, 3) := by decide +kernel
theorem dX4_canPassOn_12 : decode cX4_canPassOn 12 = .ok (.istore_n 2, 1) := by decide +kernel
theorem dX4_canPassOn_13 : decode cX4_canPassOn 13 = .ok (.aload_n 1, 1) := by decide +kernel
theorem dX4_canPassOn_14 : decode cX4_canPassOn 14 = .ok (.invokevirtual 139, 3) := by decide +kernel
theorem dX4_canPassOn_17 : decode cX4_canPassOn 17 = .ok (.ifCond .eq 36, 3) := by decide +kernel
theorem dX4_canPassOn_20 : decode cX4_canPassOn 20 = .ok (.aload_n 1, 1) := by decide +kernel
theorem dX4_canPassOn_21 : decode cX4_canPassOn 21 = .ok (.getfield 111, 3) := by decide +kernel
theorem dX4_canPassOn_24 : decode cX4_canPassOn 24 = .ok (.ifCond .ne 29, 3) := by decide +kernel
theorem dX4_canPassOn_27 : decode cX4_canPassOn 27 = .ok (.iload_n 2, 1) := by decide +kernel
theorem dX4_canPassOn_28 : decode cX4_canPassOn 28 = .ok (.bipush (-2), 2) := by decide +kernel
theorem dX4_canPassOn_30 : decode cX4_canPassOn 30 = .ok (.if_icmp .eq 23, 3) := by decide +kernel
theorem dX4_canPassOn_33 : decode cX4_canPassOn 33 = .ok (.aload_n 1, 1) := by decide +kernel
theorem dX4_canPassOn_34 : decode cX4_canPassOn 34 = .ok (.getfield 118, 3) := by decide +kernel
theorem dX4_canPassOn_37 : decode cX4_canPassOn 37 = .ok (.getfield 142, 3) := by decide +kernel
theorem dX4_canPassOn_40 : decode cX4_canPassOn 40 = .ok (.iload_n 2, 1) := by decide +kernel
theorem dX4_canPassOn_41 : decode cX4_canPassOn 41 = .ok (.iaload, 1) := by decide +kernel
theorem dX4_canPassOn_42 : decode cX4_canPassOn 42 = .ok (.aload_n 1, 1) := by decide +kernel
theorem dX4_canPassOn_43 : decode cX4_canPassOn 43 = .ok (.getfield 274, 3) := by decide +kernel
theorem dX4_canPassOn_46 : decode cX4_canPassOn 46 = .ok (.if_icmp .eq 7, 3) := by decide +kernel
theorem dX4_canPassOn_49 : decode cX4_canPassOn 49 = .ok (.iconst 1, 1) := by decide +kernel
theorem dX4_canPassOn_50 : decode cX4_canPassOn 50 = .ok (.goto 4, 3) := by decide +kernel
theorem dX4_canPassOn_53 : decode cX4_canPassOn 53 = .ok (.iconst 0, 1) := by decide +kernel
theorem dX4_canPassOn_54 : decode cX4_canPassOn 54 = .ok (.ireturn, 1) := by decide +kernel
set_option maxRecDepth 20000 in
theorem ggX4_passOn_X3_firstPlace : GoodIn wsX4_passOn wsX3_firstPlace := goodIn_r _ [13, 14, 15, 16, 17, 18, 12, 19, 20, 21, 22, 23, 24, 25, 26, 27, 28, 29, 30, 31, 32, 33, 101, 102, 103, 104, 105, 106, 107, 108, 109, 110, 111, 112, 113, 114, 115] rfl (by decide +kernel)
set_option maxRecDepth 20000 in
theorem gX4_passOn_X3_firstPlace : GoodIn wsX4_passOn (wsV RX4 136 RX3 yX3_firstPlace wsX3_firstPlace) := goodIn_app (goodIn_of _ (by decide +kernel)) ggX4_passOn_X3_firstPlace
set_option maxRecDepth 20000 in
theorem ggX4_passOn_X2_serve : GoodIn wsX4_passOn wsX2_serve := goodIn_r _ [37, 28, 27, 33, 38, 39, 40, 41, 42, 43, 44, 45, 46, 47, 48, 113, 114, 115] rfl (by decide +kernel)
set_option maxRecDepth 20000 in
theorem gX4_passOn_X2_serve : GoodIn wsX4_passOn (wsV RX4 149 RX2 yX2_serve wsX2_serve) := goodIn_app (goodIn_of _ (by decide +kernel)) ggX4_passOn_X2_serve
set_option maxRecDepth 20000 in
theorem ggX4_passOn_X4_send : GoodIn wsX4_passOn wsX4_send := goodIn_r _ [52, 53, 54, 55, 56, 57, 58, 59, 60, 61, 62, 63, 64, 65, 66, 67, 68, 69, 70, 71, 72, 43, 73, 74, 75, 76, 77, 78, 79, 91, 92, 93, 94, 95, 96, 97, 98, 99, 100, 116, 117, 118, 119, 120, 121] rfl (by decide +kernel)
set_option maxRecDepth 20000 in
theorem gX4_passOn_X4_send : GoodIn wsX4_passOn (wsV RX4 277 RX4 yX4_send wsX4_send) := goodIn_app (goodIn_of _ (by decide +kernel)) ggX4_passOn_X4_send
set_option maxRecDepth 20000 in
theorem ggX4_passOn_X4_ask : GoodIn wsX4_passOn wsX4_ask := goodIn_r _ [83, 3, 84, 85, 7, 5, 86, 87, 88, 25, 89, 33, 90, 30, 31, 32, 27, 49, 50, 51, 43, 52, 53, 54, 55, 56, 57, 58, 59, 60, 61, 62, 63, 64, 65, 66, 67, 68, 69, 70, 71, 72, 73, 74, 75, 76, 77, 78, 79, 101, 102, 103, 104, 105, 106, 107, 108, 109, 110, 111, 112, 113, 114, 115, 91, 92, 93, 94, 95, 96, 97, 98, 99, 100, 116, 117, 118, 119, 120, 121] rfl (by decide +kernel)
set_option maxRecDepth 20000 in
theorem gX4_passOn_X4_ask : GoodIn wsX4_passOn (wsV RX4 181 RX4 yX4_ask wsX4_ask) := goodIn_app (goodIn_of _ (by decide +kernel)) ggX4_passOn_X4_ask
theorem dX4_passOn_0 : decode cX4_passOn 0 = .ok (.aload_n 1, 1) := by decide +kernel
theorem dX4_passOn_1 : decode cX4_passOn 1 = .ok (.aload_n 0, 1) := by decide +kernel
theorem dX4_passOn_2 : decode cX4_passOn 2 = .ok (.getfield 85, 3) := by decide +kernel
theorem dX4_passOn_5 : decode cX4_passOn 5 = .ok (.aload_n 0, 1) := by decide +kernel
theorem dX4_passOn_6 : decode cX4_passOn 6 = .ok (.getfield 88, 3) := by decide +kernel
theorem dX4_passOn_9 : decode cX4_passOn 9 = .ok (.invokevirtual 136, 3) := by decide +kernel
theorem dX4_passOn_12 : decode cX4_passOn 12 = .ok (.istore_n 2, 1) := by decide +kernel
theorem dX4_passOn_13 : decode cX4_passOn 13 = .ok (.aload_n 1, 1) := by decide +kernel
theorem dX4_passOn_14 : decode cX4_passOn 14 = .ok (.aload_n 1, 1) := by decide +kernel
theorem dX4_passOn_15 : decode cX4_passOn 15 = .ok (.getfield 118, 3) := by decide +kernel
theorem dX4_passOn_18 : decode cX4_passOn 18 = .ok (.getfield 142, 3) := by decide +kernel
theorem dX4_passOn_21 : decode cX4_passOn 21 = .ok (.iload_n 2, 1) := by decide +kernel
theorem dX4_passOn_22 : decode cX4_passOn 22 = .ok (.iaload, 1) := by decide +kernel
theorem dX4_passOn_23 : decode cX4_passOn 23 = .ok (.putfield 258, 3) := by decide +kernel
theorem dX4_passOn_26 : decode cX4_passOn 26 = .ok (.aload_n 1, 1) := by decide +kernel
theorem dX4_passOn_27 : decode cX4_passOn 27 = .ok (.getfield 118, 3) := by decide +kernel
theorem dX4_passOn_30 : decode cX4_passOn 30 = .ok (.iload_n 2, 1) := by decide +kernel
theorem dX4_passOn_31 : decode cX4_passOn 31 = .ok (.invokevirtual 149, 3) := by decide +kernel
theorem dX4_passOn_34 : decode cX4_passOn 34 = .ok (.aload_n 1, 1) := by decide +kernel
theorem dX4_passOn_35 : decode cX4_passOn 35 = .ok (.iconst 0, 1) := by decide +kernel
theorem dX4_passOn_36 : decode cX4_passOn 36 = .ok (.putfield 152, 3) := by decide +kernel
theorem dX4_passOn_39 : decode cX4_passOn 39 = .ok (.aload_n 0, 1) := by decide +kernel
theorem dX4_passOn_40 : decode cX4_passOn 40 = .ok (.iconst 1, 1) := by decide +kernel
theorem dX4_passOn_41 : decode cX4_passOn 41 = .ok (.aload_n 1, 1) := by decide +kernel
theorem dX4_passOn_42 : decode cX4_passOn 42 = .ok (.getfield 274, 3) := by decide +kernel
theorem dX4_passOn_45 : decode cX4_passOn 45 = .ok (.aload_n 1, 1) := by decide +kernel
theorem dX4_passOn_46 : decode cX4_passOn 46 = .ok (.getfield 258, 3) := by decide +kernel
theorem dX4_passOn_49 : decode cX4_passOn 49 = .ok (.iconst 0, 1) := by decide +kernel
theorem dX4_passOn_50 : decode cX4_passOn 50 = .ok (.invokevirtual 277, 3) := by decide +kernel
theorem dX4_passOn_53 : decode cX4_passOn 53 = .ok (.aload_n 1, 1) := by decide +kernel
theorem dX4_passOn_54 : decode cX4_passOn 54 = .ok (.getfield 118, 3) := by decide +kernel
theorem dX4_passOn_57 : decode cX4_passOn 57 = .ok (.getfield 133, 3) := by decide +kernel
theorem dX4_passOn_60 : decode cX4_passOn 60 = .ok (.ifCond .le 8, 3) := by decide +kernel
theorem dX4_passOn_63 : decode cX4_passOn 63 = .ok (.aload_n 0, 1) := by decide +kernel
theorem dX4_passOn_64 : decode cX4_passOn 64 = .ok (.aload_n 1, 1) := by decide +kernel
theorem dX4_passOn_65 : decode cX4_passOn 65 = .ok (.invokevirtual 181, 3) := by decide +kernel
theorem dX4_passOn_68 : decode cX4_passOn 68 = .ok (.return_, 1) := by decide +kernel
set_option maxRecDepth 20000 in
theorem ggX4_ask_X2_greatestRank : GoodIn wsX4_ask wsX2_greatestRank := goodIn_r _ [10, 11, 12, 13, 14, 9, 15, 16, 61, 62, 63] rfl (by decide +kernel)
set_option maxRecDepth 20000 in
theorem gX4_ask_X2_greatestRank : GoodIn wsX4_ask (wsV RX4 184 RX2 yX2_greatestRank wsX2_greatestRank) := goodIn_app (goodIn_of _ (by decide +kernel)) ggX4_ask_X2_greatestRank
set_option maxRecDepth 20000 in
theorem ggX4_ask_X4_send : GoodIn wsX4_ask wsX4_send := goodIn_r _ [21, 22, 23, 24, 25, 26, 27, 28, 29, 30, 31, 32, 33, 34, 35, 36, 37, 38, 39, 40, 41, 20, 42, 43, 44, 45, 46, 47, 48, 64, 65, 66, 67, 68, 69, 70, 71, 72, 73, 74, 75, 76, 77, 78, 79] rfl (by decide +kernel)
set_option maxRecDepth 20000 in
theorem gX4_ask_X4_send : GoodIn wsX4_ask (wsV RX4 277 RX4 yX4_send wsX4_send) := goodIn_app (goodIn_of _ (by decide +kernel)) ggX4_ask_X4_send
theorem dX4_ask_0 : decode cX4_ask 0 = .ok (.aload_n 1, 1) := by decide +kernel
theorem dX4_ask_1 : decode cX4_ask 1 = .ok (.aload_n 1, 1) := by decide +kernel
theorem dX4_ask_2 : decode cX4_ask 2 = .ok (.getfield 118, 3) := by decide +kernel
theorem dX4_ask_5 : decode cX4_ask 5 = .ok (.invokevirtual 184, 3) := by decide +kernel
theorem dX4_ask_8 : decode cX4_ask 8 = .ok (.putfield 187, 3) := by decide +kernel
theorem dX4_ask_11 : decode cX4_ask 11 = .ok (.aload_n 1, 1) := by decide +kernel
theorem dX4_ask_12 : decode cX4_ask 12 = .ok (.iconst 1, 1) := by decide +kernel
theorem dX4_ask_13 : decode cX4_ask 13 = .ok (.putfield 178, 3) := by decide +kernel
theorem dX4_ask_16 : decode cX4_ask 16 = .ok (.aload_n 0, 1) := by decide +kernel
theorem dX4_ask_17 : decode cX4_ask 17 = .ok (.iconst 0, 1) := by decide +kernel
theorem dX4_ask_18 : decode cX4_ask 18 = .ok (.aload_n 1, 1) := by decide +kernel
theorem dX4_ask_19 : decode cX4_ask 19 = .ok (.getfield 274, 3) := by decide +kernel
theorem dX4_ask_22 : decode cX4_ask 22 = .ok (.aload_n 1, 1) := by decide +kernel
theorem dX4_ask_23 : decode cX4_ask 23 = .ok (.getfield 258, 3) := by decide +kernel
theorem dX4_ask_26 : decode cX4_ask 26 = .ok (.aload_n 1, 1) := by decide +kernel
theorem dX4_ask_27 : decode cX4_ask 27 = .ok (.getfield 187, 3) := by decide +kernel
theorem dX4_ask_30 : decode cX4_ask 30 = .ok (.invokevirtual 277, 3) := by decide +kernel
theorem dX4_ask_33 : decode cX4_ask 33 = .ok (.return_, 1) := by decide +kernel
set_option maxRecDepth 20000 in
theorem ggX4_send_X1_firstBetween : GoodIn wsX4_send wsX1_firstBetween := goodIn_r _ [7, 8, 9, 10, 39, 40, 41, 42, 43, 44] rfl (by decide +kernel)
set_option maxRecDepth 20000 in
theorem gX4_send_X1_firstBetween : GoodIn wsX4_send (wsV RX4 280 RX1 yX1_firstBetween wsX1_firstBetween) := goodIn_app (goodIn_of _ (by decide +kernel)) ggX4_send_X1_firstBetween
set_option maxRecDepth 20000 in
theorem ggX4_send_X1_add : GoodIn wsX4_send wsX1_add := goodIn_r _ [14, 8, 15, 9, 10, 16, 17, 39, 40, 41, 42, 43, 44] rfl (by decide +kernel)
set_option maxRecDepth 20000 in
theorem gX4_send_X1_add : GoodIn wsX4_send (wsV RX4 222 RX1 yX1_add wsX1_add) := goodIn_app (goodIn_of _ (by decide +kernel)) ggX4_send_X1_add
set_option maxRecDepth 20000 in
theorem ggX4_send_X4_copyFirst : GoodIn wsX4_send wsX4_copyFirst := goodIn_r _ [22, 1, 23, 3, 4, 5, 6, 7, 8, 9, 10, 24, 25, 26, 27, 15, 16, 17, 28, 12, 13, 14, 29, 30, 31, 32, 33, 34, 35, 36, 37, 38, 39, 40, 41, 42, 43, 44] rfl (by decide +kernel)
set_option maxRecDepth 20000 in
theorem gX4_send_X4_copyFirst : GoodIn wsX4_send (wsV RX4 231 RX4 yX4_copyFirst wsX4_copyFirst) := goodIn_app (goodIn_of _ (by decide +kernel)) ggX4_send_X4_copyFirst
theorem dX4_send_0 : decode cX4_send 0 = .ok (.aload_n 0, 1) := by decide +kernel
theorem dX4_send_1 : decode cX4_send 1 = .ok (.getfield 27, 3) := by decide +kernel
theorem dX4_send_4 : decode cX4_send 4 = .ok (.iload_n 2, 1) := by decide +kernel
theorem dX4_send_5 : decode cX4_send 5 = .ok (.iload_n 3, 1) := by decide +kernel
theorem dX4_send_6 : decode cX4_send 6 = .ok (.invokevirtual 280, 3) := by decide +kernel
theorem dX4_send_9 : decode cX4_send 9 = .ok (.bipush (-2), 2) := by decide +kernel
theorem dX4_send_11 : decode cX4_send 11 = .ok (.if_icmp .ne 7, 3) := by decide +kernel
theorem dX4_send_14 : decode cX4_send 14 = .ok (.iconst 1, 1) := by decide +kernel
theorem dX4_send_15 : decode cX4_send 15 = .ok (.goto 4, 3) := by decide +kernel
theorem dX4_send_18 : decode cX4_send 18 = .ok (.iconst 0, 1) := by decide +kernel
theorem dX4_send_19 : decode cX4_send 19 = .ok (.istore 5, 2) := by decide +kernel
theorem dX4_send_21 : decode cX4_send 21 = .ok (.aload_n 0, 1) := by decide +kernel
theorem dX4_send_22 : decode cX4_send 22 = .ok (.getfield 27, 3) := by decide +kernel
theorem dX4_send_25 : decode cX4_send 25 = .ok (.iload_n 1, 1) := by decide +kernel
theorem dX4_send_26 : decode cX4_send 26 = .ok (.iload_n 2, 1) := by decide +kernel
theorem dX4_send_27 : decode cX4_send 27 = .ok (.iload_n 3, 1) := by decide +kernel
theorem dX4_send_28 : decode cX4_send 28 = .ok (.aload_n 0, 1) := by decide +kernel
theorem dX4_send_29 : decode cX4_send 29 = .ok (.getfield 36, 3) := by decide +kernel
theorem dX4_send_32 : decode cX4_send 32 = .ok (.iload_n 2, 1) := by decide +kernel
theorem dX4_send_33 : decode cX4_send 33 = .ok (.aaload, 1) := by decide +kernel
theorem dX4_send_34 : decode cX4_send 34 = .ok (.iload_n 3, 1) := by decide +kernel
theorem dX4_send_35 : decode cX4_send 35 = .ok (.iaload, 1) := by decide +kernel
theorem dX4_send_36 : decode cX4_send 36 = .ok (.iload 4, 2) := by decide +kernel
theorem dX4_send_38 : decode cX4_send 38 = .ok (.invokevirtual 222, 3) := by decide +kernel
theorem dX4_send_41 : decode cX4_send 41 = .ok (.aload_n 0, 1) := by decide +kernel
theorem dX4_send_42 : decode cX4_send 42 = .ok (.getfield 36, 3) := by decide +kernel
theorem dX4_send_45 : decode cX4_send 45 = .ok (.iload_n 2, 1) := by decide +kernel
theorem dX4_send_46 : decode cX4_send 46 = .ok (.aaload, 1) := by decide +kernel
theorem dX4_send_47 : decode cX4_send 47 = .ok (.iload_n 3, 1) := by decide +kernel
theorem dX4_send_48 : decode cX4_send 48 = .ok (.dup2, 1) := by decide +kernel
theorem dX4_send_49 : decode cX4_send 49 = .ok (.iaload, 1) := by decide +kernel
theorem dX4_send_50 : decode cX4_send 50 = .ok (.iconst 1, 1) := by decide +kernel
theorem dX4_send_51 : decode cX4_send 51 = .ok (.iadd, 1) := by decide +kernel
theorem dX4_send_52 : decode cX4_send 52 = .ok (.iastore, 1) := by decide +kernel
theorem dX4_send_53 : decode cX4_send 53 = .ok (.iload 5, 2) := by decide +kernel
theorem dX4_send_55 : decode cX4_send 55 = .ok (.ifCond .eq 9, 3) := by decide +kernel
theorem dX4_send_58 : decode cX4_send 58 = .ok (.aload_n 0, 1) := by decide +kernel
theorem dX4_send_59 : decode cX4_send 59 = .ok (.iload_n 2, 1) := by decide +kernel
theorem dX4_send_60 : decode cX4_send 60 = .ok (.iload_n 3, 1) := by decide +kernel
theorem dX4_send_61 : decode cX4_send 61 = .ok (.invokevirtual 231, 3) := by decide +kernel
theorem dX4_send_64 : decode cX4_send 64 = .ok (.return_, 1) := by decide +kernel
set_option maxRecDepth 20000 in
theorem ggX4_copyFirst_X1_firstBetween : GoodIn wsX4_copyFirst wsX1_firstBetween := goodIn_r _ [7, 8, 9, 10, 32, 33, 34, 35, 36, 37] rfl (by decide +kernel)
set_option maxRecDepth 20000 in
theorem gX4_copyFirst_X1_firstBetween : GoodIn wsX4_copyFirst (wsV RX4 280 RX1 yX1_firstBetween wsX1_firstBetween) := goodIn_app (goodIn_of _ (by decide +kernel)) ggX4_copyFirst_X1_firstBetween
set_option maxRecDepth 20000 in
theorem ggX4_copyFirst_X1_addCopy : GoodIn wsX4_copyFirst wsX1_addCopy := goodIn_r _ [14, 15, 9, 10, 16, 17, 18, 19, 20, 6, 21, 8, 32, 33, 34, 35, 36, 37] rfl (by decide +kernel)
set_option maxRecDepth 20000 in
theorem gX4_copyFirst_X1_addCopy : GoodIn wsX4_copyFirst (wsV RX4 225 RX1 yX1_addCopy wsX1_addCopy) := goodIn_app (goodIn_of _ (by decide +kernel)) ggX4_copyFirst_X1_addCopy
theorem dX4_copyFirst_0 : decode cX4_copyFirst 0 = .ok (.aload_n 0, 1) := by decide +kernel
theorem dX4_copyFirst_1 : decode cX4_copyFirst 1 = .ok (.getfield 27, 3) := by decide +kernel
theorem dX4_copyFirst_4 : decode cX4_copyFirst 4 = .ok (.iload_n 1, 1) := by decide +kernel
theorem dX4_copyFirst_5 : decode cX4_copyFirst 5 = .ok (.iload_n 2, 1) := by decide +kernel
theorem dX4_copyFirst_6 : decode cX4_copyFirst 6 = .ok (.invokevirtual 280, 3) := by decide +kernel
theorem dX4_copyFirst_9 : decode cX4_copyFirst 9 = .ok (.istore_n 3, 1) := by decide +kernel
theorem dX4_copyFirst_10 : decode cX4_copyFirst 10 = .ok (.iload_n 3, 1) := by decide +kernel
theorem dX4_copyFirst_11 : decode cX4_copyFirst 11 = .ok (.bipush (-2), 2) := by decide +kernel
theorem dX4_copyFirst_13 : decode cX4_copyFirst 13 = .ok (.if_icmp .eq 15, 3) := by decide +kernel
theorem dX4_copyFirst_16 : decode cX4_copyFirst 16 = .ok (.aload_n 0, 1) := by decide +kernel
theorem dX4_copyFirst_17 : decode cX4_copyFirst 17 = .ok (.getfield 31, 3) := by decide +kernel
theorem dX4_copyFirst_20 : decode cX4_copyFirst 20 = .ok (.aload_n 0, 1) := by decide +kernel
theorem dX4_copyFirst_21 : decode cX4_copyFirst 21 = .ok (.getfield 27, 3) := by decide +kernel
theorem dX4_copyFirst_24 : decode cX4_copyFirst 24 = .ok (.iload_n 3, 1) := by decide +kernel
theorem dX4_copyFirst_25 : decode cX4_copyFirst 25 = .ok (.invokevirtual 225, 3) := by decide +kernel
theorem dX4_copyFirst_28 : decode cX4_copyFirst 28 = .ok (.return_, 1) := by decide +kernel
set_option maxRecDepth 20000 in
theorem ggX4_takeOut_X1_firstBetween : GoodIn wsX4_takeOut wsX1_firstBetween := goodIn_r _ [7, 8, 9, 10, 48, 49, 50, 51, 52, 53] rfl (by decide +kernel)
set_option maxRecDepth 20000 in
theorem gX4_takeOut_X1_firstBetween : GoodIn wsX4_takeOut (wsV RX4 280 RX1 yX1_firstBetween wsX1_firstBetween) := goodIn_app (goodIn_of _ (by decide +kernel)) ggX4_takeOut_X1_firstBetween
set_option maxRecDepth 20000 in
theorem ggX4_takeOut_X1_remove : GoodIn wsX4_takeOut wsX1_remove := goodIn_r _ [14, 15, 8, 9, 10, 16, 17, 18, 19, 20, 21, 22, 23, 24, 48, 49, 50, 51, 52, 53] rfl (by decide +kernel)
set_option maxRecDepth 20000 in
theorem gX4_takeOut_X1_remove : GoodIn wsX4_takeOut (wsV RX4 208 RX1 yX1_remove wsX1_remove) := goodIn_app (goodIn_of _ (by decide +kernel)) ggX4_takeOut_X1_remove
set_option maxRecDepth 20000 in
theorem ggX4_takeOut_X4_copyFirst : GoodIn wsX4_takeOut wsX4_copyFirst := goodIn_r _ [28, 1, 29, 3, 4, 5, 6, 7, 8, 9, 10, 30, 31, 32, 33, 15, 16, 17, 34, 35, 36, 37, 38, 39, 40, 41, 42, 43, 44, 45, 46, 47, 48, 49, 50, 51, 52, 53] rfl (by decide +kernel)
set_option maxRecDepth 20000 in
theorem gX4_takeOut_X4_copyFirst : GoodIn wsX4_takeOut (wsV RX4 231 RX4 yX4_copyFirst wsX4_copyFirst) := goodIn_app (goodIn_of _ (by decide +kernel)) ggX4_takeOut_X4_copyFirst
theorem dX4_takeOut_0 : decode cX4_takeOut 0 = .ok (.aload_n 0, 1) := by decide +kernel
theorem dX4_takeOut_1 : decode cX4_takeOut 1 = .ok (.getfield 27, 3) := by decide +kernel
theorem dX4_takeOut_4 : decode cX4_takeOut 4 = .ok (.iload_n 1, 1) := by decide +kernel
theorem dX4_takeOut_5 : decode cX4_takeOut 5 = .ok (.iload_n 2, 1) := by decide +kernel
theorem dX4_takeOut_6 : decode cX4_takeOut 6 = .ok (.invokevirtual 280, 3) := by decide +kernel
theorem dX4_takeOut_9 : decode cX4_takeOut 9 = .ok (.istore 4, 2) := by decide +kernel
theorem dX4_takeOut_11 : decode cX4_takeOut 11 = .ok (.iload 4, 2) := by decide +kernel
theorem dX4_takeOut_13 : decode cX4_takeOut 13 = .ok (.bipush (-2), 2) := by decide +kernel
theorem dX4_takeOut_15 : decode cX4_takeOut 15 = .ok (.if_icmp .eq 17, 3) := by decide +kernel
theorem dX4_takeOut_18 : decode cX4_takeOut 18 = .ok (.aload_n 0, 1) := by decide +kernel
theorem dX4_takeOut_19 : decode cX4_takeOut 19 = .ok (.getfield 27, 3) := by decide +kernel
theorem dX4_takeOut_22 : decode cX4_takeOut 22 = .ok (.getfield 202, 3) := by decide +kernel
theorem dX4_takeOut_25 : decode cX4_takeOut 25 = .ok (.iload 4, 2) := by decide +kernel
theorem dX4_takeOut_27 : decode cX4_takeOut 27 = .ok (.iaload, 1) := by decide +kernel
theorem dX4_takeOut_28 : decode cX4_takeOut 28 = .ok (.iload_n 3, 1) := by decide +kernel
theorem dX4_takeOut_29 : decode cX4_takeOut 29 = .ok (.if_icmp .eq 5, 3) := by decide +kernel
theorem dX4_takeOut_32 : decode cX4_takeOut 32 = .ok (.iconst 0, 1) := by decide +kernel
theorem dX4_takeOut_33 : decode cX4_takeOut 33 = .ok (.ireturn, 1) := by decide +kernel
theorem dX4_takeOut_34 : decode cX4_takeOut 34 = .ok (.aload_n 0, 1) := by decide +kernel
theorem dX4_takeOut_35 : decode cX4_takeOut 35 = .ok (.getfield 27, 3) := by decide +kernel
theorem dX4_takeOut_38 : decode cX4_takeOut 38 = .ok (.iload 4, 2) := by decide +kernel
theorem dX4_takeOut_40 : decode cX4_takeOut 40 = .ok (.invokevirtual 208, 3) := by decide +kernel
theorem dX4_takeOut_43 : decode cX4_takeOut 43 = .ok (.aload_n 0, 1) := by decide +kernel
theorem dX4_takeOut_44 : decode cX4_takeOut 44 = .ok (.iload_n 1, 1) := by decide +kernel
theorem dX4_takeOut_45 : decode cX4_takeOut 45 = .ok (.iload_n 2, 1) := by decide +kernel
theorem dX4_takeOut_46 : decode cX4_takeOut 46 = .ok (.invokevirtual 231, 3) := by decide +kernel
theorem dX4_takeOut_49 : decode cX4_takeOut 49 = .ok (.iconst 1, 1) := by decide +kernel
theorem dX4_takeOut_50 : decode cX4_takeOut 50 = .ok (.ireturn, 1) := by decide +kernel
set_option maxRecDepth 20000 in
theorem ggX4_read_X2_admit : GoodIn wsX4_read wsX2_admit := goodIn_r _ [9, 10, 11, 12, 13, 14, 15, 16, 17, 8, 18, 19, 20, 21, 22, 23, 24, 47, 48, 49] rfl (by decide +kernel)
set_option maxRecDepth 20000 in
theorem gX4_read_X2_admit : GoodIn wsX4_read (wsV RX4 283 RX2 yX2_admit wsX2_admit) := goodIn_app (goodIn_of _ (by decide +kernel)) ggX4_read_X2_admit
theorem dX4_read_0 : decode cX4_read 0 = .ok (.iload_n 1, 1) := by decide +kernel
theorem dX4_read_1 : decode cX4_read 1 = .ok (.ifCond .ne 21, 3) := by decide +kernel
theorem dX4_read_4 : decode cX4_read 4 = .ok (.aload_n 0, 1) := by decide +kernel
theorem dX4_read_5 : decode cX4_read 5 = .ok (.getfield 18, 3) := by decide +kernel
theorem dX4_read_8 : decode cX4_read 8 = .ok (.iload_n 3, 1) := by decide +kernel
theorem dX4_read_9 : decode cX4_read 9 = .ok (.aaload, 1) := by decide +kernel
theorem dX4_read_10 : decode cX4_read 10 = .ok (.getfield 118, 3) := by decide +kernel
theorem dX4_read_13 : decode cX4_read 13 = .ok (.iload_n 2, 1) := by decide +kernel
theorem dX4_read_14 : decode cX4_read 14 = .ok (.iload 4, 2) := by decide +kernel
theorem dX4_read_16 : decode cX4_read 16 = .ok (.invokevirtual 283, 3) := by decide +kernel
theorem dX4_read_19 : decode cX4_read 19 = .ok (.goto 23, 3) := by decide +kernel
theorem dX4_read_22 : decode cX4_read 22 = .ok (.aload_n 0, 1) := by decide +kernel
theorem dX4_read_23 : decode cX4_read 23 = .ok (.getfield 18, 3) := by decide +kernel
theorem dX4_read_26 : decode cX4_read 26 = .ok (.iload_n 3, 1) := by decide +kernel
theorem dX4_read_27 : decode cX4_read 27 = .ok (.aaload, 1) := by decide +kernel
theorem dX4_read_28 : decode cX4_read 28 = .ok (.iload_n 3, 1) := by decide +kernel
theorem dX4_read_29 : decode cX4_read 29 = .ok (.putfield 258, 3) := by decide +kernel
theorem dX4_read_32 : decode cX4_read 32 = .ok (.aload_n 0, 1) := by decide +kernel
theorem dX4_read_33 : decode cX4_read 33 = .ok (.getfield 18, 3) := by decide +kernel
theorem dX4_read_36 : decode cX4_read 36 = .ok (.iload_n 3, 1) := by decide +kernel
theorem dX4_read_37 : decode cX4_read 37 = .ok (.aaload, 1) := by decide +kernel
theorem dX4_read_38 : decode cX4_read 38 = .ok (.iconst 0, 1) := by decide +kernel
theorem dX4_read_39 : decode cX4_read 39 = .ok (.putfield 178, 3) := by decide +kernel
theorem dX4_read_42 : decode cX4_read 42 = .ok (.return_, 1) := by decide +kernel
set_option maxRecDepth 20000 in
theorem ggX4_hang_X4_hasMarkFrom : GoodIn wsX4_hang wsX4_hasMarkFrom := goodIn_r _ [8, 1, 9, 10, 11, 12, 13, 14, 15, 16, 17, 18, 19, 31, 32, 33, 34, 35, 36, 37, 38, 39, 40, 41, 42, 43, 44, 45, 46, 47, 48, 49, 50, 51, 52, 53, 54, 55] rfl (by decide +kernel)
set_option maxRecDepth 20000 in
theorem gX4_hang_X4_hasMarkFrom : GoodIn wsX4_hang (wsV RX4 286 RX4 yX4_hasMarkFrom wsX4_hasMarkFrom) := goodIn_app (goodIn_of _ (by decide +kernel)) ggX4_hang_X4_hasMarkFrom
set_option maxRecDepth 20000 in
theorem ggX4_hang_X4_turnPointers : GoodIn wsX4_hang wsX4_turnPointers := goodIn_r _ [23, 1, 9, 10, 12, 31, 32, 33, 34, 35, 36, 37, 38, 39, 40, 41, 42, 43, 44, 45, 46, 47, 48, 49, 50, 51, 52, 53, 54, 55] rfl (by decide +kernel)
set_option maxRecDepth 20000 in
theorem gX4_hang_X4_turnPointers : GoodIn wsX4_hang (wsV RX4 289 RX4 yX4_turnPointers wsX4_turnPointers) := goodIn_app (goodIn_of _ (by decide +kernel)) ggX4_hang_X4_turnPointers
set_option maxRecDepth 20000 in
theorem ggX4_hang_X0_tie : GoodIn wsX4_hang wsX0_tie := goodIn_r _ [28, 29, 30, 41, 42, 43] rfl (by decide +kernel)
set_option maxRecDepth 20000 in
theorem gX4_hang_X0_tie : GoodIn wsX4_hang (wsV RX4 73 RX0 yX0_tie wsX0_tie) := goodIn_app (goodIn_of _ (by decide +kernel)) ggX4_hang_X0_tie
theorem dX4_hang_0 : decode cX4_hang 0 = .ok (.aload_n 0, 1) := by decide +kernel
theorem dX4_hang_1 : decode cX4_hang 1 = .ok (.iload_n 1, 1) := by decide +kernel
theorem dX4_hang_2 : decode cX4_hang 2 = .ok (.invokevirtual 286, 3) := by decide +kernel
theorem dX4_hang_5 : decode cX4_hang 5 = .ok (.ifCond .eq 6, 3) := by decide +kernel
theorem dX4_hang_8 : decode cX4_hang 8 = .ok (.bipush (-5), 2) := by decide +kernel
theorem dX4_hang_10 : decode cX4_hang 10 = .ok (.ireturn, 1) := by decide +kernel
theorem dX4_hang_11 : decode cX4_hang 11 = .ok (.aload_n 0, 1) := by decide +kernel
theorem dX4_hang_12 : decode cX4_hang 12 = .ok (.iload_n 1, 1) := by decide +kernel
theorem dX4_hang_13 : decode cX4_hang 13 = .ok (.iload_n 2, 1) := by decide +kernel
theorem dX4_hang_14 : decode cX4_hang 14 = .ok (.invokevirtual 289, 3) := by decide +kernel
theorem dX4_hang_17 : decode cX4_hang 17 = .ok (.aload_n 0, 1) := by decide +kernel
theorem dX4_hang_18 : decode cX4_hang 18 = .ok (.getfield 10, 3) := by decide +kernel
theorem dX4_hang_21 : decode cX4_hang 21 = .ok (.iload_n 1, 1) := by decide +kernel
theorem dX4_hang_22 : decode cX4_hang 22 = .ok (.iload_n 2, 1) := by decide +kernel
theorem dX4_hang_23 : decode cX4_hang 23 = .ok (.invokevirtual 73, 3) := by decide +kernel
theorem dX4_hang_26 : decode cX4_hang 26 = .ok (.aload_n 0, 1) := by decide +kernel
theorem dX4_hang_27 : decode cX4_hang 27 = .ok (.getfield 36, 3) := by decide +kernel
theorem dX4_hang_30 : decode cX4_hang 30 = .ok (.iload_n 1, 1) := by decide +kernel
theorem dX4_hang_31 : decode cX4_hang 31 = .ok (.aaload, 1) := by decide +kernel
theorem dX4_hang_32 : decode cX4_hang 32 = .ok (.iload_n 2, 1) := by decide +kernel
theorem dX4_hang_33 : decode cX4_hang 33 = .ok (.iconst 0, 1) := by decide +kernel
theorem dX4_hang_34 : decode cX4_hang 34 = .ok (.iastore, 1) := by decide +kernel
theorem dX4_hang_35 : decode cX4_hang 35 = .ok (.aload_n 0, 1) := by decide +kernel
theorem dX4_hang_36 : decode cX4_hang 36 = .ok (.getfield 36, 3) := by decide +kernel
theorem dX4_hang_39 : decode cX4_hang 39 = .ok (.iload_n 2, 1) := by decide +kernel
theorem dX4_hang_40 : decode cX4_hang 40 = .ok (.aaload, 1) := by decide +kernel
theorem dX4_hang_41 : decode cX4_hang 41 = .ok (.iload_n 1, 1) := by decide +kernel
theorem dX4_hang_42 : decode cX4_hang 42 = .ok (.iconst 0, 1) := by decide +kernel
theorem dX4_hang_43 : decode cX4_hang 43 = .ok (.iastore, 1) := by decide +kernel
theorem dX4_hang_44 : decode cX4_hang 44 = .ok (.aload_n 0, 1) := by decide +kernel
theorem dX4_hang_45 : decode cX4_hang 45 = .ok (.getfield 39, 3) := by decide +kernel
theorem dX4_hang_48 : decode cX4_hang 48 = .ok (.iload_n 1, 1) := by decide +kernel
theorem dX4_hang_49 : decode cX4_hang 49 = .ok (.aaload, 1) := by decide +kernel
theorem dX4_hang_50 : decode cX4_hang 50 = .ok (.iload_n 2, 1) := by decide +kernel
theorem dX4_hang_51 : decode cX4_hang 51 = .ok (.iconst 0, 1) := by decide +kernel
theorem dX4_hang_52 : decode cX4_hang 52 = .ok (.iastore, 1) := by decide +kernel
theorem dX4_hang_53 : decode cX4_hang 53 = .ok (.aload_n 0, 1) := by decide +kernel
theorem dX4_hang_54 : decode cX4_hang 54 = .ok (.getfield 39, 3) := by decide +kernel
theorem dX4_hang_57 : decode cX4_hang 57 = .ok (.iload_n 2, 1) := by decide +kernel
theorem dX4_hang_58 : decode cX4_hang 58 = .ok (.aaload, 1) := by decide +kernel
theorem dX4_hang_59 : decode cX4_hang 59 = .ok (.iload_n 1, 1) := by decide +kernel
theorem dX4_hang_60 : decode cX4_hang 60 = .ok (.iconst 0, 1) := by decide +kernel
theorem dX4_hang_61 : decode cX4_hang 61 = .ok (.iastore, 1) := by decide +kernel
theorem dX4_hang_62 : decode cX4_hang 62 = .ok (.iconst 0, 1) := by decide +kernel
theorem dX4_hang_63 : decode cX4_hang 63 = .ok (.ireturn, 1) := by decide +kernel
set_option maxRecDepth 20000 in
theorem ggX4_hasMarkFrom_X3_pointsAway : GoodIn wsX4_hasMarkFrom wsX3_pointsAway := goodIn_r _ [10, 11, 12, 26, 27, 28, 29, 30, 31, 32, 33, 34, 35, 36, 37] rfl (by decide +kernel)
set_option maxRecDepth 20000 in
theorem gX4_hasMarkFrom_X3_pointsAway : GoodIn wsX4_hasMarkFrom (wsV RX4 175 RX3 yX3_pointsAway wsX3_pointsAway) := goodIn_app (goodIn_of _ (by decide +kernel)) ggX4_hasMarkFrom_X3_pointsAway
theorem dX4_hasMarkFrom_0 : decode cX4_hasMarkFrom 0 = .ok (.iload_n 1, 1) := by decide +kernel
theorem dX4_hasMarkFrom_1 : decode cX4_hasMarkFrom 1 = .ok (.istore_n 2, 1) := by decide +kernel
theorem dX4_hasMarkFrom_2 : decode cX4_hasMarkFrom 2 = .ok (.iconst 0, 1) := by decide +kernel
theorem dX4_hasMarkFrom_3 : decode cX4_hasMarkFrom 3 = .ok (.istore_n 3, 1) := by decide +kernel
theorem dX4_hasMarkFrom_4 : decode cX4_hasMarkFrom 4 = .ok (.iload_n 3, 1) := by decide +kernel
theorem dX4_hasMarkFrom_5 : decode cX4_hasMarkFrom 5 = .ok (.aload_n 0, 1) := by decide +kernel
theorem dX4_hasMarkFrom_6 : decode cX4_hasMarkFrom 6 = .ok (.getfield 10, 3) := by decide +kernel
theorem dX4_hasMarkFrom_9 : decode cX4_hasMarkFrom 9 = .ok (.getfield 229, 3) := by decide +kernel
theorem dX4_hasMarkFrom_12 : decode cX4_hasMarkFrom 12 = .ok (.if_icmp .ge 45, 3) := by decide +kernel
theorem dX4_hasMarkFrom_15 : decode cX4_hasMarkFrom 15 = .ok (.aload_n 0, 1) := by decide +kernel
theorem dX4_hasMarkFrom_16 : decode cX4_hasMarkFrom 16 = .ok (.getfield 18, 3) := by decide +kernel
theorem dX4_hasMarkFrom_19 : decode cX4_hasMarkFrom 19 = .ok (.iload_n 2, 1) := by decide +kernel
theorem dX4_hasMarkFrom_20 : decode cX4_hasMarkFrom 20 = .ok (.aaload, 1) := by decide +kernel
theorem dX4_hasMarkFrom_21 : decode cX4_hasMarkFrom 21 = .ok (.invokevirtual 175, 3) := by decide +kernel
theorem dX4_hasMarkFrom_24 : decode cX4_hasMarkFrom 24 = .ok (.ifCond .eq 33, 3) := by decide +kernel
theorem dX4_hasMarkFrom_27 : decode cX4_hasMarkFrom 27 = .ok (.aload_n 0, 1) := by decide +kernel
theorem dX4_hasMarkFrom_28 : decode cX4_hasMarkFrom 28 = .ok (.getfield 18, 3) := by decide +kernel
theorem dX4_hasMarkFrom_31 : decode cX4_hasMarkFrom 31 = .ok (.iload_n 2, 1) := by decide +kernel
theorem dX4_hasMarkFrom_32 : decode cX4_hasMarkFrom 32 = .ok (.aaload, 1) := by decide +kernel
theorem dX4_hasMarkFrom_33 : decode cX4_hasMarkFrom 33 = .ok (.getfield 178, 3) := by decide +kernel
theorem dX4_hasMarkFrom_36 : decode cX4_hasMarkFrom 36 = .ok (.ifCond .eq 5, 3) := by decide +kernel
theorem dX4_hasMarkFrom_39 : decode cX4_hasMarkFrom 39 = .ok (.iconst 1, 1) := by decide +kernel
theorem dX4_hasMarkFrom_40 : decode cX4_hasMarkFrom 40 = .ok (.ireturn, 1) := by decide +kernel
theorem dX4_hasMarkFrom_41 : decode cX4_hasMarkFrom 41 = .ok (.aload_n 0, 1) := by decide +kernel
theorem dX4_hasMarkFrom_42 : decode cX4_hasMarkFrom 42 = .ok (.getfield 18, 3) := by decide +kernel
theorem dX4_hasMarkFrom_45 : decode cX4_hasMarkFrom 45 = .ok (.iload_n 2, 1) := by decide +kernel
theorem dX4_hasMarkFrom_46 : decode cX4_hasMarkFrom 46 = .ok (.aaload, 1) := by decide +kernel
theorem dX4_hasMarkFrom_47 : decode cX4_hasMarkFrom 47 = .ok (.getfield 258, 3) := by decide +kernel
theorem dX4_hasMarkFrom_50 : decode cX4_hasMarkFrom 50 = .ok (.istore_n 2, 1) := by decide +kernel
theorem dX4_hasMarkFrom_51 : decode cX4_hasMarkFrom 51 = .ok (.iinc 3 1, 3) := by decide +kernel
theorem dX4_hasMarkFrom_54 : decode cX4_hasMarkFrom 54 = .ok (.goto (-50), 3) := by decide +kernel
theorem dX4_hasMarkFrom_57 : decode cX4_hasMarkFrom 57 = .ok (.iconst 0, 1) := by decide +kernel
theorem dX4_hasMarkFrom_58 : decode cX4_hasMarkFrom 58 = .ok (.ireturn, 1) := by decide +kernel
theorem dX4_turnPointers_0 : decode cX4_turnPointers 0 = .ok (.iload_n 1, 1) := by decide +kernel
theorem dX4_turnPointers_1 : decode cX4_turnPointers 1 = .ok (.istore_n 3, 1) := by decide +kernel
theorem dX4_turnPointers_2 : decode cX4_turnPointers 2 = .ok (.iload_n 2, 1) := by decide +kernel
theorem dX4_turnPointers_3 : decode cX4_turnPointers 3 = .ok (.istore 4, 2) := by decide +kernel
theorem dX4_turnPointers_5 : decode cX4_turnPointers 5 = .ok (.iconst 0, 1) := by decide +kernel
theorem dX4_turnPointers_6 : decode cX4_turnPointers 6 = .ok (.istore 5, 2) := by decide +kernel
theorem dX4_turnPointers_8 : decode cX4_turnPointers 8 = .ok (.iload 5, 2) := by decide +kernel
theorem dX4_turnPointers_10 : decode cX4_turnPointers 10 = .ok (.aload_n 0, 1) := by decide +kernel
theorem dX4_turnPointers_11 : decode cX4_turnPointers 11 = .ok (.getfield 10, 3) := by decide +kernel
theorem dX4_turnPointers_14 : decode cX4_turnPointers 14 = .ok (.getfield 229, 3) := by decide +kernel
theorem dX4_turnPointers_17 : decode cX4_turnPointers 17 = .ok (.if_icmp .ge 43, 3) := by decide +kernel
theorem dX4_turnPointers_20 : decode cX4_turnPointers 20 = .ok (.iload_n 3, 1) := by decide +kernel
theorem dX4_turnPointers_21 : decode cX4_turnPointers 21 = .ok (.bipush (-2), 2) := by decide +kernel
theorem dX4_turnPointers_23 : decode cX4_turnPointers 23 = .ok (.if_icmp .eq 37, 3) := by decide +kernel
theorem dX4_turnPointers_26 : decode cX4_turnPointers 26 = .ok (.aload_n 0, 1) := by decide +kernel
theorem dX4_turnPointers_27 : decode cX4_turnPointers 27 = .ok (.getfield 18, 3) := by decide +kernel
theorem dX4_turnPointers_30 : decode cX4_turnPointers 30 = .ok (.iload_n 3, 1) := by decide +kernel
theorem dX4_turnPointers_31 : decode cX4_turnPointers 31 = .ok (.aaload, 1) := by decide +kernel
theorem dX4_turnPointers_32 : decode cX4_turnPointers 32 = .ok (.getfield 258, 3) := by decide +kernel
theorem dX4_turnPointers_35 : decode cX4_turnPointers 35 = .ok (.istore 6, 2) := by decide +kernel
theorem dX4_turnPointers_37 : decode cX4_turnPointers 37 = .ok (.aload_n 0, 1) := by decide +kernel
theorem dX4_turnPointers_38 : decode cX4_turnPointers 38 = .ok (.getfield 18, 3) := by decide +kernel
theorem dX4_turnPointers_41 : decode cX4_turnPointers 41 = .ok (.iload_n 3, 1) := by decide +kernel
theorem dX4_turnPointers_42 : decode cX4_turnPointers 42 = .ok (.aaload, 1) := by decide +kernel
theorem dX4_turnPointers_43 : decode cX4_turnPointers 43 = .ok (.iload 4, 2) := by decide +kernel
theorem dX4_turnPointers_45 : decode cX4_turnPointers 45 = .ok (.putfield 258, 3) := by decide +kernel
theorem dX4_turnPointers_48 : decode cX4_turnPointers 48 = .ok (.iload_n 3, 1) := by decide +kernel
theorem dX4_turnPointers_49 : decode cX4_turnPointers 49 = .ok (.istore 4, 2) := by decide +kernel
theorem dX4_turnPointers_51 : decode cX4_turnPointers 51 = .ok (.iload 6, 2) := by decide +kernel
theorem dX4_turnPointers_53 : decode cX4_turnPointers 53 = .ok (.istore_n 3, 1) := by decide +kernel
theorem dX4_turnPointers_54 : decode cX4_turnPointers 54 = .ok (.iinc 5 1, 3) := by decide +kernel
theorem dX4_turnPointers_57 : decode cX4_turnPointers 57 = .ok (.goto (-49), 3) := by decide +kernel
theorem dX4_turnPointers_60 : decode cX4_turnPointers 60 = .ok (.return_, 1) := by decide +kernel
set_option maxRecDepth 20000 in
theorem ggX4_whoHolds_X3_holds : GoodIn wsX4_whoHolds wsX3_holds := goodIn_r _ [8, 9, 10, 24, 25, 26, 27, 28, 29, 30, 31, 32, 33, 34, 35] rfl (by decide +kernel)
set_option maxRecDepth 20000 in
theorem gX4_whoHolds_X3_holds : GoodIn wsX4_whoHolds (wsV RX4 139 RX3 yX3_holds wsX3_holds) := goodIn_app (goodIn_of _ (by decide +kernel)) ggX4_whoHolds_X3_holds
theorem dX4_whoHolds_0 : decode cX4_whoHolds 0 = .ok (.iconst 0, 1) := by decide +kernel
theorem dX4_whoHolds_1 : decode cX4_whoHolds 1 = .ok (.istore_n 1, 1) := by decide +kernel
theorem dX4_whoHolds_2 : decode cX4_whoHolds 2 = .ok (.iload_n 1, 1) := by decide +kernel
theorem dX4_whoHolds_3 : decode cX4_whoHolds 3 = .ok (.aload_n 0, 1) := by decide +kernel
theorem dX4_whoHolds_4 : decode cX4_whoHolds 4 = .ok (.getfield 10, 3) := by decide +kernel
theorem dX4_whoHolds_7 : decode cX4_whoHolds 7 = .ok (.getfield 229, 3) := by decide +kernel
theorem dX4_whoHolds_10 : decode cX4_whoHolds 10 = .ok (.if_icmp .ge 23, 3) := by decide +kernel
theorem dX4_whoHolds_13 : decode cX4_whoHolds 13 = .ok (.aload_n 0, 1) := by decide +kernel
theorem dX4_whoHolds_14 : decode cX4_whoHolds 14 = .ok (.getfield 18, 3) := by decide +kernel
theorem dX4_whoHolds_17 : decode cX4_whoHolds 17 = .ok (.iload_n 1, 1) := by decide +kernel
theorem dX4_whoHolds_18 : decode cX4_whoHolds 18 = .ok (.aaload, 1) := by decide +kernel
theorem dX4_whoHolds_19 : decode cX4_whoHolds 19 = .ok (.invokevirtual 139, 3) := by decide +kernel
theorem dX4_whoHolds_22 : decode cX4_whoHolds 22 = .ok (.ifCond .eq 5, 3) := by decide +kernel
theorem dX4_whoHolds_25 : decode cX4_whoHolds 25 = .ok (.iload_n 1, 1) := by decide +kernel
theorem dX4_whoHolds_26 : decode cX4_whoHolds 26 = .ok (.ireturn, 1) := by decide +kernel
theorem dX4_whoHolds_27 : decode cX4_whoHolds 27 = .ok (.iinc 1 1, 3) := by decide +kernel
theorem dX4_whoHolds_30 : decode cX4_whoHolds 30 = .ok (.goto (-28), 3) := by decide +kernel
theorem dX4_whoHolds_33 : decode cX4_whoHolds 33 = .ok (.bipush (-2), 2) := by decide +kernel
theorem dX4_whoHolds_35 : decode cX4_whoHolds 35 = .ok (.ireturn, 1) := by decide +kernel
theorem dX4_whoPumps_0 : decode cX4_whoPumps 0 = .ok (.iconst 0, 1) := by decide +kernel
theorem dX4_whoPumps_1 : decode cX4_whoPumps 1 = .ok (.istore_n 1, 1) := by decide +kernel
theorem dX4_whoPumps_2 : decode cX4_whoPumps 2 = .ok (.iload_n 1, 1) := by decide +kernel
theorem dX4_whoPumps_3 : decode cX4_whoPumps 3 = .ok (.aload_n 0, 1) := by decide +kernel
theorem dX4_whoPumps_4 : decode cX4_whoPumps 4 = .ok (.getfield 10, 3) := by decide +kernel
theorem dX4_whoPumps_7 : decode cX4_whoPumps 7 = .ok (.getfield 229, 3) := by decide +kernel
theorem dX4_whoPumps_10 : decode cX4_whoPumps 10 = .ok (.if_icmp .ge 23, 3) := by decide +kernel
theorem dX4_whoPumps_13 : decode cX4_whoPumps 13 = .ok (.aload_n 0, 1) := by decide +kernel
theorem dX4_whoPumps_14 : decode cX4_whoPumps 14 = .ok (.getfield 18, 3) := by decide +kernel
theorem dX4_whoPumps_17 : decode cX4_whoPumps 17 = .ok (.iload_n 1, 1) := by decide +kernel
theorem dX4_whoPumps_18 : decode cX4_whoPumps 18 = .ok (.aaload, 1) := by decide +kernel
theorem dX4_whoPumps_19 : decode cX4_whoPumps 19 = .ok (.getfield 111, 3) := by decide +kernel
theorem dX4_whoPumps_22 : decode cX4_whoPumps 22 = .ok (.ifCond .eq 5, 3) := by decide +kernel
theorem dX4_whoPumps_25 : decode cX4_whoPumps 25 = .ok (.iload_n 1, 1) := by decide +kernel
theorem dX4_whoPumps_26 : decode cX4_whoPumps 26 = .ok (.ireturn, 1) := by decide +kernel
theorem dX4_whoPumps_27 : decode cX4_whoPumps 27 = .ok (.iinc 1 1, 3) := by decide +kernel
theorem dX4_whoPumps_30 : decode cX4_whoPumps 30 = .ok (.goto (-28), 3) := by decide +kernel
theorem dX4_whoPumps_33 : decode cX4_whoPumps 33 = .ok (.bipush (-2), 2) := by decide +kernel
theorem dX4_whoPumps_35 : decode cX4_whoPumps 35 = .ok (.ireturn, 1) := by decide +kernel
set_option maxRecDepth 20000 in
theorem ggX4_placeOfRight_X4_whoHolds : GoodIn wsX4_placeOfRight wsX4_whoHolds := goodIn_r _ [12, 13, 14, 15, 16, 17, 18, 19, 20, 21, 22, 23, 24, 25, 26, 27, 28, 29, 30, 31, 32, 39, 40, 41, 42, 43, 44, 45, 46, 47, 48, 49, 50, 51, 52, 53] rfl (by decide +kernel)
set_option maxRecDepth 20000 in
theorem gX4_placeOfRight_X4_whoHolds : GoodIn wsX4_placeOfRight (wsV RX4 255 RX4 yX4_whoHolds wsX4_whoHolds) := goodIn_app (goodIn_of _ (by decide +kernel)) ggX4_placeOfRight_X4_whoHolds
theorem dX4_placeOfRight_0 : decode cX4_placeOfRight 0 = .ok (.aload_n 0, 1) := by decide +kernel
theorem dX4_placeOfRight_1 : decode cX4_placeOfRight 1 = .ok (.invokevirtual 255, 3) := by decide +kernel
theorem dX4_placeOfRight_4 : decode cX4_placeOfRight 4 = .ok (.istore_n 1, 1) := by decide +kernel
theorem dX4_placeOfRight_5 : decode cX4_placeOfRight 5 = .ok (.iconst 0, 1) := by decide +kernel
theorem dX4_placeOfRight_6 : decode cX4_placeOfRight 6 = .ok (.istore_n 2, 1) := by decide +kernel
theorem dX4_placeOfRight_7 : decode cX4_placeOfRight 7 = .ok (.iload_n 2, 1) := by decide +kernel
theorem dX4_placeOfRight_8 : decode cX4_placeOfRight 8 = .ok (.aload_n 0, 1) := by decide +kernel
theorem dX4_placeOfRight_9 : decode cX4_placeOfRight 9 = .ok (.getfield 27, 3) := by decide +kernel
theorem dX4_placeOfRight_12 : decode cX4_placeOfRight 12 = .ok (.getfield 94, 3) := by decide +kernel
theorem dX4_placeOfRight_15 : decode cX4_placeOfRight 15 = .ok (.if_icmp .ge 68, 3) := by decide +kernel
theorem dX4_placeOfRight_18 : decode cX4_placeOfRight 18 = .ok (.iload_n 1, 1) := by decide +kernel
theorem dX4_placeOfRight_19 : decode cX4_placeOfRight 19 = .ok (.bipush (-2), 2) := by decide +kernel
theorem dX4_placeOfRight_21 : decode cX4_placeOfRight 21 = .ok (.if_icmp .ne 62, 3) := by decide +kernel
theorem dX4_placeOfRight_24 : decode cX4_placeOfRight 24 = .ok (.aload_n 0, 1) := by decide +kernel
theorem dX4_placeOfRight_25 : decode cX4_placeOfRight 25 = .ok (.getfield 27, 3) := by decide +kernel
theorem dX4_placeOfRight_28 : decode cX4_placeOfRight 28 = .ok (.getfield 196, 3) := by decide +kernel
theorem dX4_placeOfRight_31 : decode cX4_placeOfRight 31 = .ok (.iload_n 2, 1) := by decide +kernel
theorem dX4_placeOfRight_32 : decode cX4_placeOfRight 32 = .ok (.iaload, 1) := by decide +kernel
theorem dX4_placeOfRight_33 : decode cX4_placeOfRight 33 = .ok (.istore_n 3, 1) := by decide +kernel
theorem dX4_placeOfRight_34 : decode cX4_placeOfRight 34 = .ok (.aload_n 0, 1) := by decide +kernel
theorem dX4_placeOfRight_35 : decode cX4_placeOfRight 35 = .ok (.getfield 27, 3) := by decide +kernel
theorem dX4_placeOfRight_38 : decode cX4_placeOfRight 38 = .ok (.getfield 193, 3) := by decide +kernel
theorem dX4_placeOfRight_41 : decode cX4_placeOfRight 41 = .ok (.iload_n 2, 1) := by decide +kernel
theorem dX4_placeOfRight_42 : decode cX4_placeOfRight 42 = .ok (.iaload, 1) := by decide +kernel
theorem dX4_placeOfRight_43 : decode cX4_placeOfRight 43 = .ok (.iconst 1, 1) := by decide +kernel
theorem dX4_placeOfRight_44 : decode cX4_placeOfRight 44 = .ok (.if_icmp .ne 33, 3) := by decide +kernel
theorem dX4_placeOfRight_47 : decode cX4_placeOfRight 47 = .ok (.aload_n 0, 1) := by decide +kernel
theorem dX4_placeOfRight_48 : decode cX4_placeOfRight 48 = .ok (.getfield 27, 3) := by decide +kernel
theorem dX4_placeOfRight_51 : decode cX4_placeOfRight 51 = .ok (.getfield 202, 3) := by decide +kernel
theorem dX4_placeOfRight_54 : decode cX4_placeOfRight 54 = .ok (.iload_n 2, 1) := by decide +kernel
theorem dX4_placeOfRight_55 : decode cX4_placeOfRight 55 = .ok (.iaload, 1) := by decide +kernel
theorem dX4_placeOfRight_56 : decode cX4_placeOfRight 56 = .ok (.aload_n 0, 1) := by decide +kernel
theorem dX4_placeOfRight_57 : decode cX4_placeOfRight 57 = .ok (.getfield 39, 3) := by decide +kernel
theorem dX4_placeOfRight_60 : decode cX4_placeOfRight 60 = .ok (.iload_n 3, 1) := by decide +kernel
theorem dX4_placeOfRight_61 : decode cX4_placeOfRight 61 = .ok (.aaload, 1) := by decide +kernel
theorem dX4_placeOfRight_62 : decode cX4_placeOfRight 62 = .ok (.aload_n 0, 1) := by decide +kernel
theorem dX4_placeOfRight_63 : decode cX4_placeOfRight 63 = .ok (.getfield 27, 3) := by decide +kernel
theorem dX4_placeOfRight_66 : decode cX4_placeOfRight 66 = .ok (.getfield 199, 3) := by decide +kernel
theorem dX4_placeOfRight_69 : decode cX4_placeOfRight 69 = .ok (.iload_n 2, 1) := by decide +kernel
theorem dX4_placeOfRight_70 : decode cX4_placeOfRight 70 = .ok (.iaload, 1) := by decide +kernel
theorem dX4_placeOfRight_71 : decode cX4_placeOfRight 71 = .ok (.iaload, 1) := by decide +kernel
theorem dX4_placeOfRight_72 : decode cX4_placeOfRight 72 = .ok (.if_icmp .lt 5, 3) := by decide +kernel
theorem dX4_placeOfRight_75 : decode cX4_placeOfRight 75 = .ok (.iload_n 3, 1) := by decide +kernel
theorem dX4_placeOfRight_76 : decode cX4_placeOfRight 76 = .ok (.istore_n 1, 1) := by decide +kernel
theorem dX4_placeOfRight_77 : decode cX4_placeOfRight 77 = .ok (.iinc 2 1, 3) := by decide +kernel
theorem dX4_placeOfRight_80 : decode cX4_placeOfRight 80 = .ok (.goto (-73), 3) := by decide +kernel
theorem dX4_placeOfRight_83 : decode cX4_placeOfRight 83 = .ok (.iload_n 1, 1) := by decide +kernel
theorem dX4_placeOfRight_84 : decode cX4_placeOfRight 84 = .ok (.ireturn, 1) := by decide +kernel
theorem dX4_closeGap_0 : decode cX4_closeGap 0 = .ok (.aload_n 0, 1) := by decide +kernel
theorem dX4_closeGap_1 : decode cX4_closeGap 1 = .ok (.iload_n 1, 1) := by decide +kernel
theorem dX4_closeGap_2 : decode cX4_closeGap 2 = .ok (.iconst 1, 1) := by decide +kernel
theorem dX4_closeGap_3 : decode cX4_closeGap 3 = .ok (.iadd, 1) := by decide +kernel
theorem dX4_closeGap_4 : decode cX4_closeGap 4 = .ok (.aload_n 0, 1) := by decide +kernel
theorem dX4_closeGap_5 : decode cX4_closeGap 5 = .ok (.iload_n 1, 1) := by decide +kernel
theorem dX4_closeGap_6 : decode cX4_closeGap 6 = .ok (.iload_n 2, 1) := by decide +kernel
theorem dX4_closeGap_7 : decode cX4_closeGap 7 = .ok (.iload_n 1, 1) := by decide +kernel
theorem dX4_closeGap_8 : decode cX4_closeGap 8 = .ok (.isub, 1) := by decide +kernel
theorem dX4_closeGap_9 : decode cX4_closeGap 9 = .ok (.iconst 1, 1) := by decide +kernel
theorem dX4_closeGap_10 : decode cX4_closeGap 10 = .ok (.isub, 1) := by decide +kernel
theorem dX4_closeGap_11 : decode cX4_closeGap 11 = .ok (.invokestatic 292, 3) := by decide +kernel
theorem dX4_closeGap_14 : decode cX4_closeGap 14 = .ok (.return_, 1) := by decide +kernel
set_option maxRecDepth 20000 in
theorem ggX5_init_X5_begin2 : GoodIn wsX5_init wsX5_begin2 := goodIn_r _ [35, 36, 37, 38, 34, 39, 40, 41, 42, 5, 43, 44, 45, 46, 29, 47, 48, 49, 50, 51, 52, 53, 54, 55, 56, 57, 58, 59, 60, 61, 62, 63, 64, 65, 66, 67, 19, 20, 7, 8, 9, 10, 11, 12, 13, 14, 15, 16, 68, 69, 70, 71, 72, 73, 74, 75, 76, 77, 78, 79, 80, 81, 82, 83, 84, 85, 86, 87, 88, 89, 90, 91, 92, 93, 94, 95, 96, 97, 98, 99, 100] rfl (by decide +kernel)
set_option maxRecDepth 20000 in
theorem gX5_init_X5_begin2 : GoodIn wsX5_init (wsV RX5 86 RX5 yX5_begin2 wsX5_begin2) := goodIn_app (goodIn_of _ (by decide +kernel)) ggX5_init_X5_begin2
theorem dX5_init_0 : decode cX5_init 0 = .ok (.aload_n 0, 1) := by decide +kernel
theorem dX5_init_1 : decode cX5_init 1 = .ok (.invokespecial 1, 3) := by decide +kernel
theorem dX5_init_4 : decode cX5_init 4 = .ok (.aload_n 0, 1) := by decide +kernel
theorem dX5_init_5 : decode cX5_init 5 = .ok (.sipush 576, 3) := by decide +kernel
theorem dX5_init_8 : decode cX5_init 8 = .ok (.newarray .boolean, 2) := by decide +kernel
theorem dX5_init_10 : decode cX5_init 10 = .ok (.putfield 7, 3) := by decide +kernel
theorem dX5_init_13 : decode cX5_init 13 = .ok (.aload_n 0, 1) := by decide +kernel
theorem dX5_init_14 : decode cX5_init 14 = .ok (.bipush 24, 2) := by decide +kernel
theorem dX5_init_16 : decode cX5_init 16 = .ok (.newarray .int, 2) := by decide +kernel
theorem dX5_init_18 : decode cX5_init 18 = .ok (.putfield 13, 3) := by decide +kernel
theorem dX5_init_21 : decode cX5_init 21 = .ok (.aload_n 0, 1) := by decide +kernel
theorem dX5_init_22 : decode cX5_init 22 = .ok (.bipush 24, 2) := by decide +kernel
theorem dX5_init_24 : decode cX5_init 24 = .ok (.newarray .boolean, 2) := by decide +kernel
theorem dX5_init_26 : decode cX5_init 26 = .ok (.putfield 17, 3) := by decide +kernel
theorem dX5_init_29 : decode cX5_init 29 = .ok (.aload_n 0, 1) := by decide +kernel
theorem dX5_init_30 : decode cX5_init 30 = .ok (.bipush 24, 2) := by decide +kernel
theorem dX5_init_32 : decode cX5_init 32 = .ok (.newarray .boolean, 2) := by decide +kernel
theorem dX5_init_34 : decode cX5_init 34 = .ok (.putfield 20, 3) := by decide +kernel
theorem dX5_init_37 : decode cX5_init 37 = .ok (.aload_n 0, 1) := by decide +kernel
theorem dX5_init_38 : decode cX5_init 38 = .ok (.bipush 24, 2) := by decide +kernel
theorem dX5_init_40 : decode cX5_init 40 = .ok (.newarray .boolean, 2) := by decide +kernel
theorem dX5_init_42 : decode cX5_init 42 = .ok (.putfield 23, 3) := by decide +kernel
theorem dX5_init_45 : decode cX5_init 45 = .ok (.aload_n 0, 1) := by decide +kernel
theorem dX5_init_46 : decode cX5_init 46 = .ok (.bipush 24, 2) := by decide +kernel
theorem dX5_init_48 : decode cX5_init 48 = .ok (.newarray .int, 2) := by decide +kernel
theorem dX5_init_50 : decode cX5_init 50 = .ok (.putfield 26, 3) := by decide +kernel
theorem dX5_init_53 : decode cX5_init 53 = .ok (.aload_n 0, 1) := by decide +kernel
theorem dX5_init_54 : decode cX5_init 54 = .ok (.bipush 24, 2) := by decide +kernel
theorem dX5_init_56 : decode cX5_init 56 = .ok (.newarray .int, 2) := by decide +kernel
theorem dX5_init_58 : decode cX5_init 58 = .ok (.putfield 29, 3) := by decide +kernel
theorem dX5_init_61 : decode cX5_init 61 = .ok (.aload_n 0, 1) := by decide +kernel
theorem dX5_init_62 : decode cX5_init 62 = .ok (.bipush 24, 2) := by decide +kernel
theorem dX5_init_64 : decode cX5_init 64 = .ok (.newarray .int, 2) := by decide +kernel
theorem dX5_init_66 : decode cX5_init 66 = .ok (.putfield 32, 3) := by decide +kernel
theorem dX5_init_69 : decode cX5_init 69 = .ok (.aload_n 0, 1) := by decide +kernel
theorem dX5_init_70 : decode cX5_init 70 = .ok (.bipush 24, 2) := by decide +kernel
theorem dX5_init_72 : decode cX5_init 72 = .ok (.newarray .int, 2) := by decide +kernel
theorem dX5_init_74 : decode cX5_init 74 = .ok (.putfield 35, 3) := by decide +kernel
theorem dX5_init_77 : decode cX5_init 77 = .ok (.aload_n 0, 1) := by decide +kernel
theorem dX5_init_78 : decode cX5_init 78 = .ok (.bipush 24, 2) := by decide +kernel
theorem dX5_init_80 : decode cX5_init 80 = .ok (.newarray .int, 2) := by decide +kernel
theorem dX5_init_82 : decode cX5_init 82 = .ok (.putfield 38, 3) := by decide +kernel
theorem dX5_init_85 : decode cX5_init 85 = .ok (.aload_n 0, 1) := by decide +kernel
theorem dX5_init_86 : decode cX5_init 86 = .ok (.bipush 24, 2) := by decide +kernel
theorem dX5_init_88 : decode cX5_init 88 = .ok (.newarray .int, 2) := by decide +kernel
theorem dX5_init_90 : decode cX5_init 90 = .ok (.putfield 41, 3) := by decide +kernel
theorem dX5_init_93 : decode cX5_init 93 = .ok (.aload_n 0, 1) := by decide +kernel
theorem dX5_init_94 : decode cX5_init 94 = .ok (.sipush 576, 3) := by decide +kernel
theorem dX5_init_97 : decode cX5_init 97 = .ok (.newarray .int, 2) := by decide +kernel
theorem dX5_init_99 : decode cX5_init 99 = .ok (.putfield 44, 3) := by decide +kernel
theorem dX5_init_102 : decode cX5_init 102 = .ok (.aload_n 0, 1) := by decide +kernel
theorem dX5_init_103 : decode cX5_init 103 = .ok (.sipush 576, 3) := by decide +kernel
theorem dX5_init_106 : decode cX5_init 106 = .ok (.newarray .int, 2) := by decide +kernel
theorem dX5_init_108 : decode cX5_init 108 = .ok (.putfield 47, 3) := by decide +kernel
theorem dX5_init_111 : decode cX5_init 111 = .ok (.aload_n 0, 1) := by decide +kernel
theorem dX5_init_112 : decode cX5_init 112 = .ok (.sipush 576, 3) := by decide +kernel
theorem dX5_init_115 : decode cX5_init 115 = .ok (.newarray .int, 2) := by decide +kernel
theorem dX5_init_117 : decode cX5_init 117 = .ok (.putfield 50, 3) := by decide +kernel
theorem dX5_init_120 : decode cX5_init 120 = .ok (.aload_n 0, 1) := by decide +kernel
theorem dX5_init_121 : decode cX5_init 121 = .ok (.sipush 576, 3) := by decide +kernel
theorem dX5_init_124 : decode cX5_init 124 = .ok (.newarray .int, 2) := by decide +kernel
theorem dX5_init_126 : decode cX5_init 126 = .ok (.putfield 53, 3) := by decide +kernel
theorem dX5_init_129 : decode cX5_init 129 = .ok (.aload_n 0, 1) := by decide +kernel
theorem dX5_init_130 : decode cX5_init 130 = .ok (.sipush 3000, 3) := by decide +kernel
theorem dX5_init_133 : decode cX5_init 133 = .ok (.newarray .int, 2) := by decide +kernel
theorem dX5_init_135 : decode cX5_init 135 = .ok (.putfield 56, 3) := by decide +kernel
theorem dX5_init_138 : decode cX5_init 138 = .ok (.aload_n 0, 1) := by decide +kernel
theorem dX5_init_139 : decode cX5_init 139 = .ok (.sipush 3000, 3) := by decide +kernel
theorem dX5_init_142 : decode cX5_init 142 = .ok (.newarray .int, 2) := by decide +kernel
theorem dX5_init_144 : decode cX5_init 144 = .ok (.putfield 59, 3) := by decide +kernel
theorem dX5_init_147 : decode cX5_init 147 = .ok (.aload_n 0, 1) := by decide +kernel
theorem dX5_init_148 : decode cX5_init 148 = .ok (.sipush 3000, 3) := by decide +kernel
theorem dX5_init_151 : decode cX5_init 151 = .ok (.newarray .int, 2) := by decide +kernel
theorem dX5_init_153 : decode cX5_init 153 = .ok (.putfield 62, 3) := by decide +kernel
theorem dX5_init_156 : decode cX5_init 156 = .ok (.aload_n 0, 1) := by decide +kernel
theorem dX5_init_157 : decode cX5_init 157 = .ok (.sipush 3000, 3) := by decide +kernel
theorem dX5_init_160 : decode cX5_init 160 = .ok (.newarray .int, 2) := by decide +kernel
theorem dX5_init_162 : decode cX5_init 162 = .ok (.putfield 65, 3) := by decide +kernel
theorem dX5_init_165 : decode cX5_init 165 = .ok (.aload_n 0, 1) := by decide +kernel
theorem dX5_init_166 : decode cX5_init 166 = .ok (.bipush 60, 2) := by decide +kernel
theorem dX5_init_168 : decode cX5_init 168 = .ok (.newarray .int, 2) := by decide +kernel
theorem dX5_init_170 : decode cX5_init 170 = .ok (.putfield 68, 3) := by decide +kernel
theorem dX5_init_173 : decode cX5_init 173 = .ok (.aload_n 0, 1) := by decide +kernel
theorem dX5_init_174 : decode cX5_init 174 = .ok (.bipush 60, 2) := by decide +kernel
theorem dX5_init_176 : decode cX5_init 176 = .ok (.newarray .int, 2) := by decide +kernel
theorem dX5_init_178 : decode cX5_init 178 = .ok (.putfield 71, 3) := by decide +kernel
theorem dX5_init_181 : decode cX5_init 181 = .ok (.aload_n 0, 1) := by decide +kernel
theorem dX5_init_182 : decode cX5_init 182 = .ok (.bipush 60, 2) := by decide +kernel
theorem dX5_init_184 : decode cX5_init 184 = .ok (.newarray .int, 2) := by decide +kernel
theorem dX5_init_186 : decode cX5_init 186 = .ok (.putfield 74, 3) := by decide +kernel
theorem dX5_init_189 : decode cX5_init 189 = .ok (.aload_n 0, 1) := by decide +kernel
theorem dX5_init_190 : decode cX5_init 190 = .ok (.bipush 60, 2) := by decide +kernel
theorem dX5_init_192 : decode cX5_init 192 = .ok (.newarray .int, 2) := by decide +kernel
theorem dX5_init_194 : decode cX5_init 194 = .ok (.putfield 77, 3) := by decide +kernel
theorem dX5_init_197 : decode cX5_init 197 = .ok (.aload_n 0, 1) := by decide +kernel
theorem dX5_init_198 : decode cX5_init 198 = .ok (.bipush 24, 2) := by decide +kernel
theorem dX5_init_200 : decode cX5_init 200 = .ok (.newarray .int, 2) := by decide +kernel
theorem dX5_init_202 : decode cX5_init 202 = .ok (.putfield 80, 3) := by decide +kernel
theorem dX5_init_205 : decode cX5_init 205 = .ok (.aload_n 0, 1) := by decide +kernel
theorem dX5_init_206 : decode cX5_init 206 = .ok (.bipush 25, 2) := by decide +kernel
theorem dX5_init_208 : decode cX5_init 208 = .ok (.newarray .int, 2) := by decide +kernel
theorem dX5_init_210 : decode cX5_init 210 = .ok (.putfield 83, 3) := by decide +kernel
theorem dX5_init_213 : decode cX5_init 213 = .ok (.aload_n 0, 1) := by decide +kernel
theorem dX5_init_214 : decode cX5_init 214 = .ok (.invokevirtual 86, 3) := by decide +kernel
theorem dX5_init_217 : decode cX5_init 217 = .ok (.return_, 1) := by decide +kernel
set_option maxRecDepth 20000 in
theorem ggX5_begin2_X5_canal : GoodIn wsX5_begin2 wsX5_canal := goodIn_r _ [5, 6, 7, 8, 9, 48, 49, 50, 51, 52, 53, 54, 55, 56, 57, 58, 59, 60, 61, 62, 63, 64, 65, 66, 67, 68, 69, 70, 71, 72, 73, 74, 75, 76, 77, 78, 79, 80] rfl (by decide +kernel)
set_option maxRecDepth 20000 in
theorem gX5_begin2_X5_canal : GoodIn wsX5_begin2 (wsV RX5 89 RX5 yX5_canal wsX5_canal) := goodIn_app (goodIn_of _ (by decide +kernel)) ggX5_begin2_X5_canal
set_option maxRecDepth 20000 in
theorem ggX5_begin2_X5_link : GoodIn wsX5_begin2 wsX5_link := goodIn_r _ [13, 7, 14, 8, 15, 16, 17, 4, 18, 6, 9, 19, 20, 21, 22, 23, 24, 25, 26, 48, 49, 50, 51, 52, 53, 54, 55, 56, 57, 58, 59, 60, 61, 62, 63, 64, 65, 66, 67, 68, 69, 70, 71, 72, 73, 74, 75, 76, 77, 78, 79, 80] rfl (by decide +kernel)
set_option maxRecDepth 20000 in
theorem gX5_begin2_X5_link : GoodIn wsX5_begin2 (wsV RX5 93 RX5 yX5_link wsX5_link) := goodIn_app (goodIn_of _ (by decide +kernel)) ggX5_begin2_X5_link
set_option maxRecDepth 20000 in
theorem ggX5_begin2_X5_open : GoodIn wsX5_begin2 wsX5_open := goodIn_r _ [30, 7, 31, 32, 33, 34, 35, 36, 37, 6, 38, 39, 40, 41, 42, 43, 44, 45, 46, 47, 9, 19, 20, 21, 4, 22, 15, 16, 17, 18, 14, 48, 49, 50, 51, 52, 53, 54, 55, 56, 57, 58, 59, 60, 61, 62, 63, 64, 65, 66, 67, 68, 69, 70, 71, 72, 73, 74, 75, 76, 77, 78, 79, 80] rfl (by decide +kernel)
set_option maxRecDepth 20000 in
theorem gX5_begin2_X5_open : GoodIn wsX5_begin2 (wsV RX5 97 RX5 yX5_open wsX5_open) := goodIn_app (goodIn_of _ (by decide +kernel)) ggX5_begin2_X5_open
theorem dX5_begin2_0 : decode cX5_begin2 0 = .ok (.aload_n 0, 1) := by decide +kernel
theorem dX5_begin2_1 : decode cX5_begin2 1 = .ok (.iconst 2, 1) := by decide +kernel
theorem dX5_begin2_2 : decode cX5_begin2 2 = .ok (.invokevirtual 89, 3) := by decide +kernel
theorem dX5_begin2_5 : decode cX5_begin2 5 = .ok (.aload_n 0, 1) := by decide +kernel
theorem dX5_begin2_6 : decode cX5_begin2 6 = .ok (.iconst 0, 1) := by decide +kernel
theorem dX5_begin2_7 : decode cX5_begin2 7 = .ok (.iconst 1, 1) := by decide +kernel
theorem dX5_begin2_8 : decode cX5_begin2 8 = .ok (.invokevirtual 93, 3) := by decide +kernel
theorem dX5_begin2_11 : decode cX5_begin2 11 = .ok (.iadd, 1) := by decide +kernel
theorem dX5_begin2_12 : decode cX5_begin2 12 = .ok (.aload_n 0, 1) := by decide +kernel
theorem dX5_begin2_13 : decode cX5_begin2 13 = .ok (.iconst 0, 1) := by decide +kernel
theorem dX5_begin2_14 : decode cX5_begin2 14 = .ok (.iconst 0, 1) := by decide +kernel
theorem dX5_begin2_15 : decode cX5_begin2 15 = .ok (.iconst 1, 1) := by decide +kernel
theorem dX5_begin2_16 : decode cX5_begin2 16 = .ok (.invokevirtual 97, 3) := by decide +kernel
theorem dX5_begin2_19 : decode cX5_begin2 19 = .ok (.iadd, 1) := by decide +kernel
theorem dX5_begin2_20 : decode cX5_begin2 20 = .ok (.istore_n 1, 1) := by decide +kernel
theorem dX5_begin2_21 : decode cX5_begin2 21 = .ok (.return_, 1) := by decide +kernel
theorem dX5_isStation_0 : decode cX5_isStation 0 = .ok (.iload_n 1, 1) := by decide +kernel
theorem dX5_isStation_1 : decode cX5_isStation 1 = .ok (.ifCond .lt 15, 3) := by decide +kernel
theorem dX5_isStation_4 : decode cX5_isStation 4 = .ok (.iload_n 1, 1) := by decide +kernel
theorem dX5_isStation_5 : decode cX5_isStation 5 = .ok (.aload_n 0, 1) := by decide +kernel
theorem dX5_isStation_6 : decode cX5_isStation 6 = .ok (.getfield 101, 3) := by decide +kernel
theorem dX5_isStation_9 : decode cX5_isStation 9 = .ok (.if_icmp .ge 7, 3) := by decide +kernel
theorem dX5_isStation_12 : decode cX5_isStation 12 = .ok (.iconst 1, 1) := by decide +kernel
theorem dX5_isStation_13 : decode cX5_isStation 13 = .ok (.goto 4, 3) := by decide +kernel
theorem dX5_isStation_16 : decode cX5_isStation 16 = .ok (.iconst 0, 1) := by decide +kernel
theorem dX5_isStation_17 : decode cX5_isStation 17 = .ok (.ireturn, 1) := by decide +kernel
set_option maxRecDepth 20000 in
theorem ggX5_isUp_X5_isStation : GoodIn wsX5_isUp wsX5_isStation := goodIn_r _ [7, 8, 9, 10, 11, 12, 13, 14, 15, 16, 17, 18, 19, 20, 21, 22, 23, 24, 25, 26, 27, 28, 29, 30, 31, 32, 33, 34, 35, 36, 37, 38, 39, 40, 41] rfl (by decide +kernel)
set_option maxRecDepth 20000 in
theorem gX5_isUp_X5_isStation : GoodIn wsX5_isUp (wsV RX5 109 RX5 yX5_isStation wsX5_isStation) := goodIn_app (goodIn_of _ (by decide +kernel)) ggX5_isUp_X5_isStation
theorem dX5_isUp_0 : decode cX5_isUp 0 = .ok (.aload_n 0, 1) := by decide +kernel
theorem dX5_isUp_1 : decode cX5_isUp 1 = .ok (.getfield 105, 3) := by decide +kernel
theorem dX5_isUp_4 : decode cX5_isUp 4 = .ok (.ifCond .eq 24, 3) := by decide +kernel
theorem dX5_isUp_7 : decode cX5_isUp 7 = .ok (.aload_n 0, 1) := by decide +kernel
theorem dX5_isUp_8 : decode cX5_isUp 8 = .ok (.iload_n 1, 1) := by decide +kernel
theorem dX5_isUp_9 : decode cX5_isUp 9 = .ok (.invokevirtual 109, 3) := by decide +kernel
theorem dX5_isUp_12 : decode cX5_isUp 12 = .ok (.ifCond .eq 16, 3) := by decide +kernel
theorem dX5_isUp_15 : decode cX5_isUp 15 = .ok (.aload_n 0, 1) := by decide +kernel
theorem dX5_isUp_16 : decode cX5_isUp 16 = .ok (.getfield 23, 3) := by decide +kernel
theorem dX5_isUp_19 : decode cX5_isUp 19 = .ok (.iload_n 1, 1) := by decide +kernel
theorem dX5_isUp_20 : decode cX5_isUp 20 = .ok (.baload, 1) := by decide +kernel
theorem dX5_isUp_21 : decode cX5_isUp 21 = .ok (.ifCond .ne 7, 3) := by decide +kernel
theorem dX5_isUp_24 : decode cX5_isUp 24 = .ok (.iconst 1, 1) := by decide +kernel
theorem dX5_isUp_25 : decode cX5_isUp 25 = .ok (.goto 4, 3) := by decide +kernel
theorem dX5_isUp_28 : decode cX5_isUp 28 = .ok (.iconst 0, 1) := by decide +kernel
theorem dX5_isUp_29 : decode cX5_isUp 29 = .ok (.ireturn, 1) := by decide +kernel
theorem dX5_canal_0 : decode cX5_canal 0 = .ok (.iload_n 1, 1) := by decide +kernel
theorem dX5_canal_1 : decode cX5_canal 1 = .ok (.iconst 2, 1) := by decide +kernel
theorem dX5_canal_2 : decode cX5_canal 2 = .ok (.if_icmp .lt 9, 3) := by decide +kernel
theorem dX5_canal_5 : decode cX5_canal 5 = .ok (.iload_n 1, 1) := by decide +kernel
theorem dX5_canal_6 : decode cX5_canal 6 = .ok (.bipush 24, 2) := by decide +kernel
theorem dX5_canal_8 : decode cX5_canal 8 = .ok (.if_icmp .le 5, 3) := by decide +kernel
theorem dX5_canal_11 : decode cX5_canal 11 = .ok (.iconst (-1), 1) := by decide +kernel
theorem dX5_canal_12 : decode cX5_canal 12 = .ok (.ireturn, 1) := by decide +kernel
theorem dX5_canal_13 : decode cX5_canal 13 = .ok (.aload_n 0, 1) := by decide +kernel
theorem dX5_canal_14 : decode cX5_canal 14 = .ok (.iload_n 1, 1) := by decide +kernel
theorem dX5_canal_15 : decode cX5_canal 15 = .ok (.putfield 101, 3) := by decide +kernel
theorem dX5_canal_18 : decode cX5_canal 18 = .ok (.aload_n 0, 1) := by decide +kernel
theorem dX5_canal_19 : decode cX5_canal 19 = .ok (.iconst 0, 1) := by decide +kernel
theorem dX5_canal_20 : decode cX5_canal 20 = .ok (.putfield 105, 3) := by decide +kernel
theorem dX5_canal_23 : decode cX5_canal 23 = .ok (.aload_n 0, 1) := by decide +kernel
theorem dX5_canal_24 : decode cX5_canal 24 = .ok (.iconst 0, 1) := by decide +kernel
theorem dX5_canal_25 : decode cX5_canal 25 = .ok (.putfield 113, 3) := by decide +kernel
theorem dX5_canal_28 : decode cX5_canal 28 = .ok (.iconst 0, 1) := by decide +kernel
theorem dX5_canal_29 : decode cX5_canal 29 = .ok (.istore_n 2, 1) := by decide +kernel
theorem dX5_canal_30 : decode cX5_canal 30 = .ok (.iload_n 2, 1) := by decide +kernel
theorem dX5_canal_31 : decode cX5_canal 31 = .ok (.sipush 576, 3) := by decide +kernel
theorem dX5_canal_34 : decode cX5_canal 34 = .ok (.if_icmp .ge 16, 3) := by decide +kernel
theorem dX5_canal_37 : decode cX5_canal 37 = .ok (.aload_n 0, 1) := by decide +kernel
theorem dX5_canal_38 : decode cX5_canal 38 = .ok (.getfield 7, 3) := by decide +kernel
theorem dX5_canal_41 : decode cX5_canal 41 = .ok (.iload_n 2, 1) := by decide +kernel
theorem dX5_canal_42 : decode cX5_canal 42 = .ok (.iconst 0, 1) := by decide +kernel
theorem dX5_canal_43 : decode cX5_canal 43 = .ok (.bastore, 1) := by decide +kernel
theorem dX5_canal_44 : decode cX5_canal 44 = .ok (.iinc 2 1, 3) := by decide +kernel
theorem dX5_canal_47 : decode cX5_canal 47 = .ok (.goto (-17), 3) := by decide +kernel
theorem dX5_canal_50 : decode cX5_canal 50 = .ok (.iconst 0, 1) := by decide +kernel
theorem dX5_canal_51 : decode cX5_canal 51 = .ok (.ireturn, 1) := by decide +kernel
theorem dX5_part_0 : decode cX5_part 0 = .ok (.iconst 0, 1) := by decide +kernel
theorem dX5_part_1 : decode cX5_part 1 = .ok (.istore_n 1, 1) := by decide +kernel
theorem dX5_part_2 : decode cX5_part 2 = .ok (.iload_n 1, 1) := by decide +kernel
theorem dX5_part_3 : decode cX5_part 3 = .ok (.aload_n 0, 1) := by decide +kernel
theorem dX5_part_4 : decode cX5_part 4 = .ok (.getfield 101, 3) := by decide +kernel
theorem dX5_part_7 : decode cX5_part 7 = .ok (.if_icmp .ge 16, 3) := by decide +kernel
theorem dX5_part_10 : decode cX5_part 10 = .ok (.aload_n 0, 1) := by decide +kernel
theorem dX5_part_11 : decode cX5_part 11 = .ok (.getfield 80, 3) := by decide +kernel
theorem dX5_part_14 : decode cX5_part 14 = .ok (.iload_n 1, 1) := by decide +kernel
theorem dX5_part_15 : decode cX5_part 15 = .ok (.iload_n 1, 1) := by decide +kernel
theorem dX5_part_16 : decode cX5_part 16 = .ok (.iastore, 1) := by decide +kernel
theorem dX5_part_17 : decode cX5_part 17 = .ok (.iinc 1 1, 3) := by decide +kernel
theorem dX5_part_20 : decode cX5_part 20 = .ok (.goto (-18), 3) := by decide +kernel
theorem dX5_part_23 : decode cX5_part 23 = .ok (.iconst 0, 1) := by decide +kernel
theorem dX5_part_24 : decode cX5_part 24 = .ok (.istore_n 1, 1) := by decide +kernel
theorem dX5_part_25 : decode cX5_part 25 = .ok (.iload_n 1, 1) := by decide +kernel
theorem dX5_part_26 : decode cX5_part 26 = .ok (.aload_n 0, 1) := by decide +kernel
theorem dX5_part_27 : decode cX5_part 27 = .ok (.getfield 101, 3) := by decide +kernel
theorem dX5_part_30 : decode cX5_part 30 = .ok (.if_icmp .ge 91, 3) := by decide +kernel
theorem dX5_part_33 : decode cX5_part 33 = .ok (.iconst 0, 1) := by decide +kernel
theorem dX5_part_34 : decode cX5_part 34 = .ok (.istore_n 2, 1) := by decide +kernel
theorem dX5_part_35 : decode cX5_part 35 = .ok (.iload_n 2, 1) := by decide +kernel
theorem dX5_part_36 : decode cX5_part 36 = .ok (.aload_n 0, 1) := by decide +kernel
theorem dX5_part_37 : decode cX5_part 37 = .ok (.getfield 101, 3) := by decide +kernel
theorem dX5_part_40 : decode cX5_part 40 = .ok (.if_icmp .ge 75, 3) := by decide +kernel
theorem dX5_part_43 : decode cX5_part 43 = .ok (.iconst 0, 1) := by decide +kernel
theorem dX5_part_44 : decode cX5_part 44 = .ok (.istore_n 3, 1) := by decide +kernel
theorem dX5_part_45 : decode cX5_part 45 = .ok (.iload_n 3, 1) := by decide +kernel
theorem dX5_part_46 : decode cX5_part 46 = .ok (.aload_n 0, 1) := by decide +kernel
theorem dX5_part_47 : decode cX5_part 47 = .ok (.getfield 101, 3) := by decide +kernel
theorem dX5_part_50 : decode cX5_part 50 = .ok (.if_icmp .ge 59, 3) := by decide +kernel
theorem dX5_part_53 : decode cX5_part 53 = .ok (.aload_n 0, 1) := by decide +kernel
theorem dX5_part_54 : decode cX5_part 54 = .ok (.getfield 80, 3) := by decide +kernel
theorem dX5_part_57 : decode cX5_part 57 = .ok (.iload_n 2, 1) := by decide +kernel
theorem dX5_part_58 : decode cX5_part 58 = .ok (.aload_n 0, 1) := by decide +kernel
theorem dX5_part_59 : decode cX5_part 59 = .ok (.getfield 7, 3) := by decide +kernel
theorem dX5_part_62 : decode cX5_part 62 = .ok (.bipush 24, 2) := by decide +kernel
theorem dX5_part_64 : decode cX5_part 64 = .ok (.iload_n 2, 1) := by decide +kernel
theorem dX5_part_65 : decode cX5_part 65 = .ok (.imul, 1) := by decide +kernel
theorem dX5_part_66 : decode cX5_part 66 = .ok (.iload_n 3, 1) := by decide +kernel
theorem dX5_part_67 : decode cX5_part 67 = .ok (.iadd, 1) := by decide +kernel
theorem dX5_part_68 : decode cX5_part 68 = .ok (.baload, 1) := by decide +kernel
theorem dX5_part_69 : decode cX5_part 69 = .ok (.ifCond .eq 27, 3) := by decide +kernel
theorem dX5_part_72 : decode cX5_part 72 = .ok (.aload_n 0, 1) := by decide +kernel
theorem dX5_part_73 : decode cX5_part 73 = .ok (.getfield 80, 3) := by decide +kernel
theorem dX5_part_76 : decode cX5_part 76 = .ok (.iload_n 3, 1) := by decide +kernel
theorem dX5_part_77 : decode cX5_part 77 = .ok (.iaload, 1) := by decide +kernel
theorem dX5_part_78 : decode cX5_part 78 = .ok (.aload_n 0, 1) := by decide +kernel
theorem dX5_part_79 : decode cX5_part 79 = .ok (.getfield 80, 3) := by decide +kernel
theorem dX5_part_82 : decode cX5_part 82 = .ok (.iload_n 2, 1) := by decide +kernel
theorem dX5_part_83 : decode cX5_part 83 = .ok (.iaload, 1) := by decide +kernel
theorem dX5_part_84 : decode cX5_part 84 = .ok (.if_icmp .ge 12, 3) := by decide +kernel
theorem dX5_part_87 : decode cX5_part 87 = .ok (.aload_n 0, 1) := by decide +kernel
theorem dX5_part_88 : decode cX5_part 88 = .ok (.getfield 80, 3) := by decide +kernel
theorem dX5_part_91 : decode cX5_part 91 = .ok (.iload_n 3, 1) := by decide +kernel
theorem dX5_part_92 : decode cX5_part 92 = .ok (.iaload, 1) := by decide +kernel
theorem dX5_part_93 : decode cX5_part 93 = .ok (.goto 9, 3) := by decide +kernel
theorem dX5_part_96 : decode cX5_part 96 = .ok (.aload_n 0, 1) := by decide +kernel
theorem dX5_part_97 : decode cX5_part 97 = .ok (.getfield 80, 3) := by decide +kernel
theorem dX5_part_100 : decode cX5_part 100 = .ok (.iload_n 2, 1) := by decide +kernel
theorem dX5_part_101 : decode cX5_part 101 = .ok (.iaload, 1) := by decide +kernel
theorem dX5_part_102 : decode cX5_part 102 = .ok (.iastore, 1) := by decide +kernel
theorem dX5_part_103 : decode cX5_part 103 = .ok (.iinc 3 1, 3) := by decide +kernel
theorem dX5_part_106 : decode cX5_part 106 = .ok (.goto (-61), 3) := by decide +kernel
theorem dX5_part_109 : decode cX5_part 109 = .ok (.iinc 2 1, 3) := by decide +kernel
theorem dX5_part_112 : decode cX5_part 112 = .ok (.goto (-77), 3) := by decide +kernel
theorem dX5_part_115 : decode cX5_part 115 = .ok (.iinc 1 1, 3) := by decide +kernel
theorem dX5_part_118 : decode cX5_part 118 = .ok (.goto (-93), 3) := by decide +kernel
theorem dX5_part_121 : decode cX5_part 121 = .ok (.iconst 0, 1) := by decide +kernel
theorem dX5_part_122 : decode cX5_part 122 = .ok (.istore_n 1, 1) := by decide +kernel
theorem dX5_part_123 : decode cX5_part 123 = .ok (.iconst 0, 1) := by decide +kernel
theorem dX5_part_124 : decode cX5_part 124 = .ok (.istore_n 2, 1) := by decide +kernel
theorem dX5_part_125 : decode cX5_part 125 = .ok (.iload_n 2, 1) := by decide +kernel
theorem dX5_part_126 : decode cX5_part 126 = .ok (.aload_n 0, 1) := by decide +kernel
theorem dX5_part_127 : decode cX5_part 127 = .ok (.getfield 101, 3) := by decide +kernel
theorem dX5_part_130 : decode cX5_part 130 = .ok (.if_icmp .ge 27, 3) := by decide +kernel
theorem dX5_part_133 : decode cX5_part 133 = .ok (.iload_n 1, 1) := by decide +kernel
theorem dX5_part_134 : decode cX5_part 134 = .ok (.aload_n 0, 1) := by decide +kernel
theorem dX5_part_135 : decode cX5_part 135 = .ok (.getfield 80, 3) := by decide +kernel
theorem dX5_part_138 : decode cX5_part 138 = .ok (.iload_n 2, 1) := by decide +kernel
theorem dX5_part_139 : decode cX5_part 139 = .ok (.iaload, 1) := by decide +kernel
theorem dX5_part_140 : decode cX5_part 140 = .ok (.iload_n 2, 1) := by decide +kernel
theorem dX5_part_141 : decode cX5_part 141 = .ok (.if_icmp .ne 7, 3) := by decide +kernel
theorem dX5_part_144 : decode cX5_part 144 = .ok (.iconst 1, 1) := by decide +kernel
theorem dX5_part_145 : decode cX5_part 145 = .ok (.goto 4, 3) := by decide +kernel
theorem dX5_part_148 : decode cX5_part 148 = .ok (.iconst 0, 1) := by decide +kernel
theorem dX5_part_149 : decode cX5_part 149 = .ok (.iadd, 1) := by decide +kernel
theorem dX5_part_150 : decode cX5_part 150 = .ok (.istore_n 1, 1) := by decide +kernel
theorem dX5_part_151 : decode cX5_part 151 = .ok (.iinc 2 1, 3) := by decide +kernel
theorem dX5_part_154 : decode cX5_part 154 = .ok (.goto (-29), 3) := by decide +kernel
theorem dX5_part_157 : decode cX5_part 157 = .ok (.iload_n 1, 1) := by decide +kernel
theorem dX5_part_158 : decode cX5_part 158 = .ok (.ireturn, 1) := by decide +kernel
theorem dX5_join2_0 : decode cX5_join2 0 = .ok (.aload_n 0, 1) := by decide +kernel
theorem dX5_join2_1 : decode cX5_join2 1 = .ok (.getfield 7, 3) := by decide +kernel
