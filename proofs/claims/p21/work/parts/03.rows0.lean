theorem dX0_init_0 : decode cX0_init 0 = .ok (.aload_n 0, 1) := by decide +kernel
theorem dX0_init_1 : decode cX0_init 1 = .ok (.invokespecial 3, 3) := by decide +kernel
theorem dX0_init_4 : decode cX0_init 4 = .ok (.aload_n 0, 1) := by decide +kernel
theorem dX0_init_5 : decode cX0_init 5 = .ok (.bipush 24, 2) := by decide +kernel
theorem dX0_init_7 : decode cX0_init 7 = .ok (.newarray .int, 2) := by decide +kernel
theorem dX0_init_9 : decode cX0_init 9 = .ok (.putfield 9, 3) := by decide +kernel
theorem dX0_init_12 : decode cX0_init 12 = .ok (.return_, 1) := by decide +kernel
set_option maxRecDepth 20000 in
theorem ggX0_clear_J7_fill_53178 : GoodIn wsX0_clear wsJ7_fill_53178 := goodIn_r _ [7] rfl (by decide +kernel)
set_option maxRecDepth 20000 in
theorem gX0_clear_J7_fill_53178 : GoodIn wsX0_clear (va_wsS RX0 15 yJ7_fill_53178 wsJ7_fill_53178) := goodIn_app (goodIn_of _ (by decide +kernel)) ggX0_clear_J7_fill_53178
theorem dX0_clear_0 : decode cX0_clear 0 = .ok (.aload_n 0, 1) := by decide +kernel
theorem dX0_clear_1 : decode cX0_clear 1 = .ok (.getfield 9, 3) := by decide +kernel
theorem dX0_clear_4 : decode cX0_clear 4 = .ok (.iconst 0, 1) := by decide +kernel
theorem dX0_clear_5 : decode cX0_clear 5 = .ok (.invokestatic 15, 3) := by decide +kernel
theorem dX0_clear_8 : decode cX0_clear 8 = .ok (.aload_n 0, 1) := by decide +kernel
theorem dX0_clear_9 : decode cX0_clear 9 = .ok (.iload_n 1, 1) := by decide +kernel
theorem dX0_clear_10 : decode cX0_clear 10 = .ok (.putfield 21, 3) := by decide +kernel
theorem dX0_clear_13 : decode cX0_clear 13 = .ok (.aload_n 0, 1) := by decide +kernel
theorem dX0_clear_14 : decode cX0_clear 14 = .ok (.iconst 0, 1) := by decide +kernel
theorem dX0_clear_15 : decode cX0_clear 15 = .ok (.putfield 25, 3) := by decide +kernel
theorem dX0_clear_18 : decode cX0_clear 18 = .ok (.return_, 1) := by decide +kernel
theorem dX0_has_0 : decode cX0_has 0 = .ok (.iload_n 1, 1) := by decide +kernel
theorem dX0_has_1 : decode cX0_has 1 = .ok (.ifCond .lt 15, 3) := by decide +kernel
theorem dX0_has_4 : decode cX0_has 4 = .ok (.iload_n 1, 1) := by decide +kernel
theorem dX0_has_5 : decode cX0_has 5 = .ok (.aload_n 0, 1) := by decide +kernel
theorem dX0_has_6 : decode cX0_has 6 = .ok (.getfield 21, 3) := by decide +kernel
theorem dX0_has_9 : decode cX0_has 9 = .ok (.if_icmp .ge 7, 3) := by decide +kernel
theorem dX0_has_12 : decode cX0_has 12 = .ok (.iconst 1, 1) := by decide +kernel
theorem dX0_has_13 : decode cX0_has 13 = .ok (.goto 4, 3) := by decide +kernel
theorem dX0_has_16 : decode cX0_has 16 = .ok (.iconst 0, 1) := by decide +kernel
theorem dX0_has_17 : decode cX0_has 17 = .ok (.ireturn, 1) := by decide +kernel
set_option maxRecDepth 20000 in
theorem ggX0_linked_X4_contains : GoodIn wsX0_linked wsX4_contains := goodIn_r _ [4] rfl (by decide +kernel)
set_option maxRecDepth 20000 in
theorem gX0_linked_X4_contains_n28 : GoodIn wsX0_linked (wsX4_contains) := ggX0_linked_X4_contains
theorem dX0_linked_0 : decode cX0_linked 0 = .ok (.aload_n 0, 1) := by decide +kernel
theorem dX0_linked_1 : decode cX0_linked 1 = .ok (.getfield 9, 3) := by decide +kernel
theorem dX0_linked_4 : decode cX0_linked 4 = .ok (.iload_n 1, 1) := by decide +kernel
theorem dX0_linked_5 : decode cX0_linked 5 = .ok (.iaload, 1) := by decide +kernel
theorem dX0_linked_6 : decode cX0_linked 6 = .ok (.iload_n 2, 1) := by decide +kernel
theorem dX0_linked_7 : decode cX0_linked 7 = .ok (.invokestatic 28, 3) := by decide +kernel
theorem dX0_linked_10 : decode cX0_linked 10 = .ok (.ireturn, 1) := by decide +kernel
set_option maxRecDepth 20000 in
theorem ggX0_neighboursOf_J6_bitCount_0f7a4 : GoodIn wsX0_neighboursOf wsJ6_bitCount_0f7a4 := goodIn_r _ [5, 6, 7, 8] rfl (by decide +kernel)
set_option maxRecDepth 20000 in
theorem gX0_neighboursOf_J6_bitCount_0f7a4 : GoodIn wsX0_neighboursOf (va_wsS RX0 32 yJ6_bitCount_0f7a4 wsJ6_bitCount_0f7a4) := goodIn_app (goodIn_of _ (by decide +kernel)) ggX0_neighboursOf_J6_bitCount_0f7a4
theorem dX0_neighboursOf_0 : decode cX0_neighboursOf 0 = .ok (.aload_n 0, 1) := by decide +kernel
theorem dX0_neighboursOf_1 : decode cX0_neighboursOf 1 = .ok (.getfield 9, 3) := by decide +kernel
theorem dX0_neighboursOf_4 : decode cX0_neighboursOf 4 = .ok (.iload_n 1, 1) := by decide +kernel
theorem dX0_neighboursOf_5 : decode cX0_neighboursOf 5 = .ok (.iaload, 1) := by decide +kernel
theorem dX0_neighboursOf_6 : decode cX0_neighboursOf 6 = .ok (.invokestatic 32, 3) := by decide +kernel
theorem dX0_neighboursOf_9 : decode cX0_neighboursOf 9 = .ok (.ireturn, 1) := by decide +kernel
theorem dX0_tie_0 : decode cX0_tie 0 = .ok (.aload_n 0, 1) := by decide +kernel
theorem dX0_tie_1 : decode cX0_tie 1 = .ok (.getfield 9, 3) := by decide +kernel
theorem dX0_tie_4 : decode cX0_tie 4 = .ok (.iload_n 1, 1) := by decide +kernel
theorem dX0_tie_5 : decode cX0_tie 5 = .ok (.dup2, 1) := by decide +kernel
theorem dX0_tie_6 : decode cX0_tie 6 = .ok (.iaload, 1) := by decide +kernel
theorem dX0_tie_7 : decode cX0_tie 7 = .ok (.iconst 1, 1) := by decide +kernel
theorem dX0_tie_8 : decode cX0_tie 8 = .ok (.iload_n 2, 1) := by decide +kernel
theorem dX0_tie_9 : decode cX0_tie 9 = .ok (.ishl, 1) := by decide +kernel
theorem dX0_tie_10 : decode cX0_tie 10 = .ok (.ior, 1) := by decide +kernel
theorem dX0_tie_11 : decode cX0_tie 11 = .ok (.iastore, 1) := by decide +kernel
theorem dX0_tie_12 : decode cX0_tie 12 = .ok (.aload_n 0, 1) := by decide +kernel
theorem dX0_tie_13 : decode cX0_tie 13 = .ok (.getfield 9, 3) := by decide +kernel
theorem dX0_tie_16 : decode cX0_tie 16 = .ok (.iload_n 2, 1) := by decide +kernel
theorem dX0_tie_17 : decode cX0_tie 17 = .ok (.dup2, 1) := by decide +kernel
theorem dX0_tie_18 : decode cX0_tie 18 = .ok (.iaload, 1) := by decide +kernel
theorem dX0_tie_19 : decode cX0_tie 19 = .ok (.iconst 1, 1) := by decide +kernel
theorem dX0_tie_20 : decode cX0_tie 20 = .ok (.iload_n 1, 1) := by decide +kernel
theorem dX0_tie_21 : decode cX0_tie 21 = .ok (.ishl, 1) := by decide +kernel
theorem dX0_tie_22 : decode cX0_tie 22 = .ok (.ior, 1) := by decide +kernel
theorem dX0_tie_23 : decode cX0_tie 23 = .ok (.iastore, 1) := by decide +kernel
theorem dX0_tie_24 : decode cX0_tie 24 = .ok (.aload_n 0, 1) := by decide +kernel
theorem dX0_tie_25 : decode cX0_tie 25 = .ok (.dup, 1) := by decide +kernel
theorem dX0_tie_26 : decode cX0_tie 26 = .ok (.getfield 25, 3) := by decide +kernel
theorem dX0_tie_29 : decode cX0_tie 29 = .ok (.iconst 1, 1) := by decide +kernel
theorem dX0_tie_30 : decode cX0_tie 30 = .ok (.iadd, 1) := by decide +kernel
theorem dX0_tie_31 : decode cX0_tie 31 = .ok (.putfield 25, 3) := by decide +kernel
theorem dX0_tie_34 : decode cX0_tie 34 = .ok (.return_, 1) := by decide +kernel
theorem dX0_untie_0 : decode cX0_untie 0 = .ok (.aload_n 0, 1) := by decide +kernel
theorem dX0_untie_1 : decode cX0_untie 1 = .ok (.getfield 9, 3) := by decide +kernel
theorem dX0_untie_4 : decode cX0_untie 4 = .ok (.iload_n 1, 1) := by decide +kernel
theorem dX0_untie_5 : decode cX0_untie 5 = .ok (.dup2, 1) := by decide +kernel
theorem dX0_untie_6 : decode cX0_untie 6 = .ok (.iaload, 1) := by decide +kernel
theorem dX0_untie_7 : decode cX0_untie 7 = .ok (.iconst 1, 1) := by decide +kernel
theorem dX0_untie_8 : decode cX0_untie 8 = .ok (.iload_n 2, 1) := by decide +kernel
theorem dX0_untie_9 : decode cX0_untie 9 = .ok (.ishl, 1) := by decide +kernel
theorem dX0_untie_10 : decode cX0_untie 10 = .ok (.iconst (-1), 1) := by decide +kernel
theorem dX0_untie_11 : decode cX0_untie 11 = .ok (.ixor, 1) := by decide +kernel
theorem dX0_untie_12 : decode cX0_untie 12 = .ok (.iand, 1) := by decide +kernel
theorem dX0_untie_13 : decode cX0_untie 13 = .ok (.iastore, 1) := by decide +kernel
theorem dX0_untie_14 : decode cX0_untie 14 = .ok (.aload_n 0, 1) := by decide +kernel
theorem dX0_untie_15 : decode cX0_untie 15 = .ok (.getfield 9, 3) := by decide +kernel
theorem dX0_untie_18 : decode cX0_untie 18 = .ok (.iload_n 2, 1) := by decide +kernel
theorem dX0_untie_19 : decode cX0_untie 19 = .ok (.dup2, 1) := by decide +kernel
theorem dX0_untie_20 : decode cX0_untie 20 = .ok (.iaload, 1) := by decide +kernel
theorem dX0_untie_21 : decode cX0_untie 21 = .ok (.iconst 1, 1) := by decide +kernel
theorem dX0_untie_22 : decode cX0_untie 22 = .ok (.iload_n 1, 1) := by decide +kernel
theorem dX0_untie_23 : decode cX0_untie 23 = .ok (.ishl, 1) := by decide +kernel
theorem dX0_untie_24 : decode cX0_untie 24 = .ok (.iconst (-1), 1) := by decide +kernel
theorem dX0_untie_25 : decode cX0_untie 25 = .ok (.ixor, 1) := by decide +kernel
theorem dX0_untie_26 : decode cX0_untie 26 = .ok (.iand, 1) := by decide +kernel
theorem dX0_untie_27 : decode cX0_untie 27 = .ok (.iastore, 1) := by decide +kernel
theorem dX0_untie_28 : decode cX0_untie 28 = .ok (.aload_n 0, 1) := by decide +kernel
theorem dX0_untie_29 : decode cX0_untie 29 = .ok (.dup, 1) := by decide +kernel
theorem dX0_untie_30 : decode cX0_untie 30 = .ok (.getfield 25, 3) := by decide +kernel
theorem dX0_untie_33 : decode cX0_untie 33 = .ok (.iconst 1, 1) := by decide +kernel
theorem dX0_untie_34 : decode cX0_untie 34 = .ok (.isub, 1) := by decide +kernel
theorem dX0_untie_35 : decode cX0_untie 35 = .ok (.putfield 25, 3) := by decide +kernel
theorem dX0_untie_38 : decode cX0_untie 38 = .ok (.return_, 1) := by decide +kernel
set_option maxRecDepth 20000 in
theorem ggX0_partOf_X4_contains : GoodIn wsX0_partOf wsX4_contains := goodIn_r _ [5] rfl (by decide +kernel)
set_option maxRecDepth 20000 in
theorem gX0_partOf_X4_contains_n28 : GoodIn wsX0_partOf (wsX4_contains) := ggX0_partOf_X4_contains
theorem dX0_partOf_0 : decode cX0_partOf 0 = .ok (.iconst 1, 1) := by decide +kernel
theorem dX0_partOf_1 : decode cX0_partOf 1 = .ok (.iload_n 1, 1) := by decide +kernel
theorem dX0_partOf_2 : decode cX0_partOf 2 = .ok (.ishl, 1) := by decide +kernel
theorem dX0_partOf_3 : decode cX0_partOf 3 = .ok (.istore_n 2, 1) := by decide +kernel
theorem dX0_partOf_4 : decode cX0_partOf 4 = .ok (.iconst 1, 1) := by decide +kernel
theorem dX0_partOf_5 : decode cX0_partOf 5 = .ok (.istore_n 3, 1) := by decide +kernel
theorem dX0_partOf_6 : decode cX0_partOf 6 = .ok (.iload_n 3, 1) := by decide +kernel
theorem dX0_partOf_7 : decode cX0_partOf 7 = .ok (.aload_n 0, 1) := by decide +kernel
theorem dX0_partOf_8 : decode cX0_partOf 8 = .ok (.getfield 21, 3) := by decide +kernel
theorem dX0_partOf_11 : decode cX0_partOf 11 = .ok (.if_icmp .ge 46, 3) := by decide +kernel
theorem dX0_partOf_14 : decode cX0_partOf 14 = .ok (.iconst 0, 1) := by decide +kernel
theorem dX0_partOf_15 : decode cX0_partOf 15 = .ok (.istore 4, 2) := by decide +kernel
theorem dX0_partOf_17 : decode cX0_partOf 17 = .ok (.iload 4, 2) := by decide +kernel
theorem dX0_partOf_19 : decode cX0_partOf 19 = .ok (.aload_n 0, 1) := by decide +kernel
theorem dX0_partOf_20 : decode cX0_partOf 20 = .ok (.getfield 21, 3) := by decide +kernel
theorem dX0_partOf_23 : decode cX0_partOf 23 = .ok (.if_icmp .ge 28, 3) := by decide +kernel
theorem dX0_partOf_26 : decode cX0_partOf 26 = .ok (.iload_n 2, 1) := by decide +kernel
theorem dX0_partOf_27 : decode cX0_partOf 27 = .ok (.iload 4, 2) := by decide +kernel
theorem dX0_partOf_29 : decode cX0_partOf 29 = .ok (.invokestatic 28, 3) := by decide +kernel
theorem dX0_partOf_32 : decode cX0_partOf 32 = .ok (.ifCond .eq 13, 3) := by decide +kernel
theorem dX0_partOf_35 : decode cX0_partOf 35 = .ok (.iload_n 2, 1) := by decide +kernel
theorem dX0_partOf_36 : decode cX0_partOf 36 = .ok (.aload_n 0, 1) := by decide +kernel
theorem dX0_partOf_37 : decode cX0_partOf 37 = .ok (.getfield 9, 3) := by decide +kernel
theorem dX0_partOf_40 : decode cX0_partOf 40 = .ok (.iload 4, 2) := by decide +kernel
theorem dX0_partOf_42 : decode cX0_partOf 42 = .ok (.iaload, 1) := by decide +kernel
theorem dX0_partOf_43 : decode cX0_partOf 43 = .ok (.ior, 1) := by decide +kernel
theorem dX0_partOf_44 : decode cX0_partOf 44 = .ok (.istore_n 2, 1) := by decide +kernel
theorem dX0_partOf_45 : decode cX0_partOf 45 = .ok (.iinc 4 1, 3) := by decide +kernel
theorem dX0_partOf_48 : decode cX0_partOf 48 = .ok (.goto (-31), 3) := by decide +kernel
theorem dX0_partOf_51 : decode cX0_partOf 51 = .ok (.iinc 3 1, 3) := by decide +kernel
theorem dX0_partOf_54 : decode cX0_partOf 54 = .ok (.goto (-48), 3) := by decide +kernel
theorem dX0_partOf_57 : decode cX0_partOf 57 = .ok (.iload_n 2, 1) := by decide +kernel
theorem dX0_partOf_58 : decode cX0_partOf 58 = .ok (.ireturn, 1) := by decide +kernel
theorem dX0_parts_0 : decode cX0_parts 0 = .ok (.aload_n 0, 1) := by decide +kernel
theorem dX0_parts_1 : decode cX0_parts 1 = .ok (.getfield 21, 3) := by decide +kernel
theorem dX0_parts_4 : decode cX0_parts 4 = .ok (.aload_n 0, 1) := by decide +kernel
theorem dX0_parts_5 : decode cX0_parts 5 = .ok (.getfield 25, 3) := by decide +kernel
theorem dX0_parts_8 : decode cX0_parts 8 = .ok (.isub, 1) := by decide +kernel
theorem dX0_parts_9 : decode cX0_parts 9 = .ok (.ireturn, 1) := by decide +kernel
theorem dX1_init_0 : decode cX1_init 0 = .ok (.aload_n 0, 1) := by decide +kernel
theorem dX1_init_1 : decode cX1_init 1 = .ok (.invokespecial 3, 3) := by decide +kernel
theorem dX1_init_4 : decode cX1_init 4 = .ok (.aload_n 0, 1) := by decide +kernel
theorem dX1_init_5 : decode cX1_init 5 = .ok (.iload_n 1, 1) := by decide +kernel
theorem dX1_init_6 : decode cX1_init 6 = .ok (.newarray .int, 2) := by decide +kernel
theorem dX1_init_8 : decode cX1_init 8 = .ok (.putfield 9, 3) := by decide +kernel
theorem dX1_init_11 : decode cX1_init 11 = .ok (.aload_n 0, 1) := by decide +kernel
theorem dX1_init_12 : decode cX1_init 12 = .ok (.iload_n 1, 1) := by decide +kernel
theorem dX1_init_13 : decode cX1_init 13 = .ok (.newarray .int, 2) := by decide +kernel
theorem dX1_init_15 : decode cX1_init 15 = .ok (.putfield 15, 3) := by decide +kernel
theorem dX1_init_18 : decode cX1_init 18 = .ok (.aload_n 0, 1) := by decide +kernel
theorem dX1_init_19 : decode cX1_init 19 = .ok (.iload_n 1, 1) := by decide +kernel
theorem dX1_init_20 : decode cX1_init 20 = .ok (.newarray .int, 2) := by decide +kernel
theorem dX1_init_22 : decode cX1_init 22 = .ok (.putfield 18, 3) := by decide +kernel
theorem dX1_init_25 : decode cX1_init 25 = .ok (.aload_n 0, 1) := by decide +kernel
theorem dX1_init_26 : decode cX1_init 26 = .ok (.iload_n 1, 1) := by decide +kernel
theorem dX1_init_27 : decode cX1_init 27 = .ok (.newarray .int, 2) := by decide +kernel
theorem dX1_init_29 : decode cX1_init 29 = .ok (.putfield 21, 3) := by decide +kernel
theorem dX1_init_32 : decode cX1_init 32 = .ok (.aload_n 0, 1) := by decide +kernel
theorem dX1_init_33 : decode cX1_init 33 = .ok (.iload_n 1, 1) := by decide +kernel
theorem dX1_init_34 : decode cX1_init 34 = .ok (.newarray .int, 2) := by decide +kernel
theorem dX1_init_36 : decode cX1_init 36 = .ok (.putfield 24, 3) := by decide +kernel
theorem dX1_init_39 : decode cX1_init 39 = .ok (.return_, 1) := by decide +kernel
theorem dX1_add_0 : decode cX1_add 0 = .ok (.aload_n 0, 1) := by decide +kernel
theorem dX1_add_1 : decode cX1_add 1 = .ok (.getfield 27, 3) := by decide +kernel
theorem dX1_add_4 : decode cX1_add 4 = .ok (.aload_n 0, 1) := by decide +kernel
theorem dX1_add_5 : decode cX1_add 5 = .ok (.getfield 9, 3) := by decide +kernel
theorem dX1_add_8 : decode cX1_add 8 = .ok (.arraylength, 1) := by decide +kernel
theorem dX1_add_9 : decode cX1_add 9 = .ok (.if_icmp .ne 4, 3) := by decide +kernel
theorem dX1_add_12 : decode cX1_add 12 = .ok (.return_, 1) := by decide +kernel
theorem dX1_add_13 : decode cX1_add 13 = .ok (.aload_n 0, 1) := by decide +kernel
theorem dX1_add_14 : decode cX1_add 14 = .ok (.getfield 9, 3) := by decide +kernel
theorem dX1_add_17 : decode cX1_add 17 = .ok (.aload_n 0, 1) := by decide +kernel
theorem dX1_add_18 : decode cX1_add 18 = .ok (.getfield 27, 3) := by decide +kernel
theorem dX1_add_21 : decode cX1_add 21 = .ok (.iload_n 1, 1) := by decide +kernel
theorem dX1_add_22 : decode cX1_add 22 = .ok (.iastore, 1) := by decide +kernel
theorem dX1_add_23 : decode cX1_add 23 = .ok (.aload_n 0, 1) := by decide +kernel
theorem dX1_add_24 : decode cX1_add 24 = .ok (.getfield 15, 3) := by decide +kernel
theorem dX1_add_27 : decode cX1_add 27 = .ok (.aload_n 0, 1) := by decide +kernel
theorem dX1_add_28 : decode cX1_add 28 = .ok (.getfield 27, 3) := by decide +kernel
theorem dX1_add_31 : decode cX1_add 31 = .ok (.iload_n 2, 1) := by decide +kernel
theorem dX1_add_32 : decode cX1_add 32 = .ok (.iastore, 1) := by decide +kernel
theorem dX1_add_33 : decode cX1_add 33 = .ok (.aload_n 0, 1) := by decide +kernel
theorem dX1_add_34 : decode cX1_add 34 = .ok (.getfield 18, 3) := by decide +kernel
theorem dX1_add_37 : decode cX1_add 37 = .ok (.aload_n 0, 1) := by decide +kernel
theorem dX1_add_38 : decode cX1_add 38 = .ok (.getfield 27, 3) := by decide +kernel
theorem dX1_add_41 : decode cX1_add 41 = .ok (.iload_n 3, 1) := by decide +kernel
theorem dX1_add_42 : decode cX1_add 42 = .ok (.iastore, 1) := by decide +kernel
theorem dX1_add_43 : decode cX1_add 43 = .ok (.aload_n 0, 1) := by decide +kernel
theorem dX1_add_44 : decode cX1_add 44 = .ok (.getfield 21, 3) := by decide +kernel
theorem dX1_add_47 : decode cX1_add 47 = .ok (.aload_n 0, 1) := by decide +kernel
theorem dX1_add_48 : decode cX1_add 48 = .ok (.getfield 27, 3) := by decide +kernel
theorem dX1_add_51 : decode cX1_add 51 = .ok (.iload 4, 2) := by decide +kernel
theorem dX1_add_53 : decode cX1_add 53 = .ok (.iastore, 1) := by decide +kernel
theorem dX1_add_54 : decode cX1_add 54 = .ok (.aload_n 0, 1) := by decide +kernel
theorem dX1_add_55 : decode cX1_add 55 = .ok (.getfield 24, 3) := by decide +kernel
theorem dX1_add_58 : decode cX1_add 58 = .ok (.aload_n 0, 1) := by decide +kernel
theorem dX1_add_59 : decode cX1_add 59 = .ok (.getfield 27, 3) := by decide +kernel
theorem dX1_add_62 : decode cX1_add 62 = .ok (.iload 5, 2) := by decide +kernel
theorem dX1_add_64 : decode cX1_add 64 = .ok (.iastore, 1) := by decide +kernel
theorem dX1_add_65 : decode cX1_add 65 = .ok (.aload_n 0, 1) := by decide +kernel
theorem dX1_add_66 : decode cX1_add 66 = .ok (.dup, 1) := by decide +kernel
theorem dX1_add_67 : decode cX1_add 67 = .ok (.getfield 27, 3) := by decide +kernel
theorem dX1_add_70 : decode cX1_add 70 = .ok (.iconst 1, 1) := by decide +kernel
theorem dX1_add_71 : decode cX1_add 71 = .ok (.iadd, 1) := by decide +kernel
theorem dX1_add_72 : decode cX1_add 72 = .ok (.putfield 27, 3) := by decide +kernel
theorem dX1_add_75 : decode cX1_add 75 = .ok (.return_, 1) := by decide +kernel
set_option maxRecDepth 20000 in
theorem ggX1_addCopy_X1_add : GoodIn wsX1_addCopy wsX1_add := goodIn_r _ [10, 11, 1, 2, 3, 4, 5, 12, 13, 14, 15, 16, 17] rfl (by decide +kernel)
set_option maxRecDepth 20000 in
theorem gX1_addCopy_X1_add : GoodIn wsX1_addCopy (wsV RX1 31 RX1 yX1_add wsX1_add) := goodIn_app (goodIn_of _ (by decide +kernel)) ggX1_addCopy_X1_add
theorem dX1_addCopy_0 : decode cX1_addCopy 0 = .ok (.aload_n 0, 1) := by decide +kernel
theorem dX1_addCopy_1 : decode cX1_addCopy 1 = .ok (.aload_n 1, 1) := by decide +kernel
theorem dX1_addCopy_2 : decode cX1_addCopy 2 = .ok (.getfield 9, 3) := by decide +kernel
theorem dX1_addCopy_5 : decode cX1_addCopy 5 = .ok (.iload_n 2, 1) := by decide +kernel
theorem dX1_addCopy_6 : decode cX1_addCopy 6 = .ok (.iaload, 1) := by decide +kernel
theorem dX1_addCopy_7 : decode cX1_addCopy 7 = .ok (.aload_n 1, 1) := by decide +kernel
theorem dX1_addCopy_8 : decode cX1_addCopy 8 = .ok (.getfield 15, 3) := by decide +kernel
theorem dX1_addCopy_11 : decode cX1_addCopy 11 = .ok (.iload_n 2, 1) := by decide +kernel
theorem dX1_addCopy_12 : decode cX1_addCopy 12 = .ok (.iaload, 1) := by decide +kernel
theorem dX1_addCopy_13 : decode cX1_addCopy 13 = .ok (.aload_n 1, 1) := by decide +kernel
theorem dX1_addCopy_14 : decode cX1_addCopy 14 = .ok (.getfield 18, 3) := by decide +kernel
theorem dX1_addCopy_17 : decode cX1_addCopy 17 = .ok (.iload_n 2, 1) := by decide +kernel
theorem dX1_addCopy_18 : decode cX1_addCopy 18 = .ok (.iaload, 1) := by decide +kernel
theorem dX1_addCopy_19 : decode cX1_addCopy 19 = .ok (.aload_n 1, 1) := by decide +kernel
theorem dX1_addCopy_20 : decode cX1_addCopy 20 = .ok (.getfield 21, 3) := by decide +kernel
theorem dX1_addCopy_23 : decode cX1_addCopy 23 = .ok (.iload_n 2, 1) := by decide +kernel
theorem dX1_addCopy_24 : decode cX1_addCopy 24 = .ok (.iaload, 1) := by decide +kernel
theorem dX1_addCopy_25 : decode cX1_addCopy 25 = .ok (.aload_n 1, 1) := by decide +kernel
theorem dX1_addCopy_26 : decode cX1_addCopy 26 = .ok (.getfield 24, 3) := by decide +kernel
theorem dX1_addCopy_29 : decode cX1_addCopy 29 = .ok (.iload_n 2, 1) := by decide +kernel
theorem dX1_addCopy_30 : decode cX1_addCopy 30 = .ok (.iaload, 1) := by decide +kernel
theorem dX1_addCopy_31 : decode cX1_addCopy 31 = .ok (.invokevirtual 31, 3) := by decide +kernel
theorem dX1_addCopy_34 : decode cX1_addCopy 34 = .ok (.return_, 1) := by decide +kernel
set_option maxRecDepth 20000 in
theorem ggX1_remove_X4_closeGap : GoodIn wsX1_remove wsX4_closeGap := goodIn_r _ [9, 10, 11, 12, 13] rfl (by decide +kernel)
set_option maxRecDepth 20000 in
theorem gX1_remove_X4_closeGap_n35 : GoodIn wsX1_remove (wsX4_closeGap) := ggX1_remove_X4_closeGap
theorem dX1_remove_0 : decode cX1_remove 0 = .ok (.aload_n 0, 1) := by decide +kernel
theorem dX1_remove_1 : decode cX1_remove 1 = .ok (.getfield 9, 3) := by decide +kernel
theorem dX1_remove_4 : decode cX1_remove 4 = .ok (.iload_n 1, 1) := by decide +kernel
theorem dX1_remove_5 : decode cX1_remove 5 = .ok (.aload_n 0, 1) := by decide +kernel
theorem dX1_remove_6 : decode cX1_remove 6 = .ok (.getfield 27, 3) := by decide +kernel
theorem dX1_remove_9 : decode cX1_remove 9 = .ok (.invokestatic 35, 3) := by decide +kernel
theorem dX1_remove_12 : decode cX1_remove 12 = .ok (.aload_n 0, 1) := by decide +kernel
theorem dX1_remove_13 : decode cX1_remove 13 = .ok (.getfield 15, 3) := by decide +kernel
theorem dX1_remove_16 : decode cX1_remove 16 = .ok (.iload_n 1, 1) := by decide +kernel
theorem dX1_remove_17 : decode cX1_remove 17 = .ok (.aload_n 0, 1) := by decide +kernel
theorem dX1_remove_18 : decode cX1_remove 18 = .ok (.getfield 27, 3) := by decide +kernel
theorem dX1_remove_21 : decode cX1_remove 21 = .ok (.invokestatic 35, 3) := by decide +kernel
theorem dX1_remove_24 : decode cX1_remove 24 = .ok (.aload_n 0, 1) := by decide +kernel
theorem dX1_remove_25 : decode cX1_remove 25 = .ok (.getfield 18, 3) := by decide +kernel
theorem dX1_remove_28 : decode cX1_remove 28 = .ok (.iload_n 1, 1) := by decide +kernel
theorem dX1_remove_29 : decode cX1_remove 29 = .ok (.aload_n 0, 1) := by decide +kernel
theorem dX1_remove_30 : decode cX1_remove 30 = .ok (.getfield 27, 3) := by decide +kernel
theorem dX1_remove_33 : decode cX1_remove 33 = .ok (.invokestatic 35, 3) := by decide +kernel
theorem dX1_remove_36 : decode cX1_remove 36 = .ok (.aload_n 0, 1) := by decide +kernel
theorem dX1_remove_37 : decode cX1_remove 37 = .ok (.getfield 21, 3) := by decide +kernel
theorem dX1_remove_40 : decode cX1_remove 40 = .ok (.iload_n 1, 1) := by decide +kernel
theorem dX1_remove_41 : decode cX1_remove 41 = .ok (.aload_n 0, 1) := by decide +kernel
theorem dX1_remove_42 : decode cX1_remove 42 = .ok (.getfield 27, 3) := by decide +kernel
theorem dX1_remove_45 : decode cX1_remove 45 = .ok (.invokestatic 35, 3) := by decide +kernel
theorem dX1_remove_48 : decode cX1_remove 48 = .ok (.aload_n 0, 1) := by decide +kernel
theorem dX1_remove_49 : decode cX1_remove 49 = .ok (.getfield 24, 3) := by decide +kernel
theorem dX1_remove_52 : decode cX1_remove 52 = .ok (.iload_n 1, 1) := by decide +kernel
theorem dX1_remove_53 : decode cX1_remove 53 = .ok (.aload_n 0, 1) := by decide +kernel
theorem dX1_remove_54 : decode cX1_remove 54 = .ok (.getfield 27, 3) := by decide +kernel
theorem dX1_remove_57 : decode cX1_remove 57 = .ok (.invokestatic 35, 3) := by decide +kernel
theorem dX1_remove_60 : decode cX1_remove 60 = .ok (.aload_n 0, 1) := by decide +kernel
theorem dX1_remove_61 : decode cX1_remove 61 = .ok (.dup, 1) := by decide +kernel
theorem dX1_remove_62 : decode cX1_remove 62 = .ok (.getfield 27, 3) := by decide +kernel
theorem dX1_remove_65 : decode cX1_remove 65 = .ok (.iconst 1, 1) := by decide +kernel
theorem dX1_remove_66 : decode cX1_remove 66 = .ok (.isub, 1) := by decide +kernel
theorem dX1_remove_67 : decode cX1_remove 67 = .ok (.putfield 27, 3) := by decide +kernel
theorem dX1_remove_70 : decode cX1_remove 70 = .ok (.return_, 1) := by decide +kernel
theorem dX1_firstBetween_0 : decode cX1_firstBetween 0 = .ok (.iconst 0, 1) := by decide +kernel
theorem dX1_firstBetween_1 : decode cX1_firstBetween 1 = .ok (.istore_n 3, 1) := by decide +kernel
theorem dX1_firstBetween_2 : decode cX1_firstBetween 2 = .ok (.iload_n 3, 1) := by decide +kernel
theorem dX1_firstBetween_3 : decode cX1_firstBetween 3 = .ok (.aload_n 0, 1) := by decide +kernel
theorem dX1_firstBetween_4 : decode cX1_firstBetween 4 = .ok (.getfield 27, 3) := by decide +kernel
theorem dX1_firstBetween_7 : decode cX1_firstBetween 7 = .ok (.if_icmp .ge 31, 3) := by decide +kernel
theorem dX1_firstBetween_10 : decode cX1_firstBetween 10 = .ok (.aload_n 0, 1) := by decide +kernel
theorem dX1_firstBetween_11 : decode cX1_firstBetween 11 = .ok (.getfield 15, 3) := by decide +kernel
theorem dX1_firstBetween_14 : decode cX1_firstBetween 14 = .ok (.iload_n 3, 1) := by decide +kernel
theorem dX1_firstBetween_15 : decode cX1_firstBetween 15 = .ok (.iaload, 1) := by decide +kernel
theorem dX1_firstBetween_16 : decode cX1_firstBetween 16 = .ok (.iload_n 1, 1) := by decide +kernel
theorem dX1_firstBetween_17 : decode cX1_firstBetween 17 = .ok (.if_icmp .ne 15, 3) := by decide +kernel
theorem dX1_firstBetween_20 : decode cX1_firstBetween 20 = .ok (.aload_n 0, 1) := by decide +kernel
theorem dX1_firstBetween_21 : decode cX1_firstBetween 21 = .ok (.getfield 18, 3) := by decide +kernel
theorem dX1_firstBetween_24 : decode cX1_firstBetween 24 = .ok (.iload_n 3, 1) := by decide +kernel
theorem dX1_firstBetween_25 : decode cX1_firstBetween 25 = .ok (.iaload, 1) := by decide +kernel
theorem dX1_firstBetween_26 : decode cX1_firstBetween 26 = .ok (.iload_n 2, 1) := by decide +kernel
theorem dX1_firstBetween_27 : decode cX1_firstBetween 27 = .ok (.if_icmp .ne 5, 3) := by decide +kernel
theorem dX1_firstBetween_30 : decode cX1_firstBetween 30 = .ok (.iload_n 3, 1) := by decide +kernel
theorem dX1_firstBetween_31 : decode cX1_firstBetween 31 = .ok (.ireturn, 1) := by decide +kernel
theorem dX1_firstBetween_32 : decode cX1_firstBetween 32 = .ok (.iinc 3 1, 3) := by decide +kernel
theorem dX1_firstBetween_35 : decode cX1_firstBetween 35 = .ok (.goto (-33), 3) := by decide +kernel
theorem dX1_firstBetween_38 : decode cX1_firstBetween 38 = .ok (.bipush (-2), 2) := by decide +kernel
theorem dX1_firstBetween_40 : decode cX1_firstBetween 40 = .ok (.ireturn, 1) := by decide +kernel
set_option maxRecDepth 20000 in
theorem ggX1_hasBetween_X1_firstBetween : GoodIn wsX1_hasBetween wsX1_firstBetween := goodIn_r _ [5, 6, 7, 8, 9, 10, 11, 12, 13, 14] rfl (by decide +kernel)
set_option maxRecDepth 20000 in
theorem gX1_hasBetween_X1_firstBetween : GoodIn wsX1_hasBetween (wsV RX1 39 RX1 yX1_firstBetween wsX1_firstBetween) := goodIn_app (goodIn_of _ (by decide +kernel)) ggX1_hasBetween_X1_firstBetween
theorem dX1_hasBetween_0 : decode cX1_hasBetween 0 = .ok (.aload_n 0, 1) := by decide +kernel
theorem dX1_hasBetween_1 : decode cX1_hasBetween 1 = .ok (.iload_n 1, 1) := by decide +kernel
theorem dX1_hasBetween_2 : decode cX1_hasBetween 2 = .ok (.iload_n 2, 1) := by decide +kernel
theorem dX1_hasBetween_3 : decode cX1_hasBetween 3 = .ok (.invokevirtual 39, 3) := by decide +kernel
theorem dX1_hasBetween_6 : decode cX1_hasBetween 6 = .ok (.bipush (-2), 2) := by decide +kernel
theorem dX1_hasBetween_8 : decode cX1_hasBetween 8 = .ok (.if_icmp .ne 14, 3) := by decide +kernel
theorem dX1_hasBetween_11 : decode cX1_hasBetween 11 = .ok (.aload_n 0, 1) := by decide +kernel
theorem dX1_hasBetween_12 : decode cX1_hasBetween 12 = .ok (.iload_n 2, 1) := by decide +kernel
theorem dX1_hasBetween_13 : decode cX1_hasBetween 13 = .ok (.iload_n 1, 1) := by decide +kernel
theorem dX1_hasBetween_14 : decode cX1_hasBetween 14 = .ok (.invokevirtual 39, 3) := by decide +kernel
theorem dX1_hasBetween_17 : decode cX1_hasBetween 17 = .ok (.bipush (-2), 2) := by decide +kernel
theorem dX1_hasBetween_19 : decode cX1_hasBetween 19 = .ok (.if_icmp .eq 7, 3) := by decide +kernel
theorem dX1_hasBetween_22 : decode cX1_hasBetween 22 = .ok (.iconst 1, 1) := by decide +kernel
theorem dX1_hasBetween_23 : decode cX1_hasBetween 23 = .ok (.goto 4, 3) := by decide +kernel
theorem dX1_hasBetween_26 : decode cX1_hasBetween 26 = .ok (.iconst 0, 1) := by decide +kernel
theorem dX1_hasBetween_27 : decode cX1_hasBetween 27 = .ok (.ireturn, 1) := by decide +kernel
theorem dX1_sentBy_0 : decode cX1_sentBy 0 = .ok (.iconst 0, 1) := by decide +kernel
theorem dX1_sentBy_1 : decode cX1_sentBy 1 = .ok (.istore_n 2, 1) := by decide +kernel
theorem dX1_sentBy_2 : decode cX1_sentBy 2 = .ok (.iconst 0, 1) := by decide +kernel
theorem dX1_sentBy_3 : decode cX1_sentBy 3 = .ok (.istore_n 3, 1) := by decide +kernel
theorem dX1_sentBy_4 : decode cX1_sentBy 4 = .ok (.iload_n 3, 1) := by decide +kernel
theorem dX1_sentBy_5 : decode cX1_sentBy 5 = .ok (.aload_n 0, 1) := by decide +kernel
theorem dX1_sentBy_6 : decode cX1_sentBy 6 = .ok (.getfield 27, 3) := by decide +kernel
theorem dX1_sentBy_9 : decode cX1_sentBy 9 = .ok (.if_icmp .ge 22, 3) := by decide +kernel
theorem dX1_sentBy_12 : decode cX1_sentBy 12 = .ok (.aload_n 0, 1) := by decide +kernel
theorem dX1_sentBy_13 : decode cX1_sentBy 13 = .ok (.getfield 15, 3) := by decide +kernel
theorem dX1_sentBy_16 : decode cX1_sentBy 16 = .ok (.iload_n 3, 1) := by decide +kernel
theorem dX1_sentBy_17 : decode cX1_sentBy 17 = .ok (.iaload, 1) := by decide +kernel
theorem dX1_sentBy_18 : decode cX1_sentBy 18 = .ok (.iload_n 1, 1) := by decide +kernel
theorem dX1_sentBy_19 : decode cX1_sentBy 19 = .ok (.if_icmp .ne 6, 3) := by decide +kernel
theorem dX1_sentBy_22 : decode cX1_sentBy 22 = .ok (.iinc 2 1, 3) := by decide +kernel
theorem dX1_sentBy_25 : decode cX1_sentBy 25 = .ok (.iinc 3 1, 3) := by decide +kernel
theorem dX1_sentBy_28 : decode cX1_sentBy 28 = .ok (.goto (-24), 3) := by decide +kernel
theorem dX1_sentBy_31 : decode cX1_sentBy 31 = .ok (.iload_n 2, 1) := by decide +kernel
theorem dX1_sentBy_32 : decode cX1_sentBy 32 = .ok (.ireturn, 1) := by decide +kernel
theorem dX2_init_0 : decode cX2_init 0 = .ok (.aload_n 0, 1) := by decide +kernel
theorem dX2_init_1 : decode cX2_init 1 = .ok (.invokespecial 3, 3) := by decide +kernel
theorem dX2_init_4 : decode cX2_init 4 = .ok (.aload_n 0, 1) := by decide +kernel
theorem dX2_init_5 : decode cX2_init 5 = .ok (.bipush 24, 2) := by decide +kernel
theorem dX2_init_7 : decode cX2_init 7 = .ok (.newarray .int, 2) := by decide +kernel
theorem dX2_init_9 : decode cX2_init 9 = .ok (.putfield 9, 3) := by decide +kernel
theorem dX2_init_12 : decode cX2_init 12 = .ok (.aload_n 0, 1) := by decide +kernel
theorem dX2_init_13 : decode cX2_init 13 = .ok (.bipush 24, 2) := by decide +kernel
theorem dX2_init_15 : decode cX2_init 15 = .ok (.newarray .int, 2) := by decide +kernel
theorem dX2_init_17 : decode cX2_init 17 = .ok (.putfield 15, 3) := by decide +kernel
theorem dX2_init_20 : decode cX2_init 20 = .ok (.return_, 1) := by decide +kernel
theorem dX2_placeOf_0 : decode cX2_placeOf 0 = .ok (.iconst 0, 1) := by decide +kernel
theorem dX2_placeOf_1 : decode cX2_placeOf 1 = .ok (.istore_n 2, 1) := by decide +kernel
theorem dX2_placeOf_2 : decode cX2_placeOf 2 = .ok (.iload_n 2, 1) := by decide +kernel
theorem dX2_placeOf_3 : decode cX2_placeOf 3 = .ok (.aload_n 0, 1) := by decide +kernel
theorem dX2_placeOf_4 : decode cX2_placeOf 4 = .ok (.getfield 18, 3) := by decide +kernel
theorem dX2_placeOf_7 : decode cX2_placeOf 7 = .ok (.if_icmp .ge 21, 3) := by decide +kernel
theorem dX2_placeOf_10 : decode cX2_placeOf 10 = .ok (.aload_n 0, 1) := by decide +kernel
theorem dX2_placeOf_11 : decode cX2_placeOf 11 = .ok (.getfield 9, 3) := by decide +kernel
theorem dX2_placeOf_14 : decode cX2_placeOf 14 = .ok (.iload_n 2, 1) := by decide +kernel
theorem dX2_placeOf_15 : decode cX2_placeOf 15 = .ok (.iaload, 1) := by decide +kernel
theorem dX2_placeOf_16 : decode cX2_placeOf 16 = .ok (.iload_n 1, 1) := by decide +kernel
theorem dX2_placeOf_17 : decode cX2_placeOf 17 = .ok (.if_icmp .ne 5, 3) := by decide +kernel
theorem dX2_placeOf_20 : decode cX2_placeOf 20 = .ok (.iload_n 2, 1) := by decide +kernel
theorem dX2_placeOf_21 : decode cX2_placeOf 21 = .ok (.ireturn, 1) := by decide +kernel
theorem dX2_placeOf_22 : decode cX2_placeOf 22 = .ok (.iinc 2 1, 3) := by decide +kernel
theorem dX2_placeOf_25 : decode cX2_placeOf 25 = .ok (.goto (-23), 3) := by decide +kernel
theorem dX2_placeOf_28 : decode cX2_placeOf 28 = .ok (.bipush (-2), 2) := by decide +kernel
theorem dX2_placeOf_30 : decode cX2_placeOf 30 = .ok (.ireturn, 1) := by decide +kernel
theorem dX2_add_0 : decode cX2_add 0 = .ok (.aload_n 0, 1) := by decide +kernel
theorem dX2_add_1 : decode cX2_add 1 = .ok (.getfield 18, 3) := by decide +kernel
theorem dX2_add_4 : decode cX2_add 4 = .ok (.bipush 24, 2) := by decide +kernel
theorem dX2_add_6 : decode cX2_add 6 = .ok (.if_icmp .ne 4, 3) := by decide +kernel
theorem dX2_add_9 : decode cX2_add 9 = .ok (.return_, 1) := by decide +kernel
theorem dX2_add_10 : decode cX2_add 10 = .ok (.aload_n 0, 1) := by decide +kernel
theorem dX2_add_11 : decode cX2_add 11 = .ok (.getfield 9, 3) := by decide +kernel
theorem dX2_add_14 : decode cX2_add 14 = .ok (.aload_n 0, 1) := by decide +kernel
theorem dX2_add_15 : decode cX2_add 15 = .ok (.getfield 18, 3) := by decide +kernel
theorem dX2_add_18 : decode cX2_add 18 = .ok (.iload_n 1, 1) := by decide +kernel
theorem dX2_add_19 : decode cX2_add 19 = .ok (.iastore, 1) := by decide +kernel
theorem dX2_add_20 : decode cX2_add 20 = .ok (.aload_n 0, 1) := by decide +kernel
theorem dX2_add_21 : decode cX2_add 21 = .ok (.getfield 15, 3) := by decide +kernel
theorem dX2_add_24 : decode cX2_add 24 = .ok (.aload_n 0, 1) := by decide +kernel
theorem dX2_add_25 : decode cX2_add 25 = .ok (.getfield 18, 3) := by decide +kernel
theorem dX2_add_28 : decode cX2_add 28 = .ok (.iload_n 2, 1) := by decide +kernel
theorem dX2_add_29 : decode cX2_add 29 = .ok (.iastore, 1) := by decide +kernel
theorem dX2_add_30 : decode cX2_add 30 = .ok (.aload_n 0, 1) := by decide +kernel
theorem dX2_add_31 : decode cX2_add 31 = .ok (.dup, 1) := by decide +kernel
theorem dX2_add_32 : decode cX2_add 32 = .ok (.getfield 18, 3) := by decide +kernel
theorem dX2_add_35 : decode cX2_add 35 = .ok (.iconst 1, 1) := by decide +kernel
theorem dX2_add_36 : decode cX2_add 36 = .ok (.iadd, 1) := by decide +kernel
theorem dX2_add_37 : decode cX2_add 37 = .ok (.putfield 18, 3) := by decide +kernel
theorem dX2_add_40 : decode cX2_add 40 = .ok (.return_, 1) := by decide +kernel
set_option maxRecDepth 20000 in
theorem ggX2_admit_X2_placeOf : GoodIn wsX2_admit wsX2_placeOf := goodIn_r _ [10, 11, 12, 17, 18, 19] rfl (by decide +kernel)
set_option maxRecDepth 20000 in
theorem gX2_admit_X2_placeOf : GoodIn wsX2_admit (wsV RX2 22 RX2 yX2_placeOf wsX2_placeOf) := goodIn_app (goodIn_of _ (by decide +kernel)) ggX2_admit_X2_placeOf
set_option maxRecDepth 20000 in
theorem ggX2_admit_X2_add : GoodIn wsX2_admit wsX2_add := goodIn_r _ [16, 11, 12, 1, 17, 18, 19] rfl (by decide +kernel)
set_option maxRecDepth 20000 in
theorem gX2_admit_X2_add : GoodIn wsX2_admit (wsV RX2 26 RX2 yX2_add wsX2_add) := goodIn_app (goodIn_of _ (by decide +kernel)) ggX2_admit_X2_add
theorem dX2_admit_0 : decode cX2_admit 0 = .ok (.aload_n 0, 1) := by decide +kernel
theorem dX2_admit_1 : decode cX2_admit 1 = .ok (.iload_n 1, 1) := by decide +kernel
theorem dX2_admit_2 : decode cX2_admit 2 = .ok (.invokevirtual 22, 3) := by decide +kernel
theorem dX2_admit_5 : decode cX2_admit 5 = .ok (.istore_n 3, 1) := by decide +kernel
theorem dX2_admit_6 : decode cX2_admit 6 = .ok (.iload_n 3, 1) := by decide +kernel
theorem dX2_admit_7 : decode cX2_admit 7 = .ok (.bipush (-2), 2) := by decide +kernel
theorem dX2_admit_9 : decode cX2_admit 9 = .ok (.if_icmp .ne 12, 3) := by decide +kernel
theorem dX2_admit_12 : decode cX2_admit 12 = .ok (.aload_n 0, 1) := by decide +kernel
theorem dX2_admit_13 : decode cX2_admit 13 = .ok (.iload_n 1, 1) := by decide +kernel
theorem dX2_admit_14 : decode cX2_admit 14 = .ok (.iload_n 2, 1) := by decide +kernel
theorem dX2_admit_15 : decode cX2_admit 15 = .ok (.invokevirtual 26, 3) := by decide +kernel
theorem dX2_admit_18 : decode cX2_admit 18 = .ok (.goto 19, 3) := by decide +kernel
theorem dX2_admit_21 : decode cX2_admit 21 = .ok (.aload_n 0, 1) := by decide +kernel
theorem dX2_admit_22 : decode cX2_admit 22 = .ok (.getfield 15, 3) := by decide +kernel
theorem dX2_admit_25 : decode cX2_admit 25 = .ok (.iload_n 3, 1) := by decide +kernel
theorem dX2_admit_26 : decode cX2_admit 26 = .ok (.aload_n 0, 1) := by decide +kernel
theorem dX2_admit_27 : decode cX2_admit 27 = .ok (.getfield 15, 3) := by decide +kernel
theorem dX2_admit_30 : decode cX2_admit 30 = .ok (.iload_n 3, 1) := by decide +kernel
theorem dX2_admit_31 : decode cX2_admit 31 = .ok (.iaload, 1) := by decide +kernel
theorem dX2_admit_32 : decode cX2_admit 32 = .ok (.iload_n 2, 1) := by decide +kernel
theorem dX2_admit_33 : decode cX2_admit 33 = .ok (.invokestatic 30, 3) := by decide +kernel
theorem dX2_admit_36 : decode cX2_admit 36 = .ok (.iastore, 1) := by decide +kernel
theorem dX2_admit_37 : decode cX2_admit 37 = .ok (.return_, 1) := by decide +kernel
set_option maxRecDepth 20000 in
theorem ggX2_serve_X4_closeGap : GoodIn wsX2_serve wsX4_closeGap := goodIn_r _ [10, 11, 12, 13, 14] rfl (by decide +kernel)
set_option maxRecDepth 20000 in
theorem gX2_serve_X4_closeGap_n36 : GoodIn wsX2_serve (wsX4_closeGap) := ggX2_serve_X4_closeGap
theorem dX2_serve_0 : decode cX2_serve 0 = .ok (.aload_n 0, 1) := by decide +kernel
theorem dX2_serve_1 : decode cX2_serve 1 = .ok (.getfield 9, 3) := by decide +kernel
theorem dX2_serve_4 : decode cX2_serve 4 = .ok (.iload_n 1, 1) := by decide +kernel
theorem dX2_serve_5 : decode cX2_serve 5 = .ok (.aload_n 0, 1) := by decide +kernel
theorem dX2_serve_6 : decode cX2_serve 6 = .ok (.getfield 18, 3) := by decide +kernel
theorem dX2_serve_9 : decode cX2_serve 9 = .ok (.invokestatic 36, 3) := by decide +kernel
theorem dX2_serve_12 : decode cX2_serve 12 = .ok (.aload_n 0, 1) := by decide +kernel
theorem dX2_serve_13 : decode cX2_serve 13 = .ok (.getfield 15, 3) := by decide +kernel
theorem dX2_serve_16 : decode cX2_serve 16 = .ok (.iload_n 1, 1) := by decide +kernel
theorem dX2_serve_17 : decode cX2_serve 17 = .ok (.aload_n 0, 1) := by decide +kernel
theorem dX2_serve_18 : decode cX2_serve 18 = .ok (.getfield 18, 3) := by decide +kernel
theorem dX2_serve_21 : decode cX2_serve 21 = .ok (.invokestatic 36, 3) := by decide +kernel
theorem dX2_serve_24 : decode cX2_serve 24 = .ok (.aload_n 0, 1) := by decide +kernel
theorem dX2_serve_25 : decode cX2_serve 25 = .ok (.dup, 1) := by decide +kernel
theorem dX2_serve_26 : decode cX2_serve 26 = .ok (.getfield 18, 3) := by decide +kernel
theorem dX2_serve_29 : decode cX2_serve 29 = .ok (.iconst 1, 1) := by decide +kernel
theorem dX2_serve_30 : decode cX2_serve 30 = .ok (.isub, 1) := by decide +kernel
theorem dX2_serve_31 : decode cX2_serve 31 = .ok (.putfield 18, 3) := by decide +kernel
theorem dX2_serve_34 : decode cX2_serve 34 = .ok (.iconst 0, 1) := by decide +kernel
theorem dX2_serve_35 : decode cX2_serve 35 = .ok (.istore_n 2, 1) := by decide +kernel
theorem dX2_serve_36 : decode cX2_serve 36 = .ok (.iload_n 2, 1) := by decide +kernel
theorem dX2_serve_37 : decode cX2_serve 37 = .ok (.aload_n 0, 1) := by decide +kernel
theorem dX2_serve_38 : decode cX2_serve 38 = .ok (.getfield 18, 3) := by decide +kernel
theorem dX2_serve_41 : decode cX2_serve 41 = .ok (.if_icmp .ge 29, 3) := by decide +kernel
theorem dX2_serve_44 : decode cX2_serve 44 = .ok (.aload_n 0, 1) := by decide +kernel
theorem dX2_serve_45 : decode cX2_serve 45 = .ok (.getfield 15, 3) := by decide +kernel
theorem dX2_serve_48 : decode cX2_serve 48 = .ok (.iload_n 2, 1) := by decide +kernel
theorem dX2_serve_49 : decode cX2_serve 49 = .ok (.aload_n 0, 1) := by decide +kernel
theorem dX2_serve_50 : decode cX2_serve 50 = .ok (.getfield 15, 3) := by decide +kernel
theorem dX2_serve_53 : decode cX2_serve 53 = .ok (.iload_n 2, 1) := by decide +kernel
theorem dX2_serve_54 : decode cX2_serve 54 = .ok (.iaload, 1) := by decide +kernel
theorem dX2_serve_55 : decode cX2_serve 55 = .ok (.iconst 1, 1) := by decide +kernel
theorem dX2_serve_56 : decode cX2_serve 56 = .ok (.iadd, 1) := by decide +kernel
theorem dX2_serve_57 : decode cX2_serve 57 = .ok (.sipush 1000, 3) := by decide +kernel
theorem dX2_serve_60 : decode cX2_serve 60 = .ok (.invokestatic 40, 3) := by decide +kernel
theorem dX2_serve_63 : decode cX2_serve 63 = .ok (.iastore, 1) := by decide +kernel
theorem dX2_serve_64 : decode cX2_serve 64 = .ok (.iinc 2 1, 3) := by decide +kernel
theorem dX2_serve_67 : decode cX2_serve 67 = .ok (.goto (-31), 3) := by decide +kernel
theorem dX2_serve_70 : decode cX2_serve 70 = .ok (.return_, 1) := by decide +kernel
theorem dX2_greatestPlace_0 : decode cX2_greatestPlace 0 = .ok (.iconst 0, 1) := by decide +kernel
theorem dX2_greatestPlace_1 : decode cX2_greatestPlace 1 = .ok (.istore_n 1, 1) := by decide +kernel
theorem dX2_greatestPlace_2 : decode cX2_greatestPlace 2 = .ok (.iconst 1, 1) := by decide +kernel
theorem dX2_greatestPlace_3 : decode cX2_greatestPlace 3 = .ok (.istore_n 2, 1) := by decide +kernel
theorem dX2_greatestPlace_4 : decode cX2_greatestPlace 4 = .ok (.iload_n 2, 1) := by decide +kernel
theorem dX2_greatestPlace_5 : decode cX2_greatestPlace 5 = .ok (.aload_n 0, 1) := by decide +kernel
theorem dX2_greatestPlace_6 : decode cX2_greatestPlace 6 = .ok (.getfield 18, 3) := by decide +kernel
theorem dX2_greatestPlace_9 : decode cX2_greatestPlace 9 = .ok (.if_icmp .ge 26, 3) := by decide +kernel
theorem dX2_greatestPlace_12 : decode cX2_greatestPlace 12 = .ok (.aload_n 0, 1) := by decide +kernel
theorem dX2_greatestPlace_13 : decode cX2_greatestPlace 13 = .ok (.getfield 15, 3) := by decide +kernel
theorem dX2_greatestPlace_16 : decode cX2_greatestPlace 16 = .ok (.iload_n 2, 1) := by decide +kernel
theorem dX2_greatestPlace_17 : decode cX2_greatestPlace 17 = .ok (.iaload, 1) := by decide +kernel
theorem dX2_greatestPlace_18 : decode cX2_greatestPlace 18 = .ok (.aload_n 0, 1) := by decide +kernel
theorem dX2_greatestPlace_19 : decode cX2_greatestPlace 19 = .ok (.getfield 15, 3) := by decide +kernel
theorem dX2_greatestPlace_22 : decode cX2_greatestPlace 22 = .ok (.iload_n 1, 1) := by decide +kernel
theorem dX2_greatestPlace_23 : decode cX2_greatestPlace 23 = .ok (.iaload, 1) := by decide +kernel
theorem dX2_greatestPlace_24 : decode cX2_greatestPlace 24 = .ok (.if_icmp .le 5, 3) := by decide +kernel
theorem dX2_greatestPlace_27 : decode cX2_greatestPlace 27 = .ok (.iload_n 2, 1) := by decide +kernel
theorem dX2_greatestPlace_28 : decode cX2_greatestPlace 28 = .ok (.istore_n 1, 1) := by decide +kernel
theorem dX2_greatestPlace_29 : decode cX2_greatestPlace 29 = .ok (.iinc 2 1, 3) := by decide +kernel
theorem dX2_greatestPlace_32 : decode cX2_greatestPlace 32 = .ok (.goto (-28), 3) := by decide +kernel
theorem dX2_greatestPlace_35 : decode cX2_greatestPlace 35 = .ok (.iload_n 1, 1) := by decide +kernel
theorem dX2_greatestPlace_36 : decode cX2_greatestPlace 36 = .ok (.ireturn, 1) := by decide +kernel
set_option maxRecDepth 20000 in
theorem ggX2_greatestRank_X2_greatestPlace : GoodIn wsX2_greatestRank wsX2_greatestPlace := goodIn_r _ [6, 7, 1, 8, 9, 10] rfl (by decide +kernel)
set_option maxRecDepth 20000 in
theorem gX2_greatestRank_X2_greatestPlace : GoodIn wsX2_greatestRank (wsV RX2 43 RX2 yX2_greatestPlace wsX2_greatestPlace) := goodIn_app (goodIn_of _ (by decide +kernel)) ggX2_greatestRank_X2_greatestPlace
theorem dX2_greatestRank_0 : decode cX2_greatestRank 0 = .ok (.aload_n 0, 1) := by decide +kernel
theorem dX2_greatestRank_1 : decode cX2_greatestRank 1 = .ok (.getfield 15, 3) := by decide +kernel
theorem dX2_greatestRank_4 : decode cX2_greatestRank 4 = .ok (.aload_n 0, 1) := by decide +kernel
theorem dX2_greatestRank_5 : decode cX2_greatestRank 5 = .ok (.invokevirtual 43, 3) := by decide +kernel
theorem dX2_greatestRank_8 : decode cX2_greatestRank 8 = .ok (.iaload, 1) := by decide +kernel
theorem dX2_greatestRank_9 : decode cX2_greatestRank 9 = .ok (.ireturn, 1) := by decide +kernel
set_option maxRecDepth 20000 in
theorem ggX3_init_X2_init : GoodIn wsX3_init wsX2_init := goodIn_r _ [10, 11, 2, 3, 12, 13, 14, 15, 16, 17] rfl (by decide +kernel)
set_option maxRecDepth 20000 in
theorem gX3_init_X2_init_n11 : GoodIn wsX3_init (wsX2_init) := ggX3_init_X2_init
theorem dX3_init_0 : decode cX3_init 0 = .ok (.aload_n 0, 1) := by decide +kernel
theorem dX3_init_1 : decode cX3_init 1 = .ok (.invokespecial 3, 3) := by decide +kernel
theorem dX3_init_4 : decode cX3_init 4 = .ok (.aload_n 0, 1) := by decide +kernel
theorem dX3_init_5 : decode cX3_init 5 = .ok (.new 9, 3) := by decide +kernel
theorem dX3_init_8 : decode cX3_init 8 = .ok (.dup, 1) := by decide +kernel
theorem dX3_init_9 : decode cX3_init 9 = .ok (.invokespecial 11, 3) := by decide +kernel
theorem dX3_init_12 : decode cX3_init 12 = .ok (.putfield 12, 3) := by decide +kernel
theorem dX3_init_15 : decode cX3_init 15 = .ok (.aload_n 0, 1) := by decide +kernel
theorem dX3_init_16 : decode cX3_init 16 = .ok (.iload_n 1, 1) := by decide +kernel
theorem dX3_init_17 : decode cX3_init 17 = .ok (.putfield 18, 3) := by decide +kernel
theorem dX3_init_20 : decode cX3_init 20 = .ok (.return_, 1) := by decide +kernel
theorem dX3_clear_0 : decode cX3_clear 0 = .ok (.aload_n 0, 1) := by decide +kernel
theorem dX3_clear_1 : decode cX3_clear 1 = .ok (.getfield 12, 3) := by decide +kernel
theorem dX3_clear_4 : decode cX3_clear 4 = .ok (.iconst 0, 1) := by decide +kernel
theorem dX3_clear_5 : decode cX3_clear 5 = .ok (.putfield 22, 3) := by decide +kernel
theorem dX3_clear_8 : decode cX3_clear 8 = .ok (.aload_n 0, 1) := by decide +kernel
theorem dX3_clear_9 : decode cX3_clear 9 = .ok (.bipush (-2), 2) := by decide +kernel
theorem dX3_clear_11 : decode cX3_clear 11 = .ok (.putfield 25, 3) := by decide +kernel
theorem dX3_clear_14 : decode cX3_clear 14 = .ok (.aload_n 0, 1) := by decide +kernel
theorem dX3_clear_15 : decode cX3_clear 15 = .ok (.iconst 0, 1) := by decide +kernel
theorem dX3_clear_16 : decode cX3_clear 16 = .ok (.putfield 28, 3) := by decide +kernel
theorem dX3_clear_19 : decode cX3_clear 19 = .ok (.aload_n 0, 1) := by decide +kernel
theorem dX3_clear_20 : decode cX3_clear 20 = .ok (.iconst 0, 1) := by decide +kernel
theorem dX3_clear_21 : decode cX3_clear 21 = .ok (.putfield 32, 3) := by decide +kernel
theorem dX3_clear_24 : decode cX3_clear 24 = .ok (.aload_n 0, 1) := by decide +kernel
theorem dX3_clear_25 : decode cX3_clear 25 = .ok (.iconst 0, 1) := by decide +kernel
theorem dX3_clear_26 : decode cX3_clear 26 = .ok (.putfield 35, 3) := by decide +kernel
theorem dX3_clear_29 : decode cX3_clear 29 = .ok (.aload_n 0, 1) := by decide +kernel
theorem dX3_clear_30 : decode cX3_clear 30 = .ok (.iconst 0, 1) := by decide +kernel
theorem dX3_clear_31 : decode cX3_clear 31 = .ok (.putfield 38, 3) := by decide +kernel
theorem dX3_clear_34 : decode cX3_clear 34 = .ok (.aload_n 0, 1) := by decide +kernel
theorem dX3_clear_35 : decode cX3_clear 35 = .ok (.iconst 0, 1) := by decide +kernel
theorem dX3_clear_36 : decode cX3_clear 36 = .ok (.putfield 41, 3) := by decide +kernel
theorem dX3_clear_39 : decode cX3_clear 39 = .ok (.aload_n 0, 1) := by decide +kernel
theorem dX3_clear_40 : decode cX3_clear 40 = .ok (.iconst 0, 1) := by decide +kernel
theorem dX3_clear_41 : decode cX3_clear 41 = .ok (.putfield 44, 3) := by decide +kernel
theorem dX3_clear_44 : decode cX3_clear 44 = .ok (.aload_n 0, 1) := by decide +kernel
theorem dX3_clear_45 : decode cX3_clear 45 = .ok (.iconst 0, 1) := by decide +kernel
theorem dX3_clear_46 : decode cX3_clear 46 = .ok (.putfield 47, 3) := by decide +kernel
theorem dX3_clear_49 : decode cX3_clear 49 = .ok (.aload_n 0, 1) := by decide +kernel
theorem dX3_clear_50 : decode cX3_clear 50 = .ok (.iconst 0, 1) := by decide +kernel
theorem dX3_clear_51 : decode cX3_clear 51 = .ok (.putfield 50, 3) := by decide +kernel
theorem dX3_clear_54 : decode cX3_clear 54 = .ok (.aload_n 0, 1) := by decide +kernel
theorem dX3_clear_55 : decode cX3_clear 55 = .ok (.iconst 0, 1) := by decide +kernel
theorem dX3_clear_56 : decode cX3_clear 56 = .ok (.putfield 53, 3) := by decide +kernel
theorem dX3_clear_59 : decode cX3_clear 59 = .ok (.return_, 1) := by decide +kernel
theorem dX3_holds_0 : decode cX3_holds 0 = .ok (.aload_n 0, 1) := by decide +kernel
theorem dX3_holds_1 : decode cX3_holds 1 = .ok (.getfield 25, 3) := by decide +kernel
theorem dX3_holds_4 : decode cX3_holds 4 = .ok (.aload_n 0, 1) := by decide +kernel
theorem dX3_holds_5 : decode cX3_holds 5 = .ok (.getfield 18, 3) := by decide +kernel
theorem dX3_holds_8 : decode cX3_holds 8 = .ok (.if_icmp .ne 7, 3) := by decide +kernel
theorem dX3_holds_11 : decode cX3_holds 11 = .ok (.iconst 1, 1) := by decide +kernel
theorem dX3_holds_12 : decode cX3_holds 12 = .ok (.goto 4, 3) := by decide +kernel
theorem dX3_holds_15 : decode cX3_holds 15 = .ok (.iconst 0, 1) := by decide +kernel
theorem dX3_holds_16 : decode cX3_holds 16 = .ok (.ireturn, 1) := by decide +kernel
theorem dX3_pointsAway_0 : decode cX3_pointsAway 0 = .ok (.aload_n 0, 1) := by decide +kernel
theorem dX3_pointsAway_1 : decode cX3_pointsAway 1 = .ok (.getfield 25, 3) := by decide +kernel
theorem dX3_pointsAway_4 : decode cX3_pointsAway 4 = .ok (.aload_n 0, 1) := by decide +kernel
theorem dX3_pointsAway_5 : decode cX3_pointsAway 5 = .ok (.getfield 18, 3) := by decide +kernel
theorem dX3_pointsAway_8 : decode cX3_pointsAway 8 = .ok (.if_icmp .eq 16, 3) := by decide +kernel
theorem dX3_pointsAway_11 : decode cX3_pointsAway 11 = .ok (.aload_n 0, 1) := by decide +kernel
theorem dX3_pointsAway_12 : decode cX3_pointsAway 12 = .ok (.getfield 25, 3) := by decide +kernel
theorem dX3_pointsAway_15 : decode cX3_pointsAway 15 = .ok (.bipush (-2), 2) := by decide +kernel
theorem dX3_pointsAway_17 : decode cX3_pointsAway 17 = .ok (.if_icmp .eq 7, 3) := by decide +kernel
theorem dX3_pointsAway_20 : decode cX3_pointsAway 20 = .ok (.iconst 1, 1) := by decide +kernel
theorem dX3_pointsAway_21 : decode cX3_pointsAway 21 = .ok (.goto 4, 3) := by decide +kernel
theorem dX3_pointsAway_24 : decode cX3_pointsAway 24 = .ok (.iconst 0, 1) := by decide +kernel
theorem dX3_pointsAway_25 : decode cX3_pointsAway 25 = .ok (.ireturn, 1) := by decide +kernel
set_option maxRecDepth 20000 in
theorem ggX3_wants_X2_placeOf : GoodIn wsX3_wants wsX2_placeOf := goodIn_r _ [7, 8, 9, 22, 23, 24] rfl (by decide +kernel)
set_option maxRecDepth 20000 in
theorem gX3_wants_X2_placeOf : GoodIn wsX3_wants (wsV RX3 56 RX2 yX2_placeOf wsX2_placeOf) := goodIn_app (goodIn_of _ (by decide +kernel)) ggX3_wants_X2_placeOf
theorem dX3_wants_0 : decode cX3_wants 0 = .ok (.aload_n 0, 1) := by decide +kernel
theorem dX3_wants_1 : decode cX3_wants 1 = .ok (.getfield 12, 3) := by decide +kernel
theorem dX3_wants_4 : decode cX3_wants 4 = .ok (.aload_n 0, 1) := by decide +kernel
theorem dX3_wants_5 : decode cX3_wants 5 = .ok (.getfield 18, 3) := by decide +kernel
theorem dX3_wants_8 : decode cX3_wants 8 = .ok (.invokevirtual 56, 3) := by decide +kernel
theorem dX3_wants_11 : decode cX3_wants 11 = .ok (.bipush (-2), 2) := by decide +kernel
theorem dX3_wants_13 : decode cX3_wants 13 = .ok (.if_icmp .eq 7, 3) := by decide +kernel
theorem dX3_wants_16 : decode cX3_wants 16 = .ok (.iconst 1, 1) := by decide +kernel
theorem dX3_wants_17 : decode cX3_wants 17 = .ok (.goto 4, 3) := by decide +kernel
theorem dX3_wants_20 : decode cX3_wants 20 = .ok (.iconst 0, 1) := by decide +kernel
theorem dX3_wants_21 : decode cX3_wants 21 = .ok (.ireturn, 1) := by decide +kernel
theorem dX3_stopPumping_0 : decode cX3_stopPumping 0 = .ok (.aload_n 0, 1) := by decide +kernel
theorem dX3_stopPumping_1 : decode cX3_stopPumping 1 = .ok (.iconst 0, 1) := by decide +kernel
theorem dX3_stopPumping_2 : decode cX3_stopPumping 2 = .ok (.putfield 35, 3) := by decide +kernel
theorem dX3_stopPumping_5 : decode cX3_stopPumping 5 = .ok (.aload_n 0, 1) := by decide +kernel
theorem dX3_stopPumping_6 : decode cX3_stopPumping 6 = .ok (.dup, 1) := by decide +kernel
theorem dX3_stopPumping_7 : decode cX3_stopPumping 7 = .ok (.getfield 44, 3) := by decide +kernel
theorem dX3_stopPumping_10 : decode cX3_stopPumping 10 = .ok (.iconst 1, 1) := by decide +kernel
theorem dX3_stopPumping_11 : decode cX3_stopPumping 11 = .ok (.iadd, 1) := by decide +kernel
theorem dX3_stopPumping_12 : decode cX3_stopPumping 12 = .ok (.putfield 44, 3) := by decide +kernel
theorem dX3_stopPumping_15 : decode cX3_stopPumping 15 = .ok (.return_, 1) := by decide +kernel
theorem dX3_forget_0 : decode cX3_forget 0 = .ok (.aload_n 0, 1) := by decide +kernel
theorem dX3_forget_1 : decode cX3_forget 1 = .ok (.getfield 25, 3) := by decide +kernel
theorem dX3_forget_4 : decode cX3_forget 4 = .ok (.iload_n 1, 1) := by decide +kernel
theorem dX3_forget_5 : decode cX3_forget 5 = .ok (.if_icmp .ne 9, 3) := by decide +kernel
theorem dX3_forget_8 : decode cX3_forget 8 = .ok (.aload_n 0, 1) := by decide +kernel
theorem dX3_forget_9 : decode cX3_forget 9 = .ok (.bipush (-2), 2) := by decide +kernel
theorem dX3_forget_11 : decode cX3_forget 11 = .ok (.putfield 25, 3) := by decide +kernel
theorem dX3_forget_14 : decode cX3_forget 14 = .ok (.return_, 1) := by decide +kernel
set_option maxRecDepth 20000 in
theorem ggX3_firstPlace_X3_greedyPlace : GoodIn wsX3_firstPlace wsX3_greedyPlace := goodIn_r _ [7, 1, 8, 9, 2, 10, 11, 12, 13, 14, 15, 16, 22, 23, 24, 25, 26, 27, 28, 29, 30, 31, 32, 33, 34, 35, 36] rfl (by decide +kernel)
set_option maxRecDepth 20000 in
theorem gX3_firstPlace_X3_greedyPlace : GoodIn wsX3_firstPlace (wsV RX3 60 RX3 yX3_greedyPlace wsX3_greedyPlace) := goodIn_app (goodIn_of _ (by decide +kernel)) ggX3_firstPlace_X3_greedyPlace
set_option maxRecDepth 20000 in
theorem ggX3_firstPlace_X2_greatestPlace : GoodIn wsX3_firstPlace wsX2_greatestPlace := goodIn_r _ [20, 15, 21, 34, 35, 36] rfl (by decide +kernel)
set_option maxRecDepth 20000 in
theorem gX3_firstPlace_X2_greatestPlace : GoodIn wsX3_firstPlace (wsV RX3 63 RX2 yX2_greatestPlace wsX2_greatestPlace) := goodIn_app (goodIn_of _ (by decide +kernel)) ggX3_firstPlace_X2_greatestPlace
theorem dX3_firstPlace_0 : decode cX3_firstPlace 0 = .ok (.aload_n 0, 1) := by decide +kernel
theorem dX3_firstPlace_1 : decode cX3_firstPlace 1 = .ok (.getfield 12, 3) := by decide +kernel
theorem dX3_firstPlace_4 : decode cX3_firstPlace 4 = .ok (.getfield 22, 3) := by decide +kernel
theorem dX3_firstPlace_7 : decode cX3_firstPlace 7 = .ok (.ifCond .ne 6, 3) := by decide +kernel
theorem dX3_firstPlace_10 : decode cX3_firstPlace 10 = .ok (.bipush (-2), 2) := by decide +kernel
theorem dX3_firstPlace_12 : decode cX3_firstPlace 12 = .ok (.ireturn, 1) := by decide +kernel
theorem dX3_firstPlace_13 : decode cX3_firstPlace 13 = .ok (.iload_n 1, 1) := by decide +kernel
theorem dX3_firstPlace_14 : decode cX3_firstPlace 14 = .ok (.iconst 1, 1) := by decide +kernel
theorem dX3_firstPlace_15 : decode cX3_firstPlace 15 = .ok (.if_icmp .ne 9, 3) := by decide +kernel
theorem dX3_firstPlace_18 : decode cX3_firstPlace 18 = .ok (.aload_n 0, 1) := by decide +kernel
theorem dX3_firstPlace_19 : decode cX3_firstPlace 19 = .ok (.iload_n 2, 1) := by decide +kernel
theorem dX3_firstPlace_20 : decode cX3_firstPlace 20 = .ok (.invokevirtual 60, 3) := by decide +kernel
theorem dX3_firstPlace_23 : decode cX3_firstPlace 23 = .ok (.ireturn, 1) := by decide +kernel
theorem dX3_firstPlace_24 : decode cX3_firstPlace 24 = .ok (.iload_n 1, 1) := by decide +kernel
theorem dX3_firstPlace_25 : decode cX3_firstPlace 25 = .ok (.iconst 2, 1) := by decide +kernel
theorem dX3_firstPlace_26 : decode cX3_firstPlace 26 = .ok (.if_icmp .ne 13, 3) := by decide +kernel
theorem dX3_firstPlace_29 : decode cX3_firstPlace 29 = .ok (.aload_n 0, 1) := by decide +kernel
theorem dX3_firstPlace_30 : decode cX3_firstPlace 30 = .ok (.getfield 12, 3) := by decide +kernel
theorem dX3_firstPlace_33 : decode cX3_firstPlace 33 = .ok (.invokevirtual 63, 3) := by decide +kernel
theorem dX3_firstPlace_36 : decode cX3_firstPlace 36 = .ok (.goto 4, 3) := by decide +kernel
theorem dX3_firstPlace_39 : decode cX3_firstPlace 39 = .ok (.iconst 0, 1) := by decide +kernel
theorem dX3_firstPlace_40 : decode cX3_firstPlace 40 = .ok (.ireturn, 1) := by decide +kernel
set_option maxRecDepth 20000 in
theorem ggX3_greedyPlace_X2_placeOf : GoodIn wsX3_greedyPlace wsX2_placeOf := goodIn_r _ [9, 10, 11, 24, 25, 26] rfl (by decide +kernel)
set_option maxRecDepth 20000 in
theorem gX3_greedyPlace_X2_placeOf : GoodIn wsX3_greedyPlace (wsV RX3 56 RX2 yX2_placeOf wsX2_placeOf) := goodIn_app (goodIn_of _ (by decide +kernel)) ggX3_greedyPlace_X2_placeOf
theorem dX3_greedyPlace_0 : decode cX3_greedyPlace 0 = .ok (.aload_n 0, 1) := by decide +kernel
theorem dX3_greedyPlace_1 : decode cX3_greedyPlace 1 = .ok (.getfield 12, 3) := by decide +kernel
theorem dX3_greedyPlace_4 : decode cX3_greedyPlace 4 = .ok (.aload_n 0, 1) := by decide +kernel
theorem dX3_greedyPlace_5 : decode cX3_greedyPlace 5 = .ok (.getfield 18, 3) := by decide +kernel
theorem dX3_greedyPlace_8 : decode cX3_greedyPlace 8 = .ok (.invokevirtual 56, 3) := by decide +kernel
theorem dX3_greedyPlace_11 : decode cX3_greedyPlace 11 = .ok (.istore_n 2, 1) := by decide +kernel
theorem dX3_greedyPlace_12 : decode cX3_greedyPlace 12 = .ok (.iload_n 2, 1) := by decide +kernel
theorem dX3_greedyPlace_13 : decode cX3_greedyPlace 13 = .ok (.bipush (-2), 2) := by decide +kernel
theorem dX3_greedyPlace_15 : decode cX3_greedyPlace 15 = .ok (.if_icmp .eq 24, 3) := by decide +kernel
theorem dX3_greedyPlace_18 : decode cX3_greedyPlace 18 = .ok (.aload_n 0, 1) := by decide +kernel
theorem dX3_greedyPlace_19 : decode cX3_greedyPlace 19 = .ok (.getfield 41, 3) := by decide +kernel
theorem dX3_greedyPlace_22 : decode cX3_greedyPlace 22 = .ok (.iload_n 1, 1) := by decide +kernel
theorem dX3_greedyPlace_23 : decode cX3_greedyPlace 23 = .ok (.if_icmp .lt 14, 3) := by decide +kernel
theorem dX3_greedyPlace_26 : decode cX3_greedyPlace 26 = .ok (.aload_n 0, 1) := by decide +kernel
theorem dX3_greedyPlace_27 : decode cX3_greedyPlace 27 = .ok (.getfield 12, 3) := by decide +kernel
theorem dX3_greedyPlace_30 : decode cX3_greedyPlace 30 = .ok (.getfield 22, 3) := by decide +kernel
theorem dX3_greedyPlace_33 : decode cX3_greedyPlace 33 = .ok (.iconst 1, 1) := by decide +kernel
theorem dX3_greedyPlace_34 : decode cX3_greedyPlace 34 = .ok (.if_icmp .ne 5, 3) := by decide +kernel
theorem dX3_greedyPlace_37 : decode cX3_greedyPlace 37 = .ok (.iload_n 2, 1) := by decide +kernel
theorem dX3_greedyPlace_38 : decode cX3_greedyPlace 38 = .ok (.ireturn, 1) := by decide +kernel
theorem dX3_greedyPlace_39 : decode cX3_greedyPlace 39 = .ok (.iload_n 2, 1) := by decide +kernel
theorem dX3_greedyPlace_40 : decode cX3_greedyPlace 40 = .ok (.ifCond .ne 7, 3) := by decide +kernel
theorem dX3_greedyPlace_43 : decode cX3_greedyPlace 43 = .ok (.iconst 1, 1) := by decide +kernel
theorem dX3_greedyPlace_44 : decode cX3_greedyPlace 44 = .ok (.goto 4, 3) := by decide +kernel
theorem dX3_greedyPlace_47 : decode cX3_greedyPlace 47 = .ok (.iconst 0, 1) := by decide +kernel
theorem dX3_greedyPlace_48 : decode cX3_greedyPlace 48 = .ok (.ireturn, 1) := by decide +kernel
set_option maxRecDepth 20000 in
theorem ggX4_init_X0_init : GoodIn wsX4_init wsX0_init := goodIn_r _ [22, 23, 2, 3, 16, 24, 126, 127, 128] rfl (by decide +kernel)
set_option maxRecDepth 20000 in
theorem gX4_init_X0_init_n9 : GoodIn wsX4_init (wsX0_init) := ggX4_init_X0_init
set_option maxRecDepth 20000 in
theorem ggX4_init_X1_init : GoodIn wsX4_init wsX1_init := goodIn_r _ [27, 28, 2, 3, 16, 29, 30, 31, 32, 33, 139, 140, 141, 142, 143, 144] rfl (by decide +kernel)
set_option maxRecDepth 20000 in
theorem gX4_init_X1_init : GoodIn wsX4_init (wsX1_init) := ggX4_init_X1_init
set_option maxRecDepth 20000 in
theorem ggX4_init_X3_init : GoodIn wsX4_init wsX3_init := goodIn_r _ [36, 37, 2, 3, 38, 39, 40, 41, 42, 43, 44, 45, 16, 46, 47, 157, 158, 159, 145, 146, 147, 148, 149, 150, 151, 152, 153, 154, 155, 156] rfl (by decide +kernel)
set_option maxRecDepth 20000 in
theorem gX4_init_X3_init : GoodIn wsX4_init (wsX3_init) := ggX4_init_X3_init
set_option maxRecDepth 20000 in
theorem ggX4_init_X4_canal : GoodIn wsX4_init wsX4_canal := goodIn_r _ [52, 53, 7, 54, 55, 56, 6, 57, 24, 58, 59, 60, 61, 62, 63, 129, 130, 131, 132, 133, 134, 135, 136, 137, 138, 126, 127, 128] rfl (by decide +kernel)
set_option maxRecDepth 20000 in
theorem gX4_init_X4_canal : GoodIn wsX4_init (wsV RX4 43 RX4 yX4_canal wsX4_canal) := goodIn_app (goodIn_of _ (by decide +kernel)) ggX4_init_X4_canal
set_option maxRecDepth 20000 in
theorem ggX4_init_X4_link : GoodIn wsX4_init wsX4_link := goodIn_r _ [67, 53, 7, 68, 69, 70, 71, 6, 72, 58, 73, 74, 75, 76, 24, 77, 51, 78, 79, 80, 81, 82, 83, 59, 129, 130, 131, 132, 133, 134, 135, 136, 137, 138, 126, 127, 128] rfl (by decide +kernel)
set_option maxRecDepth 20000 in
theorem gX4_init_X4_link : GoodIn wsX4_init (wsV RX4 47 RX4 yX4_link wsX4_link) := goodIn_app (goodIn_of _ (by decide +kernel)) ggX4_init_X4_link
set_option maxRecDepth 20000 in
theorem ggX4_init_X4_open : GoodIn wsX4_init wsX4_open := goodIn_r _ [87, 53, 7, 88, 89, 90, 13, 91, 14, 9, 17, 18, 69, 70, 71, 6, 72, 58, 92, 93, 94, 95, 59, 96, 97, 98, 20, 99, 41, 100, 101, 102, 103, 104, 105, 106, 107, 108, 109, 110, 111, 61, 62, 63, 112, 113, 114, 51, 115, 116, 117, 118, 119, 120, 121, 122, 123, 124, 125, 24, 77, 78, 129, 130, 131, 132, 133, 134, 135, 136, 137, 138, 139, 140, 141, 142, 143, 144, 126, 127, 128, 145, 146, 147, 148, 149, 150, 151, 152, 153, 154, 155, 156, 157, 158, 159] rfl (by decide +kernel)
set_option maxRecDepth 20000 in
theorem gX4_init_X4_open : GoodIn wsX4_init (wsV RX4 51 RX4 yX4_open wsX4_open) := goodIn_app (goodIn_of _ (by decide +kernel)) ggX4_init_X4_open
theorem dX4_init_0 : decode cX4_init 0 = .ok (.aload_n 0, 1) := by decide +kernel
theorem dX4_init_1 : decode cX4_init 1 = .ok (.invokespecial 1, 3) := by decide +kernel
theorem dX4_init_4 : decode cX4_init 4 = .ok (.aload_n 0, 1) := by decide +kernel
theorem dX4_init_5 : decode cX4_init 5 = .ok (.new 7, 3) := by decide +kernel
theorem dX4_init_8 : decode cX4_init 8 = .ok (.dup, 1) := by decide +kernel
theorem dX4_init_9 : decode cX4_init 9 = .ok (.invokespecial 9, 3) := by decide +kernel
theorem dX4_init_12 : decode cX4_init 12 = .ok (.putfield 10, 3) := by decide +kernel
theorem dX4_init_15 : decode cX4_init 15 = .ok (.aload_n 0, 1) := by decide +kernel
theorem dX4_init_16 : decode cX4_init 16 = .ok (.bipush 24, 2) := by decide +kernel
theorem dX4_init_18 : decode cX4_init 18 = .ok (.anewarray 16, 3) := by decide +kernel
theorem dX4_init_21 : decode cX4_init 21 = .ok (.putfield 18, 3) := by decide +kernel
theorem dX4_init_24 : decode cX4_init 24 = .ok (.aload_n 0, 1) := by decide +kernel
theorem dX4_init_25 : decode cX4_init 25 = .ok (.new 22, 3) := by decide +kernel
theorem dX4_init_28 : decode cX4_init 28 = .ok (.dup, 1) := by decide +kernel
theorem dX4_init_29 : decode cX4_init 29 = .ok (.sipush 1024, 3) := by decide +kernel
theorem dX4_init_32 : decode cX4_init 32 = .ok (.invokespecial 24, 3) := by decide +kernel
theorem dX4_init_35 : decode cX4_init 35 = .ok (.putfield 27, 3) := by decide +kernel
theorem dX4_init_38 : decode cX4_init 38 = .ok (.aload_n 0, 1) := by decide +kernel
theorem dX4_init_39 : decode cX4_init 39 = .ok (.new 22, 3) := by decide +kernel
theorem dX4_init_42 : decode cX4_init 42 = .ok (.dup, 1) := by decide +kernel
theorem dX4_init_43 : decode cX4_init 43 = .ok (.bipush 60, 2) := by decide +kernel
theorem dX4_init_45 : decode cX4_init 45 = .ok (.invokespecial 24, 3) := by decide +kernel
theorem dX4_init_48 : decode cX4_init 48 = .ok (.putfield 31, 3) := by decide +kernel
theorem dX4_init_51 : decode cX4_init 51 = .ok (.aload_n 0, 1) := by decide +kernel
theorem dX4_init_52 : decode cX4_init 52 = .ok (.bipush 24, 2) := by decide +kernel
theorem dX4_init_54 : decode cX4_init 54 = .ok (.bipush 24, 2) := by decide +kernel
theorem dX4_init_56 : decode cX4_init 56 = .ok (.multianewarray 34 2, 4) := by decide +kernel
theorem dX4_init_60 : decode cX4_init 60 = .ok (.putfield 36, 3) := by decide +kernel
theorem dX4_init_63 : decode cX4_init 63 = .ok (.aload_n 0, 1) := by decide +kernel
theorem dX4_init_64 : decode cX4_init 64 = .ok (.bipush 24, 2) := by decide +kernel
theorem dX4_init_66 : decode cX4_init 66 = .ok (.bipush 24, 2) := by decide +kernel
theorem dX4_init_68 : decode cX4_init 68 = .ok (.multianewarray 34 2, 4) := by decide +kernel
theorem dX4_init_72 : decode cX4_init 72 = .ok (.putfield 39, 3) := by decide +kernel
theorem dX4_init_75 : decode cX4_init 75 = .ok (.iconst 0, 1) := by decide +kernel
theorem dX4_init_76 : decode cX4_init 76 = .ok (.istore_n 1, 1) := by decide +kernel
theorem dX4_init_77 : decode cX4_init 77 = .ok (.iload_n 1, 1) := by decide +kernel
theorem dX4_init_78 : decode cX4_init 78 = .ok (.bipush 24, 2) := by decide +kernel
theorem dX4_init_80 : decode cX4_init 80 = .ok (.if_icmp .ge 23, 3) := by decide +kernel
theorem dX4_init_83 : decode cX4_init 83 = .ok (.aload_n 0, 1) := by decide +kernel
theorem dX4_init_84 : decode cX4_init 84 = .ok (.getfield 18, 3) := by decide +kernel
theorem dX4_init_87 : decode cX4_init 87 = .ok (.iload_n 1, 1) := by decide +kernel
theorem dX4_init_88 : decode cX4_init 88 = .ok (.new 16, 3) := by decide +kernel
theorem dX4_init_91 : decode cX4_init 91 = .ok (.dup, 1) := by decide +kernel
theorem dX4_init_92 : decode cX4_init 92 = .ok (.iload_n 1, 1) := by decide +kernel
theorem dX4_init_93 : decode cX4_init 93 = .ok (.invokespecial 42, 3) := by decide +kernel
theorem dX4_init_96 : decode cX4_init 96 = .ok (.aastore, 1) := by decide +kernel
theorem dX4_init_97 : decode cX4_init 97 = .ok (.iinc 1 1, 3) := by decide +kernel
theorem dX4_init_100 : decode cX4_init 100 = .ok (.goto (-23), 3) := by decide +kernel
theorem dX4_init_103 : decode cX4_init 103 = .ok (.aload_n 0, 1) := by decide +kernel
theorem dX4_init_104 : decode cX4_init 104 = .ok (.iconst 2, 1) := by decide +kernel
theorem dX4_init_105 : decode cX4_init 105 = .ok (.invokevirtual 43, 3) := by decide +kernel
theorem dX4_init_108 : decode cX4_init 108 = .ok (.pop, 1) := by decide +kernel
theorem dX4_init_109 : decode cX4_init 109 = .ok (.aload_n 0, 1) := by decide +kernel
theorem dX4_init_110 : decode cX4_init 110 = .ok (.iconst 0, 1) := by decide +kernel
theorem dX4_init_111 : decode cX4_init 111 = .ok (.iconst 1, 1) := by decide +kernel
theorem dX4_init_112 : decode cX4_init 112 = .ok (.invokevirtual 47, 3) := by decide +kernel
theorem dX4_init_115 : decode cX4_init 115 = .ok (.pop, 1) := by decide +kernel
theorem dX4_init_116 : decode cX4_init 116 = .ok (.aload_n 0, 1) := by decide +kernel
theorem dX4_init_117 : decode cX4_init 117 = .ok (.iconst 0, 1) := by decide +kernel
theorem dX4_init_118 : decode cX4_init 118 = .ok (.iconst 0, 1) := by decide +kernel
theorem dX4_init_119 : decode cX4_init 119 = .ok (.iconst 1, 1) := by decide +kernel
theorem dX4_init_120 : decode cX4_init 120 = .ok (.invokevirtual 51, 3) := by decide +kernel
theorem dX4_init_123 : decode cX4_init 123 = .ok (.pop, 1) := by decide +kernel
theorem dX4_init_124 : decode cX4_init 124 = .ok (.return_, 1) := by decide +kernel
set_option maxRecDepth 20000 in
theorem ggX4_canal_X0_clear : GoodIn wsX4_canal wsX0_clear := goodIn_r _ [7, 8, 9, 10, 11, 12, 13, 14, 25, 26, 27] rfl (by decide +kernel)
set_option maxRecDepth 20000 in
theorem gX4_canal_X0_clear : GoodIn wsX4_canal (wsV RX4 59 RX0 yX0_clear wsX0_clear) := goodIn_app (goodIn_of _ (by decide +kernel)) ggX4_canal_X0_clear
theorem dX4_canal_0 : decode cX4_canal 0 = .ok (.iload_n 1, 1) := by decide +kernel
theorem dX4_canal_1 : decode cX4_canal 1 = .ok (.iconst 2, 1) := by decide +kernel
theorem dX4_canal_2 : decode cX4_canal 2 = .ok (.if_icmp .lt 9, 3) := by decide +kernel
theorem dX4_canal_5 : decode cX4_canal 5 = .ok (.iload_n 1, 1) := by decide +kernel
theorem dX4_canal_6 : decode cX4_canal 6 = .ok (.bipush 24, 2) := by decide +kernel
theorem dX4_canal_8 : decode cX4_canal 8 = .ok (.if_icmp .le 5, 3) := by decide +kernel
theorem dX4_canal_11 : decode cX4_canal 11 = .ok (.iconst (-1), 1) := by decide +kernel
theorem dX4_canal_12 : decode cX4_canal 12 = .ok (.ireturn, 1) := by decide +kernel
theorem dX4_canal_13 : decode cX4_canal 13 = .ok (.aload_n 0, 1) := by decide +kernel
theorem dX4_canal_14 : decode cX4_canal 14 = .ok (.iconst 0, 1) := by decide +kernel
theorem dX4_canal_15 : decode cX4_canal 15 = .ok (.putfield 55, 3) := by decide +kernel
theorem dX4_canal_18 : decode cX4_canal 18 = .ok (.aload_n 0, 1) := by decide +kernel
theorem dX4_canal_19 : decode cX4_canal 19 = .ok (.getfield 10, 3) := by decide +kernel
theorem dX4_canal_22 : decode cX4_canal 22 = .ok (.iload_n 1, 1) := by decide +kernel
theorem dX4_canal_23 : decode cX4_canal 23 = .ok (.invokevirtual 59, 3) := by decide +kernel
theorem dX4_canal_26 : decode cX4_canal 26 = .ok (.iconst 0, 1) := by decide +kernel
theorem dX4_canal_27 : decode cX4_canal 27 = .ok (.ireturn, 1) := by decide +kernel
set_option maxRecDepth 20000 in
theorem ggX4_link_X0_has : GoodIn wsX4_link wsX0_has := goodIn_r _ [8, 9, 34, 35, 36] rfl (by decide +kernel)
set_option maxRecDepth 20000 in
theorem gX4_link_X0_has : GoodIn wsX4_link (wsV RX4 62 RX0 yX0_has wsX0_has) := goodIn_app (goodIn_of _ (by decide +kernel)) ggX4_link_X0_has
set_option maxRecDepth 20000 in
theorem ggX4_link_X0_partOf : GoodIn wsX4_link wsX0_partOf := goodIn_r _ [13, 9, 14, 15, 16, 17, 34, 35, 36] rfl (by decide +kernel)
set_option maxRecDepth 20000 in
theorem gX4_link_X0_partOf : GoodIn wsX4_link (wsV RX4 66 RX0 yX0_partOf wsX0_partOf) := goodIn_app (goodIn_of _ (by decide +kernel)) ggX4_link_X0_partOf
set_option maxRecDepth 20000 in
theorem ggX4_link_X4_contains : GoodIn wsX4_link wsX4_contains := goodIn_r _ [17] rfl (by decide +kernel)
set_option maxRecDepth 20000 in
theorem gX4_link_X4_contains : GoodIn wsX4_link (va_wsS RX4 69 yX4_contains wsX4_contains) := goodIn_app (goodIn_of _ (by decide +kernel)) ggX4_link_X4_contains
set_option maxRecDepth 20000 in
theorem ggX4_link_X0_tie : GoodIn wsX4_link wsX0_tie := goodIn_r _ [22, 14, 23, 34, 35, 36] rfl (by decide +kernel)
set_option maxRecDepth 20000 in
theorem gX4_link_X0_tie : GoodIn wsX4_link (wsV RX4 73 RX0 yX0_tie wsX0_tie) := goodIn_app (goodIn_of _ (by decide +kernel)) ggX4_link_X0_tie
theorem dX4_link_0 : decode cX4_link 0 = .ok (.aload_n 0, 1) := by decide +kernel
theorem dX4_link_1 : decode cX4_link 1 = .ok (.getfield 55, 3) := by decide +kernel
theorem dX4_link_4 : decode cX4_link 4 = .ok (.ifCond .ne 40, 3) := by decide +kernel
theorem dX4_link_7 : decode cX4_link 7 = .ok (.aload_n 0, 1) := by decide +kernel
theorem dX4_link_8 : decode cX4_link 8 = .ok (.getfield 10, 3) := by decide +kernel
theorem dX4_link_11 : decode cX4_link 11 = .ok (.iload_n 1, 1) := by decide +kernel
theorem dX4_link_12 : decode cX4_link 12 = .ok (.invokevirtual 62, 3) := by decide +kernel
theorem dX4_link_15 : decode cX4_link 15 = .ok (.ifCond .eq 29, 3) := by decide +kernel
theorem dX4_link_18 : decode cX4_link 18 = .ok (.aload_n 0, 1) := by decide +kernel
theorem dX4_link_19 : decode cX4_link 19 = .ok (.getfield 10, 3) := by decide +kernel
theorem dX4_link_22 : decode cX4_link 22 = .ok (.iload_n 2, 1) := by decide +kernel
theorem dX4_link_23 : decode cX4_link 23 = .ok (.invokevirtual 62, 3) := by decide +kernel
theorem dX4_link_26 : decode cX4_link 26 = .ok (.ifCond .eq 18, 3) := by decide +kernel
theorem dX4_link_29 : decode cX4_link 29 = .ok (.aload_n 0, 1) := by decide +kernel
theorem dX4_link_30 : decode cX4_link 30 = .ok (.getfield 10, 3) := by decide +kernel
theorem dX4_link_33 : decode cX4_link 33 = .ok (.iload_n 1, 1) := by decide +kernel
theorem dX4_link_34 : decode cX4_link 34 = .ok (.invokevirtual 66, 3) := by decide +kernel
theorem dX4_link_37 : decode cX4_link 37 = .ok (.iload_n 2, 1) := by decide +kernel
theorem dX4_link_38 : decode cX4_link 38 = .ok (.invokestatic 69, 3) := by decide +kernel
theorem dX4_link_41 : decode cX4_link 41 = .ok (.ifCond .eq 5, 3) := by decide +kernel
theorem dX4_link_44 : decode cX4_link 44 = .ok (.iconst (-1), 1) := by decide +kernel
theorem dX4_link_45 : decode cX4_link 45 = .ok (.ireturn, 1) := by decide +kernel
theorem dX4_link_46 : decode cX4_link 46 = .ok (.aload_n 0, 1) := by decide +kernel
theorem dX4_link_47 : decode cX4_link 47 = .ok (.getfield 10, 3) := by decide +kernel
theorem dX4_link_50 : decode cX4_link 50 = .ok (.iload_n 1, 1) := by decide +kernel
theorem dX4_link_51 : decode cX4_link 51 = .ok (.iload_n 2, 1) := by decide +kernel
theorem dX4_link_52 : decode cX4_link 52 = .ok (.invokevirtual 73, 3) := by decide +kernel
theorem dX4_link_55 : decode cX4_link 55 = .ok (.aload_n 0, 1) := by decide +kernel
theorem dX4_link_56 : decode cX4_link 56 = .ok (.getfield 10, 3) := by decide +kernel
theorem dX4_link_59 : decode cX4_link 59 = .ok (.getfield 77, 3) := by decide +kernel
theorem dX4_link_62 : decode cX4_link 62 = .ok (.ireturn, 1) := by decide +kernel
set_option maxRecDepth 20000 in
theorem ggX4_open_X0_has : GoodIn wsX4_open wsX0_has := goodIn_r _ [16, 17, 78, 79, 80] rfl (by decide +kernel)
set_option maxRecDepth 20000 in
theorem gX4_open_X0_has : GoodIn wsX4_open (wsV RX4 62 RX0 yX0_has wsX0_has) := goodIn_app (goodIn_of _ (by decide +kernel)) ggX4_open_X0_has
set_option maxRecDepth 20000 in
theorem ggX4_open_X0_parts : GoodIn wsX4_open wsX0_parts := goodIn_r _ [21, 17, 22, 78, 79, 80] rfl (by decide +kernel)
set_option maxRecDepth 20000 in
theorem gX4_open_X0_parts : GoodIn wsX4_open (wsV RX4 81 RX0 yX0_parts wsX0_parts) := goodIn_app (goodIn_of _ (by decide +kernel)) ggX4_open_X0_parts
set_option maxRecDepth 20000 in
theorem ggX4_open_X3_clear : GoodIn wsX4_open wsX3_clear := goodIn_r _ [27, 28, 29, 30, 31, 32, 33, 34, 35, 36, 37, 38, 39, 81, 82, 83, 84, 85, 86, 87, 88, 89, 90, 91, 92, 93, 94, 95] rfl (by decide +kernel)
set_option maxRecDepth 20000 in
theorem gX4_open_X3_clear : GoodIn wsX4_open (wsV RX4 97 RX3 yX3_clear wsX3_clear) := goodIn_app (goodIn_of _ (by decide +kernel)) ggX4_open_X3_clear
set_option maxRecDepth 20000 in
theorem ggX4_open_J7_fill_53178 : GoodIn wsX4_open wsJ7_fill_53178 := goodIn_r _ [43] rfl (by decide +kernel)
set_option maxRecDepth 20000 in
theorem gX4_open_J7_fill_53178 : GoodIn wsX4_open (va_wsS RX4 99 yJ7_fill_53178 wsJ7_fill_53178) := goodIn_app (goodIn_of _ (by decide +kernel)) ggX4_open_J7_fill_53178
set_option maxRecDepth 20000 in
theorem ggX4_open_X4_pointAllTo : GoodIn wsX4_open wsX4_pointAllTo := goodIn_r _ [48, 9, 49, 2, 50, 51, 52, 53, 47, 54, 55, 56, 57, 15, 58, 59, 60, 61, 62, 63, 64, 65, 66, 67, 68, 69, 70, 71, 81, 82, 83, 84, 85, 86, 87, 88, 89, 90, 91, 92, 78, 79, 80] rfl (by decide +kernel)
set_option maxRecDepth 20000 in
theorem gX4_open_X4_pointAllTo : GoodIn wsX4_open (wsV RX4 105 RX4 yX4_pointAllTo wsX4_pointAllTo) := goodIn_app (goodIn_of _ (by decide +kernel)) ggX4_open_X4_pointAllTo
theorem dX4_open_0 : decode cX4_open 0 = .ok (.aload_n 0, 1) := by decide +kernel
theorem dX4_open_1 : decode cX4_open 1 = .ok (.getfield 55, 3) := by decide +kernel
theorem dX4_open_4 : decode cX4_open 4 = .ok (.ifCond .ne 25, 3) := by decide +kernel
theorem dX4_open_7 : decode cX4_open 7 = .ok (.aload_n 0, 1) := by decide +kernel
theorem dX4_open_8 : decode cX4_open 8 = .ok (.getfield 10, 3) := by decide +kernel
theorem dX4_open_11 : decode cX4_open 11 = .ok (.iload_n 1, 1) := by decide +kernel
theorem dX4_open_12 : decode cX4_open 12 = .ok (.invokevirtual 62, 3) := by decide +kernel
theorem dX4_open_15 : decode cX4_open 15 = .ok (.ifCond .eq 14, 3) := by decide +kernel
theorem dX4_open_18 : decode cX4_open 18 = .ok (.aload_n 0, 1) := by decide +kernel
theorem dX4_open_19 : decode cX4_open 19 = .ok (.getfield 10, 3) := by decide +kernel
theorem dX4_open_22 : decode cX4_open 22 = .ok (.invokevirtual 81, 3) := by decide +kernel
theorem dX4_open_25 : decode cX4_open 25 = .ok (.iconst 1, 1) := by decide +kernel
theorem dX4_open_26 : decode cX4_open 26 = .ok (.if_icmp .le 5, 3) := by decide +kernel
theorem dX4_open_29 : decode cX4_open 29 = .ok (.iconst (-1), 1) := by decide +kernel
theorem dX4_open_30 : decode cX4_open 30 = .ok (.ireturn, 1) := by decide +kernel
theorem dX4_open_31 : decode cX4_open 31 = .ok (.iload_n 2, 1) := by decide +kernel
theorem dX4_open_32 : decode cX4_open 32 = .ok (.ifCond .lt 18, 3) := by decide +kernel
theorem dX4_open_35 : decode cX4_open 35 = .ok (.iload_n 2, 1) := by decide +kernel
theorem dX4_open_36 : decode cX4_open 36 = .ok (.iconst 2, 1) := by decide +kernel
theorem dX4_open_37 : decode cX4_open 37 = .ok (.if_icmp .gt 13, 3) := by decide +kernel
theorem dX4_open_40 : decode cX4_open 40 = .ok (.iload_n 3, 1) := by decide +kernel
theorem dX4_open_41 : decode cX4_open 41 = .ok (.iconst 1, 1) := by decide +kernel
theorem dX4_open_42 : decode cX4_open 42 = .ok (.if_icmp .lt 8, 3) := by decide +kernel
theorem dX4_open_45 : decode cX4_open 45 = .ok (.iload_n 3, 1) := by decide +kernel
theorem dX4_open_46 : decode cX4_open 46 = .ok (.iconst 4, 1) := by decide +kernel
theorem dX4_open_47 : decode cX4_open 47 = .ok (.if_icmp .le 5, 3) := by decide +kernel
theorem dX4_open_50 : decode cX4_open 50 = .ok (.iconst (-1), 1) := by decide +kernel
theorem dX4_open_51 : decode cX4_open 51 = .ok (.ireturn, 1) := by decide +kernel
theorem dX4_open_52 : decode cX4_open 52 = .ok (.aload_n 0, 1) := by decide +kernel
theorem dX4_open_53 : decode cX4_open 53 = .ok (.iload_n 2, 1) := by decide +kernel
theorem dX4_open_54 : decode cX4_open 54 = .ok (.putfield 85, 3) := by decide +kernel
theorem dX4_open_57 : decode cX4_open 57 = .ok (.aload_n 0, 1) := by decide +kernel
theorem dX4_open_58 : decode cX4_open 58 = .ok (.iload_n 3, 1) := by decide +kernel
theorem dX4_open_59 : decode cX4_open 59 = .ok (.putfield 88, 3) := by decide +kernel
theorem dX4_open_62 : decode cX4_open 62 = .ok (.aload_n 0, 1) := by decide +kernel
theorem dX4_open_63 : decode cX4_open 63 = .ok (.iconst 0, 1) := by decide +kernel
theorem dX4_open_64 : decode cX4_open 64 = .ok (.putfield 91, 3) := by decide +kernel
theorem dX4_open_67 : decode cX4_open 67 = .ok (.aload_n 0, 1) := by decide +kernel
theorem dX4_open_68 : decode cX4_open 68 = .ok (.getfield 27, 3) := by decide +kernel
theorem dX4_open_71 : decode cX4_open 71 = .ok (.iconst 0, 1) := by decide +kernel
theorem dX4_open_72 : decode cX4_open 72 = .ok (.putfield 94, 3) := by decide +kernel
theorem dX4_open_75 : decode cX4_open 75 = .ok (.aload_n 0, 1) := by decide +kernel
theorem dX4_open_76 : decode cX4_open 76 = .ok (.getfield 31, 3) := by decide +kernel
theorem dX4_open_79 : decode cX4_open 79 = .ok (.iconst 0, 1) := by decide +kernel
theorem dX4_open_80 : decode cX4_open 80 = .ok (.putfield 94, 3) := by decide +kernel
theorem dX4_open_83 : decode cX4_open 83 = .ok (.iconst 0, 1) := by decide +kernel
theorem dX4_open_84 : decode cX4_open 84 = .ok (.istore 4, 2) := by decide +kernel
theorem dX4_open_86 : decode cX4_open 86 = .ok (.iload 4, 2) := by decide +kernel
theorem dX4_open_88 : decode cX4_open 88 = .ok (.bipush 24, 2) := by decide +kernel
theorem dX4_open_90 : decode cX4_open 90 = .ok (.if_icmp .ge 41, 3) := by decide +kernel
theorem dX4_open_93 : decode cX4_open 93 = .ok (.aload_n 0, 1) := by decide +kernel
theorem dX4_open_94 : decode cX4_open 94 = .ok (.getfield 18, 3) := by decide +kernel
theorem dX4_open_97 : decode cX4_open 97 = .ok (.iload 4, 2) := by decide +kernel
theorem dX4_open_99 : decode cX4_open 99 = .ok (.aaload, 1) := by decide +kernel
theorem dX4_open_100 : decode cX4_open 100 = .ok (.invokevirtual 97, 3) := by decide +kernel
theorem dX4_open_103 : decode cX4_open 103 = .ok (.aload_n 0, 1) := by decide +kernel
theorem dX4_open_104 : decode cX4_open 104 = .ok (.getfield 36, 3) := by decide +kernel
theorem dX4_open_107 : decode cX4_open 107 = .ok (.iload 4, 2) := by decide +kernel
theorem dX4_open_109 : decode cX4_open 109 = .ok (.aaload, 1) := by decide +kernel
theorem dX4_open_110 : decode cX4_open 110 = .ok (.iconst 0, 1) := by decide +kernel
theorem dX4_open_111 : decode cX4_open 111 = .ok (.invokestatic 99, 3) := by decide +kernel
theorem dX4_open_114 : decode cX4_open 114 = .ok (.aload_n 0, 1) := by decide +kernel
theorem dX4_open_115 : decode cX4_open 115 = .ok (.getfield 39, 3) := by decide +kernel
theorem dX4_open_118 : decode cX4_open 118 = .ok (.iload 4, 2) := by decide +kernel
theorem dX4_open_120 : decode cX4_open 120 = .ok (.aaload, 1) := by decide +kernel
theorem dX4_open_121 : decode cX4_open 121 = .ok (.iconst 0, 1) := by decide +kernel
theorem dX4_open_122 : decode cX4_open 122 = .ok (.invokestatic 99, 3) := by decide +kernel
theorem dX4_open_125 : decode cX4_open 125 = .ok (.iinc 4 1, 3) := by decide +kernel
theorem dX4_open_128 : decode cX4_open 128 = .ok (.goto (-42), 3) := by decide +kernel
theorem dX4_open_131 : decode cX4_open 131 = .ok (.aload_n 0, 1) := by decide +kernel
theorem dX4_open_132 : decode cX4_open 132 = .ok (.iload_n 1, 1) := by decide +kernel
theorem dX4_open_133 : decode cX4_open 133 = .ok (.invokevirtual 105, 3) := by decide +kernel
theorem dX4_open_136 : decode cX4_open 136 = .ok (.aload_n 0, 1) := by decide +kernel
theorem dX4_open_137 : decode cX4_open 137 = .ok (.iconst 1, 1) := by decide +kernel
theorem dX4_open_138 : decode cX4_open 138 = .ok (.putfield 55, 3) := by decide +kernel
theorem dX4_open_141 : decode cX4_open 141 = .ok (.iconst 0, 1) := by decide +kernel
theorem dX4_open_142 : decode cX4_open 142 = .ok (.ireturn, 1) := by decide +kernel
set_option maxRecDepth 20000 in
theorem ggX4_want_X4_isUp : GoodIn wsX4_want wsX4_isUp := goodIn_r _ [11, 1, 12, 13, 14, 15, 10, 16, 17, 18, 19, 20, 21, 22, 23, 24, 44, 45, 46, 47, 48, 49, 50, 51, 52, 53, 54, 55, 56, 57, 58, 59, 60, 61, 62, 63, 64, 65, 69, 70, 71] rfl (by decide +kernel)
set_option maxRecDepth 20000 in
theorem gX4_want_X4_isUp : GoodIn wsX4_want (wsV RX4 108 RX4 yX4_isUp wsX4_isUp) := goodIn_app (goodIn_of _ (by decide +kernel)) ggX4_want_X4_isUp
set_option maxRecDepth 20000 in
theorem ggX4_want_X3_wants : GoodIn wsX4_want wsX3_wants := goodIn_r _ [29, 30, 31, 32, 33, 34, 35, 36, 37, 38, 54, 55, 56, 57, 58, 59, 60, 61, 62, 63, 64, 65, 66, 67, 68] rfl (by decide +kernel)
set_option maxRecDepth 20000 in
theorem gX4_want_X3_wants : GoodIn wsX4_want (wsV RX4 114 RX3 yX3_wants wsX3_wants) := goodIn_app (goodIn_of _ (by decide +kernel)) ggX4_want_X3_wants
set_option maxRecDepth 20000 in
theorem ggX4_want_X2_add : GoodIn wsX4_want wsX2_add := goodIn_r _ [42, 37, 38, 43, 66, 67, 68] rfl (by decide +kernel)
set_option maxRecDepth 20000 in
theorem gX4_want_X2_add : GoodIn wsX4_want (wsV RX4 122 RX2 yX2_add wsX2_add) := goodIn_app (goodIn_of _ (by decide +kernel)) ggX4_want_X2_add
