theorem dX5_begin_0 : decode cX5_begin 0 = .ok (.aload_n 0, 1) := by decide +kernel
theorem dX5_begin_1 : decode cX5_begin 1 = .ok (.iload_n 1, 1) := by decide +kernel
theorem dX5_begin_2 : decode cX5_begin 2 = .ok (.invokevirtual 163, 3) := by decide +kernel
theorem dX5_begin_5 : decode cX5_begin 5 = .ok (.ifCond .ne 5, 3) := by decide +kernel
theorem dX5_begin_8 : decode cX5_begin 8 = .ok (.iconst (-1), 1) := by decide +kernel
theorem dX5_begin_9 : decode cX5_begin 9 = .ok (.ireturn, 1) := by decide +kernel
theorem dX5_begin_10 : decode cX5_begin 10 = .ok (.aload_n 0, 1) := by decide +kernel
theorem dX5_begin_11 : decode cX5_begin 11 = .ok (.getfield 13, 3) := by decide +kernel
theorem dX5_begin_14 : decode cX5_begin 14 = .ok (.iload_n 1, 1) := by decide +kernel
theorem dX5_begin_15 : decode cX5_begin 15 = .ok (.iaload, 1) := by decide +kernel
theorem dX5_begin_16 : decode cX5_begin 16 = .ok (.iload_n 1, 1) := by decide +kernel
theorem dX5_begin_17 : decode cX5_begin 17 = .ok (.if_icmp .ne 40, 3) := by decide +kernel
theorem dX5_begin_20 : decode cX5_begin 20 = .ok (.aload_n 0, 1) := by decide +kernel
theorem dX5_begin_21 : decode cX5_begin 21 = .ok (.getfield 20, 3) := by decide +kernel
theorem dX5_begin_24 : decode cX5_begin 24 = .ok (.iload_n 1, 1) := by decide +kernel
theorem dX5_begin_25 : decode cX5_begin 25 = .ok (.baload, 1) := by decide +kernel
theorem dX5_begin_26 : decode cX5_begin 26 = .ok (.ifCond .ne 31, 3) := by decide +kernel
theorem dX5_begin_29 : decode cX5_begin 29 = .ok (.aload_n 0, 1) := by decide +kernel
theorem dX5_begin_30 : decode cX5_begin 30 = .ok (.getfield 41, 3) := by decide +kernel
theorem dX5_begin_33 : decode cX5_begin 33 = .ok (.iload_n 1, 1) := by decide +kernel
theorem dX5_begin_34 : decode cX5_begin 34 = .ok (.iaload, 1) := by decide +kernel
theorem dX5_begin_35 : decode cX5_begin 35 = .ok (.ifCond .eq 22, 3) := by decide +kernel
theorem dX5_begin_38 : decode cX5_begin 38 = .ok (.aload_n 0, 1) := by decide +kernel
theorem dX5_begin_39 : decode cX5_begin 39 = .ok (.getfield 44, 3) := by decide +kernel
theorem dX5_begin_42 : decode cX5_begin 42 = .ok (.aload_n 0, 1) := by decide +kernel
theorem dX5_begin_43 : decode cX5_begin 43 = .ok (.iload_n 1, 1) := by decide +kernel
theorem dX5_begin_44 : decode cX5_begin 44 = .ok (.aload_n 0, 1) := by decide +kernel
theorem dX5_begin_45 : decode cX5_begin 45 = .ok (.iload_n 1, 1) := by decide +kernel
theorem dX5_begin_46 : decode cX5_begin 46 = .ok (.invokevirtual 169, 3) := by decide +kernel
theorem dX5_begin_49 : decode cX5_begin 49 = .ok (.invokevirtual 139, 3) := by decide +kernel
theorem dX5_begin_52 : decode cX5_begin 52 = .ok (.iaload, 1) := by decide +kernel
theorem dX5_begin_53 : decode cX5_begin 53 = .ok (.iload_n 1, 1) := by decide +kernel
theorem dX5_begin_54 : decode cX5_begin 54 = .ok (.if_icmp .eq 6, 3) := by decide +kernel
theorem dX5_begin_57 : decode cX5_begin 57 = .ok (.bipush (-2), 2) := by decide +kernel
theorem dX5_begin_59 : decode cX5_begin 59 = .ok (.ireturn, 1) := by decide +kernel
theorem dX5_begin_60 : decode cX5_begin 60 = .ok (.aload_n 0, 1) := by decide +kernel
theorem dX5_begin_61 : decode cX5_begin 61 = .ok (.iload_n 1, 1) := by decide +kernel
theorem dX5_begin_62 : decode cX5_begin 62 = .ok (.iload_n 1, 1) := by decide +kernel
theorem dX5_begin_63 : decode cX5_begin 63 = .ok (.invokevirtual 142, 3) := by decide +kernel
theorem dX5_begin_66 : decode cX5_begin 66 = .ok (.istore_n 2, 1) := by decide +kernel
theorem dX5_begin_67 : decode cX5_begin 67 = .ok (.aload_n 0, 1) := by decide +kernel
theorem dX5_begin_68 : decode cX5_begin 68 = .ok (.getfield 38, 3) := by decide +kernel
theorem dX5_begin_71 : decode cX5_begin 71 = .ok (.iload_n 1, 1) := by decide +kernel
theorem dX5_begin_72 : decode cX5_begin 72 = .ok (.dup2, 1) := by decide +kernel
theorem dX5_begin_73 : decode cX5_begin 73 = .ok (.iaload, 1) := by decide +kernel
theorem dX5_begin_74 : decode cX5_begin 74 = .ok (.iload_n 2, 1) := by decide +kernel
theorem dX5_begin_75 : decode cX5_begin 75 = .ok (.ifCond .le 7, 3) := by decide +kernel
theorem dX5_begin_78 : decode cX5_begin 78 = .ok (.iconst 1, 1) := by decide +kernel
theorem dX5_begin_79 : decode cX5_begin 79 = .ok (.goto 4, 3) := by decide +kernel
theorem dX5_begin_82 : decode cX5_begin 82 = .ok (.iconst 0, 1) := by decide +kernel
theorem dX5_begin_83 : decode cX5_begin 83 = .ok (.iadd, 1) := by decide +kernel
theorem dX5_begin_84 : decode cX5_begin 84 = .ok (.iastore, 1) := by decide +kernel
theorem dX5_begin_85 : decode cX5_begin 85 = .ok (.aload_n 0, 1) := by decide +kernel
theorem dX5_begin_86 : decode cX5_begin 86 = .ok (.iload_n 1, 1) := by decide +kernel
theorem dX5_begin_87 : decode cX5_begin 87 = .ok (.iload_n 2, 1) := by decide +kernel
theorem dX5_begin_88 : decode cX5_begin 88 = .ok (.invokevirtual 172, 3) := by decide +kernel
theorem dX5_begin_91 : decode cX5_begin 91 = .ok (.aload_n 0, 1) := by decide +kernel
theorem dX5_begin_92 : decode cX5_begin 92 = .ok (.getfield 26, 3) := by decide +kernel
theorem dX5_begin_95 : decode cX5_begin 95 = .ok (.iload_n 1, 1) := by decide +kernel
theorem dX5_begin_96 : decode cX5_begin 96 = .ok (.dup2, 1) := by decide +kernel
theorem dX5_begin_97 : decode cX5_begin 97 = .ok (.iaload, 1) := by decide +kernel
theorem dX5_begin_98 : decode cX5_begin 98 = .ok (.aload_n 0, 1) := by decide +kernel
theorem dX5_begin_99 : decode cX5_begin 99 = .ok (.getfield 41, 3) := by decide +kernel
theorem dX5_begin_102 : decode cX5_begin 102 = .ok (.iload_n 1, 1) := by decide +kernel
theorem dX5_begin_103 : decode cX5_begin 103 = .ok (.iaload, 1) := by decide +kernel
theorem dX5_begin_104 : decode cX5_begin 104 = .ok (.ifCond .le 7, 3) := by decide +kernel
theorem dX5_begin_107 : decode cX5_begin 107 = .ok (.iconst 1, 1) := by decide +kernel
theorem dX5_begin_108 : decode cX5_begin 108 = .ok (.goto 4, 3) := by decide +kernel
theorem dX5_begin_111 : decode cX5_begin 111 = .ok (.iconst 0, 1) := by decide +kernel
theorem dX5_begin_112 : decode cX5_begin 112 = .ok (.iadd, 1) := by decide +kernel
theorem dX5_begin_113 : decode cX5_begin 113 = .ok (.iastore, 1) := by decide +kernel
theorem dX5_begin_114 : decode cX5_begin 114 = .ok (.aload_n 0, 1) := by decide +kernel
theorem dX5_begin_115 : decode cX5_begin 115 = .ok (.getfield 20, 3) := by decide +kernel
theorem dX5_begin_118 : decode cX5_begin 118 = .ok (.iload_n 1, 1) := by decide +kernel
theorem dX5_begin_119 : decode cX5_begin 119 = .ok (.iconst 1, 1) := by decide +kernel
theorem dX5_begin_120 : decode cX5_begin 120 = .ok (.bastore, 1) := by decide +kernel
theorem dX5_begin_121 : decode cX5_begin 121 = .ok (.aload_n 0, 1) := by decide +kernel
theorem dX5_begin_122 : decode cX5_begin 122 = .ok (.dup, 1) := by decide +kernel
theorem dX5_begin_123 : decode cX5_begin 123 = .ok (.getfield 130, 3) := by decide +kernel
theorem dX5_begin_126 : decode cX5_begin 126 = .ok (.iconst 1, 1) := by decide +kernel
theorem dX5_begin_127 : decode cX5_begin 127 = .ok (.iadd, 1) := by decide +kernel
theorem dX5_begin_128 : decode cX5_begin 128 = .ok (.putfield 130, 3) := by decide +kernel
theorem dX5_begin_131 : decode cX5_begin 131 = .ok (.iconst 0, 1) := by decide +kernel
theorem dX5_begin_132 : decode cX5_begin 132 = .ok (.istore_n 3, 1) := by decide +kernel
theorem dX5_begin_133 : decode cX5_begin 133 = .ok (.iload_n 3, 1) := by decide +kernel
theorem dX5_begin_134 : decode cX5_begin 134 = .ok (.aload_n 0, 1) := by decide +kernel
theorem dX5_begin_135 : decode cX5_begin 135 = .ok (.getfield 101, 3) := by decide +kernel
theorem dX5_begin_138 : decode cX5_begin 138 = .ok (.if_icmp .ge 37, 3) := by decide +kernel
theorem dX5_begin_141 : decode cX5_begin 141 = .ok (.aload_n 0, 1) := by decide +kernel
theorem dX5_begin_142 : decode cX5_begin 142 = .ok (.getfield 35, 3) := by decide +kernel
theorem dX5_begin_145 : decode cX5_begin 145 = .ok (.iload_n 3, 1) := by decide +kernel
theorem dX5_begin_146 : decode cX5_begin 146 = .ok (.dup2, 1) := by decide +kernel
theorem dX5_begin_147 : decode cX5_begin 147 = .ok (.iaload, 1) := by decide +kernel
theorem dX5_begin_148 : decode cX5_begin 148 = .ok (.iload_n 3, 1) := by decide +kernel
theorem dX5_begin_149 : decode cX5_begin 149 = .ok (.iload_n 1, 1) := by decide +kernel
theorem dX5_begin_150 : decode cX5_begin 150 = .ok (.if_icmp .eq 16, 3) := by decide +kernel
theorem dX5_begin_153 : decode cX5_begin 153 = .ok (.aload_n 0, 1) := by decide +kernel
theorem dX5_begin_154 : decode cX5_begin 154 = .ok (.iload_n 3, 1) := by decide +kernel
theorem dX5_begin_155 : decode cX5_begin 155 = .ok (.iload_n 3, 1) := by decide +kernel
theorem dX5_begin_156 : decode cX5_begin 156 = .ok (.invokevirtual 142, 3) := by decide +kernel
theorem dX5_begin_159 : decode cX5_begin 159 = .ok (.ifCond .lt 7, 3) := by decide +kernel
theorem dX5_begin_162 : decode cX5_begin 162 = .ok (.iconst 1, 1) := by decide +kernel
theorem dX5_begin_163 : decode cX5_begin 163 = .ok (.goto 4, 3) := by decide +kernel
theorem dX5_begin_166 : decode cX5_begin 166 = .ok (.iconst 0, 1) := by decide +kernel
theorem dX5_begin_167 : decode cX5_begin 167 = .ok (.iadd, 1) := by decide +kernel
theorem dX5_begin_168 : decode cX5_begin 168 = .ok (.iastore, 1) := by decide +kernel
theorem dX5_begin_169 : decode cX5_begin 169 = .ok (.iinc 3 1, 3) := by decide +kernel
theorem dX5_begin_172 : decode cX5_begin 172 = .ok (.goto (-39), 3) := by decide +kernel
theorem dX5_begin_175 : decode cX5_begin 175 = .ok (.iconst 0, 1) := by decide +kernel
theorem dX5_begin_176 : decode cX5_begin 176 = .ok (.ireturn, 1) := by decide +kernel
theorem dX5_stop_0 : decode cX5_stop 0 = .ok (.aload_n 0, 1) := by decide +kernel
theorem dX5_stop_1 : decode cX5_stop 1 = .ok (.getfield 32, 3) := by decide +kernel
theorem dX5_stop_4 : decode cX5_stop 4 = .ok (.iload_n 1, 1) := by decide +kernel
theorem dX5_stop_5 : decode cX5_stop 5 = .ok (.dup2, 1) := by decide +kernel
theorem dX5_stop_6 : decode cX5_stop 6 = .ok (.iaload, 1) := by decide +kernel
theorem dX5_stop_7 : decode cX5_stop 7 = .ok (.aload_n 0, 1) := by decide +kernel
theorem dX5_stop_8 : decode cX5_stop 8 = .ok (.getfield 20, 3) := by decide +kernel
theorem dX5_stop_11 : decode cX5_stop 11 = .ok (.iload_n 1, 1) := by decide +kernel
theorem dX5_stop_12 : decode cX5_stop 12 = .ok (.baload, 1) := by decide +kernel
theorem dX5_stop_13 : decode cX5_stop 13 = .ok (.ifCond .eq 7, 3) := by decide +kernel
theorem dX5_stop_16 : decode cX5_stop 16 = .ok (.iconst 1, 1) := by decide +kernel
theorem dX5_stop_17 : decode cX5_stop 17 = .ok (.goto 4, 3) := by decide +kernel
theorem dX5_stop_20 : decode cX5_stop 20 = .ok (.iconst 0, 1) := by decide +kernel
theorem dX5_stop_21 : decode cX5_stop 21 = .ok (.iadd, 1) := by decide +kernel
theorem dX5_stop_22 : decode cX5_stop 22 = .ok (.iastore, 1) := by decide +kernel
theorem dX5_stop_23 : decode cX5_stop 23 = .ok (.aload_n 0, 1) := by decide +kernel
theorem dX5_stop_24 : decode cX5_stop 24 = .ok (.getfield 20, 3) := by decide +kernel
theorem dX5_stop_27 : decode cX5_stop 27 = .ok (.iload_n 1, 1) := by decide +kernel
theorem dX5_stop_28 : decode cX5_stop 28 = .ok (.iconst 0, 1) := by decide +kernel
theorem dX5_stop_29 : decode cX5_stop 29 = .ok (.bastore, 1) := by decide +kernel
theorem dX5_stop_30 : decode cX5_stop 30 = .ok (.return_, 1) := by decide +kernel
set_option maxRecDepth 20000 in
theorem ggX5_end_X5_isStation : GoodIn wsX5_end wsX5_isStation := goodIn_r _ [8, 9, 14, 15, 16, 17, 18, 19, 20, 21, 22, 23, 24, 25, 26, 27, 28, 29, 30, 31, 32, 33, 34, 35, 36, 37, 38, 39, 40, 41, 42, 43, 44, 45, 46] rfl (by decide +kernel)
set_option maxRecDepth 20000 in
theorem gX5_end_X5_isStation : GoodIn wsX5_end (wsV RX5 109 RX5 yX5_isStation wsX5_isStation) := goodIn_app (goodIn_of _ (by decide +kernel)) ggX5_end_X5_isStation
set_option maxRecDepth 20000 in
theorem ggX5_end_X5_stop : GoodIn wsX5_end wsX5_stop := goodIn_r _ [13, 3, 2, 14, 15, 16, 17, 18, 19, 20, 21, 22, 23, 24, 25, 26, 27, 28, 29, 30, 31, 32, 33, 34, 35, 36, 37, 38, 39, 40, 41, 42, 43, 44, 45, 46] rfl (by decide +kernel)
set_option maxRecDepth 20000 in
theorem gX5_end_X5_stop : GoodIn wsX5_end (wsV RX5 176 RX5 yX5_stop wsX5_stop) := goodIn_app (goodIn_of _ (by decide +kernel)) ggX5_end_X5_stop
theorem dX5_end_0 : decode cX5_end 0 = .ok (.aload_n 0, 1) := by decide +kernel
theorem dX5_end_1 : decode cX5_end 1 = .ok (.getfield 105, 3) := by decide +kernel
theorem dX5_end_4 : decode cX5_end 4 = .ok (.ifCond .eq 20, 3) := by decide +kernel
theorem dX5_end_7 : decode cX5_end 7 = .ok (.aload_n 0, 1) := by decide +kernel
theorem dX5_end_8 : decode cX5_end 8 = .ok (.iload_n 1, 1) := by decide +kernel
theorem dX5_end_9 : decode cX5_end 9 = .ok (.invokevirtual 109, 3) := by decide +kernel
theorem dX5_end_12 : decode cX5_end 12 = .ok (.ifCond .eq 12, 3) := by decide +kernel
theorem dX5_end_15 : decode cX5_end 15 = .ok (.aload_n 0, 1) := by decide +kernel
theorem dX5_end_16 : decode cX5_end 16 = .ok (.getfield 20, 3) := by decide +kernel
theorem dX5_end_19 : decode cX5_end 19 = .ok (.iload_n 1, 1) := by decide +kernel
theorem dX5_end_20 : decode cX5_end 20 = .ok (.baload, 1) := by decide +kernel
theorem dX5_end_21 : decode cX5_end 21 = .ok (.ifCond .ne 5, 3) := by decide +kernel
theorem dX5_end_24 : decode cX5_end 24 = .ok (.iconst (-1), 1) := by decide +kernel
theorem dX5_end_25 : decode cX5_end 25 = .ok (.ireturn, 1) := by decide +kernel
theorem dX5_end_26 : decode cX5_end 26 = .ok (.aload_n 0, 1) := by decide +kernel
theorem dX5_end_27 : decode cX5_end 27 = .ok (.iload_n 1, 1) := by decide +kernel
theorem dX5_end_28 : decode cX5_end 28 = .ok (.invokevirtual 176, 3) := by decide +kernel
theorem dX5_end_31 : decode cX5_end 31 = .ok (.aload_n 0, 1) := by decide +kernel
theorem dX5_end_32 : decode cX5_end 32 = .ok (.getfield 32, 3) := by decide +kernel
theorem dX5_end_35 : decode cX5_end 35 = .ok (.iload_n 1, 1) := by decide +kernel
theorem dX5_end_36 : decode cX5_end 36 = .ok (.iaload, 1) := by decide +kernel
theorem dX5_end_37 : decode cX5_end 37 = .ok (.ireturn, 1) := by decide +kernel
set_option maxRecDepth 20000 in
theorem ggX5_step_X5_isUp : GoodIn wsX5_step wsX5_isUp := goodIn_r _ [13, 14, 15, 16, 17, 18, 12, 19, 20, 74, 75, 76, 77, 78, 79, 80, 81, 82, 83, 84, 85, 86, 87, 88, 89, 90, 91, 92, 93, 94, 95, 96, 97, 98, 99, 100, 101, 102, 103, 104, 105, 106] rfl (by decide +kernel)
set_option maxRecDepth 20000 in
theorem gX5_step_X5_isUp : GoodIn wsX5_step (wsV RX5 163 RX5 yX5_isUp wsX5_isUp) := goodIn_app (goodIn_of _ (by decide +kernel)) ggX5_step_X5_isUp
set_option maxRecDepth 20000 in
theorem ggX5_step_X5_firstOf : GoodIn wsX5_step wsX5_firstOf := goodIn_r _ [24, 7, 5, 25, 1, 26, 27, 28, 29, 12, 30, 3, 31, 32, 33, 34, 74, 75, 76, 77, 78, 79, 80, 81, 82, 83, 84, 85, 86, 87, 88, 89, 90, 91, 92, 93, 94, 95, 96, 97, 98, 99, 100, 101, 102, 103, 104, 105, 106] rfl (by decide +kernel)
set_option maxRecDepth 20000 in
theorem gX5_step_X5_firstOf : GoodIn wsX5_step (wsV RX5 169 RX5 yX5_firstOf wsX5_firstOf) := goodIn_app (goodIn_of _ (by decide +kernel)) ggX5_step_X5_firstOf
set_option maxRecDepth 20000 in
theorem ggX5_step_X5_entry : GoodIn wsX5_step wsX5_entry := goodIn_r _ [34] rfl (by decide +kernel)
set_option maxRecDepth 20000 in
theorem gX5_step_X5_entry : GoodIn wsX5_step (wsV RX5 139 RX5 yX5_entry wsX5_entry) := goodIn_app (goodIn_of _ (by decide +kernel)) ggX5_step_X5_entry
set_option maxRecDepth 20000 in
theorem ggX5_step_X5_leave : GoodIn wsX5_step wsX5_leave := goodIn_r _ [38, 1, 3, 26, 31, 32, 33, 12, 34, 74, 75, 76, 77, 78, 79, 80, 81, 82, 83, 84, 85, 86, 87, 88, 89, 90, 91, 92, 93, 94, 95, 96, 97, 98, 99, 100, 101, 102, 103, 104, 105, 106] rfl (by decide +kernel)
set_option maxRecDepth 20000 in
theorem gX5_step_X5_leave : GoodIn wsX5_step (wsV RX5 172 RX5 yX5_leave wsX5_leave) := goodIn_app (goodIn_of _ (by decide +kernel)) ggX5_step_X5_leave
set_option maxRecDepth 20000 in
theorem ggX5_step_X5_write : GoodIn wsX5_step wsX5_write := goodIn_r _ [42, 43, 44, 45, 46, 47, 48, 49, 50, 51, 12, 52, 53, 54, 55, 56, 57, 58, 59, 60, 61, 62, 63, 64, 65, 74, 75, 76, 77, 78, 79, 80, 81, 82, 83, 84, 85, 86, 87, 88, 89, 90, 91, 92, 93, 94, 95, 96, 97, 98, 99, 100, 101, 102, 103, 104, 105, 106] rfl (by decide +kernel)
set_option maxRecDepth 20000 in
theorem gX5_step_X5_write : GoodIn wsX5_step (wsV RX5 159 RX5 yX5_write wsX5_write) := goodIn_app (goodIn_of _ (by decide +kernel)) ggX5_step_X5_write
set_option maxRecDepth 20000 in
theorem ggX5_step_X5_writeAsk : GoodIn wsX5_step wsX5_writeAsk := goodIn_r _ [69, 6, 8, 2, 70, 71, 72, 12, 73, 1, 26, 31, 32, 33, 34, 39, 40, 41, 42, 43, 44, 45, 46, 47, 48, 49, 50, 51, 52, 53, 54, 55, 56, 57, 58, 59, 60, 61, 62, 63, 64, 65, 74, 75, 76, 77, 78, 79, 80, 81, 82, 83, 84, 85, 86, 87, 88, 89, 90, 91, 92, 93, 94, 95, 96, 97, 98, 99, 100, 101, 102, 103, 104, 105, 106] rfl (by decide +kernel)
set_option maxRecDepth 20000 in
theorem gX5_step_X5_writeAsk : GoodIn wsX5_step (wsV RX5 179 RX5 yX5_writeAsk wsX5_writeAsk) := goodIn_app (goodIn_of _ (by decide +kernel)) ggX5_step_X5_writeAsk
set_option maxRecDepth 20000 in
theorem ggX5_step_X5_greatest : GoodIn wsX5_step wsX5_greatest := goodIn_r _ [73, 1, 26, 31, 32, 33, 12, 34, 74, 75, 76, 77, 78, 79, 80, 81, 82, 83, 84, 85, 86, 87, 88, 89, 90, 91, 92, 93, 94, 95, 96, 97, 98, 99, 100, 101, 102, 103, 104, 105, 106] rfl (by decide +kernel)
set_option maxRecDepth 20000 in
theorem gX5_step_X5_greatest : GoodIn wsX5_step (wsV RX5 156 RX5 yX5_greatest wsX5_greatest) := goodIn_app (goodIn_of _ (by decide +kernel)) ggX5_step_X5_greatest
theorem dX5_step_0 : decode cX5_step 0 = .ok (.aload_n 0, 1) := by decide +kernel
theorem dX5_step_1 : decode cX5_step 1 = .ok (.iload_n 1, 1) := by decide +kernel
theorem dX5_step_2 : decode cX5_step 2 = .ok (.invokevirtual 163, 3) := by decide +kernel
theorem dX5_step_5 : decode cX5_step 5 = .ok (.ifCond .ne 5, 3) := by decide +kernel
theorem dX5_step_8 : decode cX5_step 8 = .ok (.iconst (-1), 1) := by decide +kernel
theorem dX5_step_9 : decode cX5_step 9 = .ok (.ireturn, 1) := by decide +kernel
theorem dX5_step_10 : decode cX5_step 10 = .ok (.aload_n 0, 1) := by decide +kernel
theorem dX5_step_11 : decode cX5_step 11 = .ok (.getfield 41, 3) := by decide +kernel
theorem dX5_step_14 : decode cX5_step 14 = .ok (.iload_n 1, 1) := by decide +kernel
theorem dX5_step_15 : decode cX5_step 15 = .ok (.iaload, 1) := by decide +kernel
theorem dX5_step_16 : decode cX5_step 16 = .ok (.ifCond .ne 5, 3) := by decide +kernel
theorem dX5_step_19 : decode cX5_step 19 = .ok (.iconst 0, 1) := by decide +kernel
theorem dX5_step_20 : decode cX5_step 20 = .ok (.ireturn, 1) := by decide +kernel
theorem dX5_step_21 : decode cX5_step 21 = .ok (.aload_n 0, 1) := by decide +kernel
theorem dX5_step_22 : decode cX5_step 22 = .ok (.getfield 13, 3) := by decide +kernel
theorem dX5_step_25 : decode cX5_step 25 = .ok (.iload_n 1, 1) := by decide +kernel
theorem dX5_step_26 : decode cX5_step 26 = .ok (.iaload, 1) := by decide +kernel
theorem dX5_step_27 : decode cX5_step 27 = .ok (.istore_n 2, 1) := by decide +kernel
theorem dX5_step_28 : decode cX5_step 28 = .ok (.iload_n 2, 1) := by decide +kernel
theorem dX5_step_29 : decode cX5_step 29 = .ok (.iload_n 1, 1) := by decide +kernel
theorem dX5_step_30 : decode cX5_step 30 = .ok (.if_icmp .ne 89, 3) := by decide +kernel
theorem dX5_step_33 : decode cX5_step 33 = .ok (.aload_n 0, 1) := by decide +kernel
theorem dX5_step_34 : decode cX5_step 34 = .ok (.iload_n 1, 1) := by decide +kernel
theorem dX5_step_35 : decode cX5_step 35 = .ok (.invokevirtual 169, 3) := by decide +kernel
theorem dX5_step_38 : decode cX5_step 38 = .ok (.istore_n 3, 1) := by decide +kernel
theorem dX5_step_39 : decode cX5_step 39 = .ok (.aload_n 0, 1) := by decide +kernel
theorem dX5_step_40 : decode cX5_step 40 = .ok (.getfield 44, 3) := by decide +kernel
theorem dX5_step_43 : decode cX5_step 43 = .ok (.aload_n 0, 1) := by decide +kernel
theorem dX5_step_44 : decode cX5_step 44 = .ok (.iload_n 1, 1) := by decide +kernel
theorem dX5_step_45 : decode cX5_step 45 = .ok (.iload_n 3, 1) := by decide +kernel
theorem dX5_step_46 : decode cX5_step 46 = .ok (.invokevirtual 139, 3) := by decide +kernel
theorem dX5_step_49 : decode cX5_step 49 = .ok (.iaload, 1) := by decide +kernel
theorem dX5_step_50 : decode cX5_step 50 = .ok (.istore 4, 2) := by decide +kernel
theorem dX5_step_52 : decode cX5_step 52 = .ok (.aload_n 0, 1) := by decide +kernel
theorem dX5_step_53 : decode cX5_step 53 = .ok (.getfield 20, 3) := by decide +kernel
theorem dX5_step_56 : decode cX5_step 56 = .ok (.iload_n 1, 1) := by decide +kernel
theorem dX5_step_57 : decode cX5_step 57 = .ok (.baload, 1) := by decide +kernel
theorem dX5_step_58 : decode cX5_step 58 = .ok (.ifCond .ne 9, 3) := by decide +kernel
theorem dX5_step_61 : decode cX5_step 61 = .ok (.iload 4, 2) := by decide +kernel
theorem dX5_step_63 : decode cX5_step 63 = .ok (.iload_n 1, 1) := by decide +kernel
theorem dX5_step_64 : decode cX5_step 64 = .ok (.if_icmp .ne 5, 3) := by decide +kernel
theorem dX5_step_67 : decode cX5_step 67 = .ok (.iconst 0, 1) := by decide +kernel
theorem dX5_step_68 : decode cX5_step 68 = .ok (.ireturn, 1) := by decide +kernel
theorem dX5_step_69 : decode cX5_step 69 = .ok (.aload_n 0, 1) := by decide +kernel
theorem dX5_step_70 : decode cX5_step 70 = .ok (.iload_n 1, 1) := by decide +kernel
theorem dX5_step_71 : decode cX5_step 71 = .ok (.iload_n 3, 1) := by decide +kernel
theorem dX5_step_72 : decode cX5_step 72 = .ok (.invokevirtual 172, 3) := by decide +kernel
theorem dX5_step_75 : decode cX5_step 75 = .ok (.aload_n 0, 1) := by decide +kernel
theorem dX5_step_76 : decode cX5_step 76 = .ok (.getfield 26, 3) := by decide +kernel
theorem dX5_step_79 : decode cX5_step 79 = .ok (.iload_n 1, 1) := by decide +kernel
theorem dX5_step_80 : decode cX5_step 80 = .ok (.iconst 0, 1) := by decide +kernel
theorem dX5_step_81 : decode cX5_step 81 = .ok (.iastore, 1) := by decide +kernel
theorem dX5_step_82 : decode cX5_step 82 = .ok (.aload_n 0, 1) := by decide +kernel
theorem dX5_step_83 : decode cX5_step 83 = .ok (.getfield 13, 3) := by decide +kernel
theorem dX5_step_86 : decode cX5_step 86 = .ok (.iload_n 1, 1) := by decide +kernel
theorem dX5_step_87 : decode cX5_step 87 = .ok (.iload 4, 2) := by decide +kernel
theorem dX5_step_89 : decode cX5_step 89 = .ok (.iastore, 1) := by decide +kernel
theorem dX5_step_90 : decode cX5_step 90 = .ok (.aload_n 0, 1) := by decide +kernel
theorem dX5_step_91 : decode cX5_step 91 = .ok (.bipush 24, 2) := by decide +kernel
theorem dX5_step_93 : decode cX5_step 93 = .ok (.iload_n 1, 1) := by decide +kernel
theorem dX5_step_94 : decode cX5_step 94 = .ok (.imul, 1) := by decide +kernel
theorem dX5_step_95 : decode cX5_step 95 = .ok (.iload 4, 2) := by decide +kernel
theorem dX5_step_97 : decode cX5_step 97 = .ok (.iadd, 1) := by decide +kernel
theorem dX5_step_98 : decode cX5_step 98 = .ok (.iconst 1, 1) := by decide +kernel
theorem dX5_step_99 : decode cX5_step 99 = .ok (.iconst 0, 1) := by decide +kernel
theorem dX5_step_100 : decode cX5_step 100 = .ok (.invokevirtual 159, 3) := by decide +kernel
theorem dX5_step_103 : decode cX5_step 103 = .ok (.aload_n 0, 1) := by decide +kernel
theorem dX5_step_104 : decode cX5_step 104 = .ok (.getfield 41, 3) := by decide +kernel
theorem dX5_step_107 : decode cX5_step 107 = .ok (.iload_n 1, 1) := by decide +kernel
theorem dX5_step_108 : decode cX5_step 108 = .ok (.iaload, 1) := by decide +kernel
theorem dX5_step_109 : decode cX5_step 109 = .ok (.ifCond .le 8, 3) := by decide +kernel
theorem dX5_step_112 : decode cX5_step 112 = .ok (.aload_n 0, 1) := by decide +kernel
theorem dX5_step_113 : decode cX5_step 113 = .ok (.iload_n 1, 1) := by decide +kernel
theorem dX5_step_114 : decode cX5_step 114 = .ok (.invokevirtual 179, 3) := by decide +kernel
theorem dX5_step_117 : decode cX5_step 117 = .ok (.iconst 1, 1) := by decide +kernel
theorem dX5_step_118 : decode cX5_step 118 = .ok (.ireturn, 1) := by decide +kernel
theorem dX5_step_119 : decode cX5_step 119 = .ok (.iload_n 2, 1) := by decide +kernel
theorem dX5_step_120 : decode cX5_step 120 = .ok (.bipush (-2), 2) := by decide +kernel
theorem dX5_step_122 : decode cX5_step 122 = .ok (.if_icmp .eq 19, 3) := by decide +kernel
theorem dX5_step_125 : decode cX5_step 125 = .ok (.aload_n 0, 1) := by decide +kernel
theorem dX5_step_126 : decode cX5_step 126 = .ok (.getfield 17, 3) := by decide +kernel
theorem dX5_step_129 : decode cX5_step 129 = .ok (.iload_n 1, 1) := by decide +kernel
theorem dX5_step_130 : decode cX5_step 130 = .ok (.baload, 1) := by decide +kernel
theorem dX5_step_131 : decode cX5_step 131 = .ok (.ifCond .ne 10, 3) := by decide +kernel
theorem dX5_step_134 : decode cX5_step 134 = .ok (.aload_n 0, 1) := by decide +kernel
theorem dX5_step_135 : decode cX5_step 135 = .ok (.iload_n 1, 1) := by decide +kernel
theorem dX5_step_136 : decode cX5_step 136 = .ok (.invokevirtual 179, 3) := by decide +kernel
theorem dX5_step_139 : decode cX5_step 139 = .ok (.iconst 2, 1) := by decide +kernel
theorem dX5_step_140 : decode cX5_step 140 = .ok (.ireturn, 1) := by decide +kernel
theorem dX5_step_141 : decode cX5_step 141 = .ok (.iload_n 2, 1) := by decide +kernel
theorem dX5_step_142 : decode cX5_step 142 = .ok (.bipush (-2), 2) := by decide +kernel
theorem dX5_step_144 : decode cX5_step 144 = .ok (.if_icmp .eq 32, 3) := by decide +kernel
theorem dX5_step_147 : decode cX5_step 147 = .ok (.aload_n 0, 1) := by decide +kernel
theorem dX5_step_148 : decode cX5_step 148 = .ok (.getfield 124, 3) := by decide +kernel
theorem dX5_step_151 : decode cX5_step 151 = .ok (.iconst 2, 1) := by decide +kernel
theorem dX5_step_152 : decode cX5_step 152 = .ok (.if_icmp .ne 24, 3) := by decide +kernel
theorem dX5_step_155 : decode cX5_step 155 = .ok (.aload_n 0, 1) := by decide +kernel
theorem dX5_step_156 : decode cX5_step 156 = .ok (.iload_n 1, 1) := by decide +kernel
theorem dX5_step_157 : decode cX5_step 157 = .ok (.invokevirtual 156, 3) := by decide +kernel
theorem dX5_step_160 : decode cX5_step 160 = .ok (.aload_n 0, 1) := by decide +kernel
theorem dX5_step_161 : decode cX5_step 161 = .ok (.getfield 29, 3) := by decide +kernel
theorem dX5_step_164 : decode cX5_step 164 = .ok (.iload_n 1, 1) := by decide +kernel
theorem dX5_step_165 : decode cX5_step 165 = .ok (.iaload, 1) := by decide +kernel
theorem dX5_step_166 : decode cX5_step 166 = .ok (.if_icmp .le 10, 3) := by decide +kernel
theorem dX5_step_169 : decode cX5_step 169 = .ok (.aload_n 0, 1) := by decide +kernel
theorem dX5_step_170 : decode cX5_step 170 = .ok (.iload_n 1, 1) := by decide +kernel
theorem dX5_step_171 : decode cX5_step 171 = .ok (.invokevirtual 179, 3) := by decide +kernel
theorem dX5_step_174 : decode cX5_step 174 = .ok (.iconst 3, 1) := by decide +kernel
theorem dX5_step_175 : decode cX5_step 175 = .ok (.ireturn, 1) := by decide +kernel
theorem dX5_step_176 : decode cX5_step 176 = .ok (.iconst 0, 1) := by decide +kernel
theorem dX5_step_177 : decode cX5_step 177 = .ok (.ireturn, 1) := by decide +kernel
set_option maxRecDepth 20000 in
theorem ggX5_deliver_X5_dropCopy : GoodIn wsX5_deliver wsX5_dropCopy := goodIn_r _ [16, 2, 3, 4, 5, 6, 52, 53, 54, 55, 56, 57, 58, 59, 60, 61, 62, 63, 64, 65, 66, 67, 68, 69, 70, 71, 72, 73, 74, 75, 76, 77, 78, 79, 80, 81, 82, 83, 84] rfl (by decide +kernel)
set_option maxRecDepth 20000 in
theorem gX5_deliver_X5_dropCopy : GoodIn wsX5_deliver (wsV RX5 182 RX5 yX5_dropCopy wsX5_dropCopy) := goodIn_app (goodIn_of _ (by decide +kernel)) ggX5_deliver_X5_dropCopy
set_option maxRecDepth 20000 in
theorem ggX5_deliver_X5_firstLetter : GoodIn wsX5_deliver wsX5_firstLetter := goodIn_r _ [20, 21, 22, 52, 53, 54, 55, 56, 57, 58, 59, 60, 61, 62, 63, 64, 65, 66, 67, 68, 69, 70, 71, 72, 73, 74, 75, 76, 77, 78, 79, 80, 81, 82, 83, 84] rfl (by decide +kernel)
set_option maxRecDepth 20000 in
theorem gX5_deliver_X5_firstLetter : GoodIn wsX5_deliver (wsV RX5 145 RX5 yX5_firstLetter wsX5_firstLetter) := goodIn_app (goodIn_of _ (by decide +kernel)) ggX5_deliver_X5_firstLetter
set_option maxRecDepth 20000 in
theorem ggX5_deliver_X5_dropLetter : GoodIn wsX5_deliver wsX5_dropLetter := goodIn_r _ [26, 21, 22, 27, 28, 8, 52, 53, 54, 55, 56, 57, 58, 59, 60, 61, 62, 63, 64, 65, 66, 67, 68, 69, 70, 71, 72, 73, 74, 75, 76, 77, 78, 79, 80, 81, 82, 83, 84] rfl (by decide +kernel)
set_option maxRecDepth 20000 in
theorem gX5_deliver_X5_dropLetter : GoodIn wsX5_deliver (wsV RX5 185 RX5 yX5_dropLetter wsX5_dropLetter) := goodIn_app (goodIn_of _ (by decide +kernel)) ggX5_deliver_X5_dropLetter
set_option maxRecDepth 20000 in
theorem ggX5_deliver_X5_sendFirst : GoodIn wsX5_deliver wsX5_sendFirst := goodIn_r _ [32, 27, 28, 8, 17, 18, 19, 15, 20, 21, 22, 33, 34, 35, 36, 2, 3, 4, 5, 6, 52, 53, 54, 55, 56, 57, 58, 59, 60, 61, 62, 63, 64, 65, 66, 67, 68, 69, 70, 71, 72, 73, 74, 75, 76, 77, 78, 79, 80, 81, 82, 83, 84] rfl (by decide +kernel)
set_option maxRecDepth 20000 in
theorem gX5_deliver_X5_sendFirst : GoodIn wsX5_deliver (wsV RX5 152 RX5 yX5_sendFirst wsX5_sendFirst) := goodIn_app (goodIn_of _ (by decide +kernel)) ggX5_deliver_X5_sendFirst
set_option maxRecDepth 20000 in
theorem ggX5_deliver_X5_send : GoodIn wsX5_deliver wsX5_send := goodIn_r _ [36, 2, 3, 4, 5, 6, 52, 53, 54, 55, 56, 57, 58, 59, 60, 61, 62, 63, 64, 65, 66, 67, 68, 69, 70, 71, 72, 73, 74, 75, 76, 77, 78, 79, 80, 81, 82, 83, 84] rfl (by decide +kernel)
set_option maxRecDepth 20000 in
theorem gX5_deliver_X5_send : GoodIn wsX5_deliver (wsV RX5 148 RX5 yX5_send wsX5_send) := goodIn_app (goodIn_of _ (by decide +kernel)) ggX5_deliver_X5_send
set_option maxRecDepth 20000 in
theorem ggX5_deliver_X5_come : GoodIn wsX5_deliver wsX5_come := goodIn_r _ [40, 41, 42, 43, 44, 45, 46, 15, 47, 48, 49, 50, 51, 52, 53, 54, 55, 56, 57, 58, 59, 60, 61, 62, 63, 64, 65, 66, 67, 68, 69, 70, 71, 72, 73, 74, 75, 76, 77, 78, 79, 80, 81, 82, 83, 84] rfl (by decide +kernel)
set_option maxRecDepth 20000 in
theorem gX5_deliver_X5_come : GoodIn wsX5_deliver (wsV RX5 166 RX5 yX5_come wsX5_come) := goodIn_app (goodIn_of _ (by decide +kernel)) ggX5_deliver_X5_come
theorem dX5_deliver_0 : decode cX5_deliver 0 = .ok (.aload_n 0, 1) := by decide +kernel
theorem dX5_deliver_1 : decode cX5_deliver 1 = .ok (.getfield 105, 3) := by decide +kernel
theorem dX5_deliver_4 : decode cX5_deliver 4 = .ok (.ifCond .eq 15, 3) := by decide +kernel
theorem dX5_deliver_7 : decode cX5_deliver 7 = .ok (.iload_n 1, 1) := by decide +kernel
theorem dX5_deliver_8 : decode cX5_deliver 8 = .ok (.ifCond .lt 11, 3) := by decide +kernel
theorem dX5_deliver_11 : decode cX5_deliver 11 = .ok (.iload_n 1, 1) := by decide +kernel
theorem dX5_deliver_12 : decode cX5_deliver 12 = .ok (.aload_n 0, 1) := by decide +kernel
theorem dX5_deliver_13 : decode cX5_deliver 13 = .ok (.getfield 136, 3) := by decide +kernel
theorem dX5_deliver_16 : decode cX5_deliver 16 = .ok (.if_icmp .lt 5, 3) := by decide +kernel
theorem dX5_deliver_19 : decode cX5_deliver 19 = .ok (.iconst (-1), 1) := by decide +kernel
theorem dX5_deliver_20 : decode cX5_deliver 20 = .ok (.ireturn, 1) := by decide +kernel
theorem dX5_deliver_21 : decode cX5_deliver 21 = .ok (.aload_n 0, 1) := by decide +kernel
theorem dX5_deliver_22 : decode cX5_deliver 22 = .ok (.getfield 68, 3) := by decide +kernel
theorem dX5_deliver_25 : decode cX5_deliver 25 = .ok (.iload_n 1, 1) := by decide +kernel
theorem dX5_deliver_26 : decode cX5_deliver 26 = .ok (.iaload, 1) := by decide +kernel
theorem dX5_deliver_27 : decode cX5_deliver 27 = .ok (.istore_n 2, 1) := by decide +kernel
theorem dX5_deliver_28 : decode cX5_deliver 28 = .ok (.aload_n 0, 1) := by decide +kernel
theorem dX5_deliver_29 : decode cX5_deliver 29 = .ok (.getfield 71, 3) := by decide +kernel
theorem dX5_deliver_32 : decode cX5_deliver 32 = .ok (.iload_n 1, 1) := by decide +kernel
theorem dX5_deliver_33 : decode cX5_deliver 33 = .ok (.iaload, 1) := by decide +kernel
theorem dX5_deliver_34 : decode cX5_deliver 34 = .ok (.istore_n 3, 1) := by decide +kernel
theorem dX5_deliver_35 : decode cX5_deliver 35 = .ok (.aload_n 0, 1) := by decide +kernel
theorem dX5_deliver_36 : decode cX5_deliver 36 = .ok (.getfield 74, 3) := by decide +kernel
theorem dX5_deliver_39 : decode cX5_deliver 39 = .ok (.iload_n 1, 1) := by decide +kernel
theorem dX5_deliver_40 : decode cX5_deliver 40 = .ok (.iaload, 1) := by decide +kernel
theorem dX5_deliver_41 : decode cX5_deliver 41 = .ok (.istore 4, 2) := by decide +kernel
theorem dX5_deliver_43 : decode cX5_deliver 43 = .ok (.aload_n 0, 1) := by decide +kernel
theorem dX5_deliver_44 : decode cX5_deliver 44 = .ok (.getfield 77, 3) := by decide +kernel
theorem dX5_deliver_47 : decode cX5_deliver 47 = .ok (.iload_n 1, 1) := by decide +kernel
theorem dX5_deliver_48 : decode cX5_deliver 48 = .ok (.iaload, 1) := by decide +kernel
theorem dX5_deliver_49 : decode cX5_deliver 49 = .ok (.istore 5, 2) := by decide +kernel
theorem dX5_deliver_51 : decode cX5_deliver 51 = .ok (.aload_n 0, 1) := by decide +kernel
theorem dX5_deliver_52 : decode cX5_deliver 52 = .ok (.iload_n 1, 1) := by decide +kernel
theorem dX5_deliver_53 : decode cX5_deliver 53 = .ok (.invokevirtual 182, 3) := by decide +kernel
theorem dX5_deliver_56 : decode cX5_deliver 56 = .ok (.iload_n 2, 1) := by decide +kernel
theorem dX5_deliver_57 : decode cX5_deliver 57 = .ok (.bipush 24, 2) := by decide +kernel
theorem dX5_deliver_59 : decode cX5_deliver 59 = .ok (.idiv, 1) := by decide +kernel
theorem dX5_deliver_60 : decode cX5_deliver 60 = .ok (.istore 6, 2) := by decide +kernel
theorem dX5_deliver_62 : decode cX5_deliver 62 = .ok (.iload_n 2, 1) := by decide +kernel
theorem dX5_deliver_63 : decode cX5_deliver 63 = .ok (.bipush 24, 2) := by decide +kernel
theorem dX5_deliver_65 : decode cX5_deliver 65 = .ok (.irem, 1) := by decide +kernel
theorem dX5_deliver_66 : decode cX5_deliver 66 = .ok (.istore 7, 2) := by decide +kernel
theorem dX5_deliver_68 : decode cX5_deliver 68 = .ok (.bipush 24, 2) := by decide +kernel
theorem dX5_deliver_70 : decode cX5_deliver 70 = .ok (.iload 7, 2) := by decide +kernel
theorem dX5_deliver_72 : decode cX5_deliver 72 = .ok (.imul, 1) := by decide +kernel
theorem dX5_deliver_73 : decode cX5_deliver 73 = .ok (.iload 6, 2) := by decide +kernel
theorem dX5_deliver_75 : decode cX5_deliver 75 = .ok (.iadd, 1) := by decide +kernel
theorem dX5_deliver_76 : decode cX5_deliver 76 = .ok (.istore 8, 2) := by decide +kernel
theorem dX5_deliver_78 : decode cX5_deliver 78 = .ok (.aload_n 0, 1) := by decide +kernel
theorem dX5_deliver_79 : decode cX5_deliver 79 = .ok (.getfield 23, 3) := by decide +kernel
theorem dX5_deliver_82 : decode cX5_deliver 82 = .ok (.iload 7, 2) := by decide +kernel
theorem dX5_deliver_84 : decode cX5_deliver 84 = .ok (.baload, 1) := by decide +kernel
theorem dX5_deliver_85 : decode cX5_deliver 85 = .ok (.ifCond .eq 5, 3) := by decide +kernel
theorem dX5_deliver_88 : decode cX5_deliver 88 = .ok (.iconst 0, 1) := by decide +kernel
theorem dX5_deliver_89 : decode cX5_deliver 89 = .ok (.ireturn, 1) := by decide +kernel
theorem dX5_deliver_90 : decode cX5_deliver 90 = .ok (.iload_n 3, 1) := by decide +kernel
theorem dX5_deliver_91 : decode cX5_deliver 91 = .ok (.iconst 2, 1) := by decide +kernel
theorem dX5_deliver_92 : decode cX5_deliver 92 = .ok (.if_icmp .ne 44, 3) := by decide +kernel
theorem dX5_deliver_95 : decode cX5_deliver 95 = .ok (.aload_n 0, 1) := by decide +kernel
theorem dX5_deliver_96 : decode cX5_deliver 96 = .ok (.iload 8, 2) := by decide +kernel
theorem dX5_deliver_98 : decode cX5_deliver 98 = .ok (.invokevirtual 145, 3) := by decide +kernel
theorem dX5_deliver_101 : decode cX5_deliver 101 = .ok (.istore 9, 2) := by decide +kernel
theorem dX5_deliver_103 : decode cX5_deliver 103 = .ok (.iload 9, 2) := by decide +kernel
theorem dX5_deliver_105 : decode cX5_deliver 105 = .ok (.ifCond .lt 15, 3) := by decide +kernel
theorem dX5_deliver_108 : decode cX5_deliver 108 = .ok (.aload_n 0, 1) := by decide +kernel
theorem dX5_deliver_109 : decode cX5_deliver 109 = .ok (.getfield 65, 3) := by decide +kernel
theorem dX5_deliver_112 : decode cX5_deliver 112 = .ok (.iload 9, 2) := by decide +kernel
theorem dX5_deliver_114 : decode cX5_deliver 114 = .ok (.iaload, 1) := by decide +kernel
theorem dX5_deliver_115 : decode cX5_deliver 115 = .ok (.iload 5, 2) := by decide +kernel
theorem dX5_deliver_117 : decode cX5_deliver 117 = .ok (.if_icmp .eq 5, 3) := by decide +kernel
theorem dX5_deliver_120 : decode cX5_deliver 120 = .ok (.iconst 4, 1) := by decide +kernel
theorem dX5_deliver_121 : decode cX5_deliver 121 = .ok (.ireturn, 1) := by decide +kernel
theorem dX5_deliver_122 : decode cX5_deliver 122 = .ok (.aload_n 0, 1) := by decide +kernel
theorem dX5_deliver_123 : decode cX5_deliver 123 = .ok (.iload 9, 2) := by decide +kernel
theorem dX5_deliver_125 : decode cX5_deliver 125 = .ok (.invokevirtual 185, 3) := by decide +kernel
theorem dX5_deliver_128 : decode cX5_deliver 128 = .ok (.aload_n 0, 1) := by decide +kernel
theorem dX5_deliver_129 : decode cX5_deliver 129 = .ok (.iload 8, 2) := by decide +kernel
theorem dX5_deliver_131 : decode cX5_deliver 131 = .ok (.invokevirtual 152, 3) := by decide +kernel
theorem dX5_deliver_134 : decode cX5_deliver 134 = .ok (.iconst 3, 1) := by decide +kernel
theorem dX5_deliver_135 : decode cX5_deliver 135 = .ok (.ireturn, 1) := by decide +kernel
theorem dX5_deliver_136 : decode cX5_deliver 136 = .ok (.iload 5, 2) := by decide +kernel
theorem dX5_deliver_138 : decode cX5_deliver 138 = .ok (.aload_n 0, 1) := by decide +kernel
theorem dX5_deliver_139 : decode cX5_deliver 139 = .ok (.getfield 53, 3) := by decide +kernel
theorem dX5_deliver_142 : decode cX5_deliver 142 = .ok (.iload_n 2, 1) := by decide +kernel
theorem dX5_deliver_143 : decode cX5_deliver 143 = .ok (.iaload, 1) := by decide +kernel
theorem dX5_deliver_144 : decode cX5_deliver 144 = .ok (.if_icmp .ge 15, 3) := by decide +kernel
theorem dX5_deliver_147 : decode cX5_deliver 147 = .ok (.aload_n 0, 1) := by decide +kernel
theorem dX5_deliver_148 : decode cX5_deliver 148 = .ok (.iload 8, 2) := by decide +kernel
theorem dX5_deliver_150 : decode cX5_deliver 150 = .ok (.iconst 2, 1) := by decide +kernel
theorem dX5_deliver_151 : decode cX5_deliver 151 = .ok (.iconst 0, 1) := by decide +kernel
theorem dX5_deliver_152 : decode cX5_deliver 152 = .ok (.iload 5, 2) := by decide +kernel
theorem dX5_deliver_154 : decode cX5_deliver 154 = .ok (.invokevirtual 148, 3) := by decide +kernel
theorem dX5_deliver_157 : decode cX5_deliver 157 = .ok (.iconst 2, 1) := by decide +kernel
theorem dX5_deliver_158 : decode cX5_deliver 158 = .ok (.ireturn, 1) := by decide +kernel
theorem dX5_deliver_159 : decode cX5_deliver 159 = .ok (.aload_n 0, 1) := by decide +kernel
theorem dX5_deliver_160 : decode cX5_deliver 160 = .ok (.getfield 53, 3) := by decide +kernel
theorem dX5_deliver_163 : decode cX5_deliver 163 = .ok (.iload_n 2, 1) := by decide +kernel
theorem dX5_deliver_164 : decode cX5_deliver 164 = .ok (.dup2, 1) := by decide +kernel
theorem dX5_deliver_165 : decode cX5_deliver 165 = .ok (.iaload, 1) := by decide +kernel
theorem dX5_deliver_166 : decode cX5_deliver 166 = .ok (.iconst 1, 1) := by decide +kernel
theorem dX5_deliver_167 : decode cX5_deliver 167 = .ok (.iadd, 1) := by decide +kernel
theorem dX5_deliver_168 : decode cX5_deliver 168 = .ok (.iastore, 1) := by decide +kernel
theorem dX5_deliver_169 : decode cX5_deliver 169 = .ok (.iload_n 3, 1) := by decide +kernel
theorem dX5_deliver_170 : decode cX5_deliver 170 = .ok (.ifCond .ne 16, 3) := by decide +kernel
theorem dX5_deliver_173 : decode cX5_deliver 173 = .ok (.aload_n 0, 1) := by decide +kernel
theorem dX5_deliver_174 : decode cX5_deliver 174 = .ok (.iload 7, 2) := by decide +kernel
theorem dX5_deliver_176 : decode cX5_deliver 176 = .ok (.iload 6, 2) := by decide +kernel
theorem dX5_deliver_178 : decode cX5_deliver 178 = .ok (.iload 4, 2) := by decide +kernel
theorem dX5_deliver_180 : decode cX5_deliver 180 = .ok (.invokevirtual 166, 3) := by decide +kernel
theorem dX5_deliver_183 : decode cX5_deliver 183 = .ok (.goto 20, 3) := by decide +kernel
theorem dX5_deliver_186 : decode cX5_deliver 186 = .ok (.aload_n 0, 1) := by decide +kernel
theorem dX5_deliver_187 : decode cX5_deliver 187 = .ok (.getfield 13, 3) := by decide +kernel
theorem dX5_deliver_190 : decode cX5_deliver 190 = .ok (.iload 7, 2) := by decide +kernel
theorem dX5_deliver_192 : decode cX5_deliver 192 = .ok (.iload 7, 2) := by decide +kernel
theorem dX5_deliver_194 : decode cX5_deliver 194 = .ok (.iastore, 1) := by decide +kernel
theorem dX5_deliver_195 : decode cX5_deliver 195 = .ok (.aload_n 0, 1) := by decide +kernel
theorem dX5_deliver_196 : decode cX5_deliver 196 = .ok (.getfield 17, 3) := by decide +kernel
theorem dX5_deliver_199 : decode cX5_deliver 199 = .ok (.iload 7, 2) := by decide +kernel
theorem dX5_deliver_201 : decode cX5_deliver 201 = .ok (.iconst 0, 1) := by decide +kernel
theorem dX5_deliver_202 : decode cX5_deliver 202 = .ok (.bastore, 1) := by decide +kernel
theorem dX5_deliver_203 : decode cX5_deliver 203 = .ok (.aload_n 0, 1) := by decide +kernel
theorem dX5_deliver_204 : decode cX5_deliver 204 = .ok (.iload 8, 2) := by decide +kernel
theorem dX5_deliver_206 : decode cX5_deliver 206 = .ok (.iconst 2, 1) := by decide +kernel
theorem dX5_deliver_207 : decode cX5_deliver 207 = .ok (.iconst 0, 1) := by decide +kernel
theorem dX5_deliver_208 : decode cX5_deliver 208 = .ok (.iload 5, 2) := by decide +kernel
theorem dX5_deliver_210 : decode cX5_deliver 210 = .ok (.invokevirtual 148, 3) := by decide +kernel
theorem dX5_deliver_213 : decode cX5_deliver 213 = .ok (.iconst 1, 1) := by decide +kernel
theorem dX5_deliver_214 : decode cX5_deliver 214 = .ok (.ireturn, 1) := by decide +kernel
set_option maxRecDepth 20000 in
theorem ggX5_lose_X5_dropCopy : GoodIn wsX5_lose wsX5_dropCopy := goodIn_r _ [7, 2, 8, 9, 10, 11, 12, 13, 14, 15, 16, 17, 18, 19, 20, 21, 22, 23, 24, 25, 26, 27, 28, 29, 30, 31, 32, 33, 34, 35, 36, 37, 38, 39, 40, 41, 42, 43, 44] rfl (by decide +kernel)
set_option maxRecDepth 20000 in
theorem gX5_lose_X5_dropCopy : GoodIn wsX5_lose (wsV RX5 182 RX5 yX5_dropCopy wsX5_dropCopy) := goodIn_app (goodIn_of _ (by decide +kernel)) ggX5_lose_X5_dropCopy
theorem dX5_lose_0 : decode cX5_lose 0 = .ok (.aload_n 0, 1) := by decide +kernel
theorem dX5_lose_1 : decode cX5_lose 1 = .ok (.getfield 105, 3) := by decide +kernel
theorem dX5_lose_4 : decode cX5_lose 4 = .ok (.ifCond .eq 15, 3) := by decide +kernel
theorem dX5_lose_7 : decode cX5_lose 7 = .ok (.iload_n 1, 1) := by decide +kernel
theorem dX5_lose_8 : decode cX5_lose 8 = .ok (.ifCond .lt 11, 3) := by decide +kernel
theorem dX5_lose_11 : decode cX5_lose 11 = .ok (.iload_n 1, 1) := by decide +kernel
theorem dX5_lose_12 : decode cX5_lose 12 = .ok (.aload_n 0, 1) := by decide +kernel
theorem dX5_lose_13 : decode cX5_lose 13 = .ok (.getfield 136, 3) := by decide +kernel
theorem dX5_lose_16 : decode cX5_lose 16 = .ok (.if_icmp .lt 5, 3) := by decide +kernel
theorem dX5_lose_19 : decode cX5_lose 19 = .ok (.iconst (-1), 1) := by decide +kernel
theorem dX5_lose_20 : decode cX5_lose 20 = .ok (.ireturn, 1) := by decide +kernel
theorem dX5_lose_21 : decode cX5_lose 21 = .ok (.aload_n 0, 1) := by decide +kernel
theorem dX5_lose_22 : decode cX5_lose 22 = .ok (.iload_n 1, 1) := by decide +kernel
theorem dX5_lose_23 : decode cX5_lose 23 = .ok (.invokevirtual 182, 3) := by decide +kernel
theorem dX5_lose_26 : decode cX5_lose 26 = .ok (.aload_n 0, 1) := by decide +kernel
theorem dX5_lose_27 : decode cX5_lose 27 = .ok (.getfield 136, 3) := by decide +kernel
theorem dX5_lose_30 : decode cX5_lose 30 = .ok (.ireturn, 1) := by decide +kernel
set_option maxRecDepth 20000 in
theorem ggX5_twin_X5_send : GoodIn wsX5_twin wsX5_send := goodIn_r _ [11, 2, 3, 4, 5, 6, 12, 13, 14, 15, 16, 17, 18, 19, 20, 21, 22, 23, 24, 25, 26, 27, 28, 29, 30, 31, 32, 33, 34, 35, 36, 37, 38, 39, 40, 41, 42, 43, 44] rfl (by decide +kernel)
set_option maxRecDepth 20000 in
theorem gX5_twin_X5_send : GoodIn wsX5_twin (wsV RX5 148 RX5 yX5_send wsX5_send) := goodIn_app (goodIn_of _ (by decide +kernel)) ggX5_twin_X5_send
theorem dX5_twin_0 : decode cX5_twin 0 = .ok (.aload_n 0, 1) := by decide +kernel
theorem dX5_twin_1 : decode cX5_twin 1 = .ok (.getfield 105, 3) := by decide +kernel
theorem dX5_twin_4 : decode cX5_twin 4 = .ok (.ifCond .eq 24, 3) := by decide +kernel
theorem dX5_twin_7 : decode cX5_twin 7 = .ok (.iload_n 1, 1) := by decide +kernel
theorem dX5_twin_8 : decode cX5_twin 8 = .ok (.ifCond .lt 20, 3) := by decide +kernel
theorem dX5_twin_11 : decode cX5_twin 11 = .ok (.iload_n 1, 1) := by decide +kernel
theorem dX5_twin_12 : decode cX5_twin 12 = .ok (.aload_n 0, 1) := by decide +kernel
theorem dX5_twin_13 : decode cX5_twin 13 = .ok (.getfield 136, 3) := by decide +kernel
theorem dX5_twin_16 : decode cX5_twin 16 = .ok (.if_icmp .ge 12, 3) := by decide +kernel
theorem dX5_twin_19 : decode cX5_twin 19 = .ok (.aload_n 0, 1) := by decide +kernel
theorem dX5_twin_20 : decode cX5_twin 20 = .ok (.getfield 136, 3) := by decide +kernel
theorem dX5_twin_23 : decode cX5_twin 23 = .ok (.bipush 60, 2) := by decide +kernel
theorem dX5_twin_25 : decode cX5_twin 25 = .ok (.if_icmp .ne 5, 3) := by decide +kernel
theorem dX5_twin_28 : decode cX5_twin 28 = .ok (.iconst (-1), 1) := by decide +kernel
theorem dX5_twin_29 : decode cX5_twin 29 = .ok (.ireturn, 1) := by decide +kernel
theorem dX5_twin_30 : decode cX5_twin 30 = .ok (.aload_n 0, 1) := by decide +kernel
theorem dX5_twin_31 : decode cX5_twin 31 = .ok (.aload_n 0, 1) := by decide +kernel
theorem dX5_twin_32 : decode cX5_twin 32 = .ok (.getfield 68, 3) := by decide +kernel
theorem dX5_twin_35 : decode cX5_twin 35 = .ok (.iload_n 1, 1) := by decide +kernel
theorem dX5_twin_36 : decode cX5_twin 36 = .ok (.iaload, 1) := by decide +kernel
theorem dX5_twin_37 : decode cX5_twin 37 = .ok (.aload_n 0, 1) := by decide +kernel
theorem dX5_twin_38 : decode cX5_twin 38 = .ok (.getfield 71, 3) := by decide +kernel
theorem dX5_twin_41 : decode cX5_twin 41 = .ok (.iload_n 1, 1) := by decide +kernel
theorem dX5_twin_42 : decode cX5_twin 42 = .ok (.iaload, 1) := by decide +kernel
theorem dX5_twin_43 : decode cX5_twin 43 = .ok (.aload_n 0, 1) := by decide +kernel
theorem dX5_twin_44 : decode cX5_twin 44 = .ok (.getfield 74, 3) := by decide +kernel
theorem dX5_twin_47 : decode cX5_twin 47 = .ok (.iload_n 1, 1) := by decide +kernel
theorem dX5_twin_48 : decode cX5_twin 48 = .ok (.iaload, 1) := by decide +kernel
theorem dX5_twin_49 : decode cX5_twin 49 = .ok (.aload_n 0, 1) := by decide +kernel
theorem dX5_twin_50 : decode cX5_twin 50 = .ok (.getfield 77, 3) := by decide +kernel
theorem dX5_twin_53 : decode cX5_twin 53 = .ok (.iload_n 1, 1) := by decide +kernel
theorem dX5_twin_54 : decode cX5_twin 54 = .ok (.iaload, 1) := by decide +kernel
theorem dX5_twin_55 : decode cX5_twin 55 = .ok (.invokevirtual 148, 3) := by decide +kernel
theorem dX5_twin_58 : decode cX5_twin 58 = .ok (.aload_n 0, 1) := by decide +kernel
theorem dX5_twin_59 : decode cX5_twin 59 = .ok (.getfield 136, 3) := by decide +kernel
theorem dX5_twin_62 : decode cX5_twin 62 = .ok (.ireturn, 1) := by decide +kernel
set_option maxRecDepth 20000 in
theorem ggX5_resend_X5_isUp : GoodIn wsX5_resend wsX5_isUp := goodIn_r _ [7, 8, 9, 10, 11, 12, 6, 13, 1, 35, 36, 37, 38, 39, 40, 41, 42, 43, 44, 45, 46, 47, 48, 49, 50, 51, 52, 53, 54, 55, 56, 57, 58, 59, 60, 61, 62, 63, 64, 65, 66, 67] rfl (by decide +kernel)
set_option maxRecDepth 20000 in
theorem gX5_resend_X5_isUp : GoodIn wsX5_resend (wsV RX5 163 RX5 yX5_isUp wsX5_isUp) := goodIn_app (goodIn_of _ (by decide +kernel)) ggX5_resend_X5_isUp
set_option maxRecDepth 20000 in
theorem ggX5_resend_X5_sendFirst : GoodIn wsX5_resend wsX5_sendFirst := goodIn_r _ [17, 18, 19, 20, 21, 22, 23, 6, 24, 25, 26, 27, 28, 29, 30, 2, 31, 32, 33, 34, 35, 36, 37, 38, 39, 40, 41, 42, 43, 44, 45, 46, 47, 48, 49, 50, 51, 52, 53, 54, 55, 56, 57, 58, 59, 60, 61, 62, 63, 64, 65, 66, 67] rfl (by decide +kernel)
set_option maxRecDepth 20000 in
theorem gX5_resend_X5_sendFirst : GoodIn wsX5_resend (wsV RX5 152 RX5 yX5_sendFirst wsX5_sendFirst) := goodIn_app (goodIn_of _ (by decide +kernel)) ggX5_resend_X5_sendFirst
theorem dX5_resend_0 : decode cX5_resend 0 = .ok (.aload_n 0, 1) := by decide +kernel
theorem dX5_resend_1 : decode cX5_resend 1 = .ok (.iload_n 1, 1) := by decide +kernel
theorem dX5_resend_2 : decode cX5_resend 2 = .ok (.invokevirtual 163, 3) := by decide +kernel
theorem dX5_resend_5 : decode cX5_resend 5 = .ok (.ifCond .ne 5, 3) := by decide +kernel
theorem dX5_resend_8 : decode cX5_resend 8 = .ok (.iconst (-1), 1) := by decide +kernel
theorem dX5_resend_9 : decode cX5_resend 9 = .ok (.ireturn, 1) := by decide +kernel
theorem dX5_resend_10 : decode cX5_resend 10 = .ok (.iconst 0, 1) := by decide +kernel
theorem dX5_resend_11 : decode cX5_resend 11 = .ok (.istore_n 2, 1) := by decide +kernel
theorem dX5_resend_12 : decode cX5_resend 12 = .ok (.iload_n 2, 1) := by decide +kernel
theorem dX5_resend_13 : decode cX5_resend 13 = .ok (.aload_n 0, 1) := by decide +kernel
theorem dX5_resend_14 : decode cX5_resend 14 = .ok (.getfield 101, 3) := by decide +kernel
theorem dX5_resend_17 : decode cX5_resend 17 = .ok (.if_icmp .ge 19, 3) := by decide +kernel
theorem dX5_resend_20 : decode cX5_resend 20 = .ok (.aload_n 0, 1) := by decide +kernel
theorem dX5_resend_21 : decode cX5_resend 21 = .ok (.bipush 24, 2) := by decide +kernel
theorem dX5_resend_23 : decode cX5_resend 23 = .ok (.iload_n 1, 1) := by decide +kernel
theorem dX5_resend_24 : decode cX5_resend 24 = .ok (.imul, 1) := by decide +kernel
theorem dX5_resend_25 : decode cX5_resend 25 = .ok (.iload_n 2, 1) := by decide +kernel
theorem dX5_resend_26 : decode cX5_resend 26 = .ok (.iadd, 1) := by decide +kernel
theorem dX5_resend_27 : decode cX5_resend 27 = .ok (.invokevirtual 152, 3) := by decide +kernel
theorem dX5_resend_30 : decode cX5_resend 30 = .ok (.iinc 2 1, 3) := by decide +kernel
theorem dX5_resend_33 : decode cX5_resend 33 = .ok (.goto (-21), 3) := by decide +kernel
theorem dX5_resend_36 : decode cX5_resend 36 = .ok (.aload_n 0, 1) := by decide +kernel
theorem dX5_resend_37 : decode cX5_resend 37 = .ok (.getfield 136, 3) := by decide +kernel
theorem dX5_resend_40 : decode cX5_resend 40 = .ok (.ireturn, 1) := by decide +kernel
set_option maxRecDepth 20000 in
theorem ggX5_crash_X5_isUp : GoodIn wsX5_crash wsX5_isUp := goodIn_r _ [6, 7, 1, 8, 9, 10, 5, 11, 12, 19, 20, 21, 22, 23, 24, 25, 26, 27, 28, 29, 30, 31, 32, 33, 34, 35, 36, 37, 38, 39, 40, 41, 42, 43, 44, 45, 46, 47, 48, 49, 50, 51] rfl (by decide +kernel)
set_option maxRecDepth 20000 in
theorem gX5_crash_X5_isUp : GoodIn wsX5_crash (wsV RX5 163 RX5 yX5_isUp wsX5_isUp) := goodIn_app (goodIn_of _ (by decide +kernel)) ggX5_crash_X5_isUp
set_option maxRecDepth 20000 in
theorem ggX5_crash_X5_stop : GoodIn wsX5_crash wsX5_stop := goodIn_r _ [16, 17, 18, 19, 20, 21, 22, 23, 24, 25, 26, 27, 28, 29, 30, 31, 32, 33, 34, 35, 36, 37, 38, 39, 40, 41, 42, 43, 44, 45, 46, 47, 48, 49, 50, 51] rfl (by decide +kernel)
set_option maxRecDepth 20000 in
theorem gX5_crash_X5_stop : GoodIn wsX5_crash (wsV RX5 176 RX5 yX5_stop wsX5_stop) := goodIn_app (goodIn_of _ (by decide +kernel)) ggX5_crash_X5_stop
theorem dX5_crash_0 : decode cX5_crash 0 = .ok (.aload_n 0, 1) := by decide +kernel
theorem dX5_crash_1 : decode cX5_crash 1 = .ok (.iload_n 1, 1) := by decide +kernel
theorem dX5_crash_2 : decode cX5_crash 2 = .ok (.invokevirtual 163, 3) := by decide +kernel
theorem dX5_crash_5 : decode cX5_crash 5 = .ok (.ifCond .ne 5, 3) := by decide +kernel
theorem dX5_crash_8 : decode cX5_crash 8 = .ok (.iconst (-1), 1) := by decide +kernel
theorem dX5_crash_9 : decode cX5_crash 9 = .ok (.ireturn, 1) := by decide +kernel
theorem dX5_crash_10 : decode cX5_crash 10 = .ok (.aload_n 0, 1) := by decide +kernel
theorem dX5_crash_11 : decode cX5_crash 11 = .ok (.iload_n 1, 1) := by decide +kernel
theorem dX5_crash_12 : decode cX5_crash 12 = .ok (.invokevirtual 176, 3) := by decide +kernel
theorem dX5_crash_15 : decode cX5_crash 15 = .ok (.aload_n 0, 1) := by decide +kernel
theorem dX5_crash_16 : decode cX5_crash 16 = .ok (.getfield 23, 3) := by decide +kernel
theorem dX5_crash_19 : decode cX5_crash 19 = .ok (.iload_n 1, 1) := by decide +kernel
theorem dX5_crash_20 : decode cX5_crash 20 = .ok (.iconst 1, 1) := by decide +kernel
theorem dX5_crash_21 : decode cX5_crash 21 = .ok (.bastore, 1) := by decide +kernel
theorem dX5_crash_22 : decode cX5_crash 22 = .ok (.iconst 0, 1) := by decide +kernel
theorem dX5_crash_23 : decode cX5_crash 23 = .ok (.ireturn, 1) := by decide +kernel
set_option maxRecDepth 20000 in
theorem ggX5_restart_X5_isStation : GoodIn wsX5_restart wsX5_isStation := goodIn_r _ [7, 8, 9, 10, 11, 12, 13, 14, 15, 16, 17, 18, 19, 20, 21, 22, 23, 24, 25, 26, 27, 28, 29, 30, 31, 32, 33, 34, 35, 36, 37, 38, 39, 40, 41] rfl (by decide +kernel)
set_option maxRecDepth 20000 in
theorem gX5_restart_X5_isStation : GoodIn wsX5_restart (wsV RX5 109 RX5 yX5_isStation wsX5_isStation) := goodIn_app (goodIn_of _ (by decide +kernel)) ggX5_restart_X5_isStation
theorem dX5_restart_0 : decode cX5_restart 0 = .ok (.aload_n 0, 1) := by decide +kernel
theorem dX5_restart_1 : decode cX5_restart 1 = .ok (.getfield 105, 3) := by decide +kernel
theorem dX5_restart_4 : decode cX5_restart 4 = .ok (.ifCond .eq 20, 3) := by decide +kernel
theorem dX5_restart_7 : decode cX5_restart 7 = .ok (.aload_n 0, 1) := by decide +kernel
theorem dX5_restart_8 : decode cX5_restart 8 = .ok (.iload_n 1, 1) := by decide +kernel
theorem dX5_restart_9 : decode cX5_restart 9 = .ok (.invokevirtual 109, 3) := by decide +kernel
theorem dX5_restart_12 : decode cX5_restart 12 = .ok (.ifCond .eq 12, 3) := by decide +kernel
theorem dX5_restart_15 : decode cX5_restart 15 = .ok (.aload_n 0, 1) := by decide +kernel
theorem dX5_restart_16 : decode cX5_restart 16 = .ok (.getfield 23, 3) := by decide +kernel
theorem dX5_restart_19 : decode cX5_restart 19 = .ok (.iload_n 1, 1) := by decide +kernel
theorem dX5_restart_20 : decode cX5_restart 20 = .ok (.baload, 1) := by decide +kernel
theorem dX5_restart_21 : decode cX5_restart 21 = .ok (.ifCond .ne 5, 3) := by decide +kernel
theorem dX5_restart_24 : decode cX5_restart 24 = .ok (.iconst (-1), 1) := by decide +kernel
theorem dX5_restart_25 : decode cX5_restart 25 = .ok (.ireturn, 1) := by decide +kernel
theorem dX5_restart_26 : decode cX5_restart 26 = .ok (.aload_n 0, 1) := by decide +kernel
theorem dX5_restart_27 : decode cX5_restart 27 = .ok (.getfield 23, 3) := by decide +kernel
theorem dX5_restart_30 : decode cX5_restart 30 = .ok (.iload_n 1, 1) := by decide +kernel
theorem dX5_restart_31 : decode cX5_restart 31 = .ok (.iconst 0, 1) := by decide +kernel
theorem dX5_restart_32 : decode cX5_restart 32 = .ok (.bastore, 1) := by decide +kernel
theorem dX5_restart_33 : decode cX5_restart 33 = .ok (.iconst 0, 1) := by decide +kernel
theorem dX5_restart_34 : decode cX5_restart 34 = .ok (.ireturn, 1) := by decide +kernel
set_option maxRecDepth 20000 in
theorem ggX5_cut_X5_isStation : GoodIn wsX5_cut wsX5_isStation := goodIn_r _ [10, 11, 33, 34, 35, 36, 37, 38, 39, 40, 41, 42, 43, 44, 45, 46, 47, 48, 49, 50, 51, 52, 53, 54, 55, 56, 57, 58, 59, 60, 61, 62, 63, 64, 65] rfl (by decide +kernel)
set_option maxRecDepth 20000 in
theorem gX5_cut_X5_isStation : GoodIn wsX5_cut (wsV RX5 109 RX5 yX5_isStation wsX5_isStation) := goodIn_app (goodIn_of _ (by decide +kernel)) ggX5_cut_X5_isStation
set_option maxRecDepth 20000 in
theorem ggX5_cut_X5_firstLetter : GoodIn wsX5_cut wsX5_firstLetter := goodIn_r _ [15, 16, 17, 33, 34, 35, 36, 37, 38, 39, 40, 41, 42, 43, 44, 45, 46, 47, 48, 49, 50, 51, 52, 53, 54, 55, 56, 57, 58, 59, 60, 61, 62, 63, 64, 65] rfl (by decide +kernel)
set_option maxRecDepth 20000 in
theorem gX5_cut_X5_firstLetter : GoodIn wsX5_cut (wsV RX5 145 RX5 yX5_firstLetter wsX5_firstLetter) := goodIn_app (goodIn_of _ (by decide +kernel)) ggX5_cut_X5_firstLetter
set_option maxRecDepth 20000 in
theorem ggX5_cut_X5_placeOf : GoodIn wsX5_cut wsX5_placeOf := goodIn_r _ [21, 22, 23, 24, 25, 26, 9, 27, 33, 34, 35, 36, 37, 38, 39, 40, 41, 42, 43, 44, 45, 46, 47, 48, 49, 50, 51, 52, 53, 54, 55, 56, 57, 58, 59, 60, 61, 62, 63, 64, 65] rfl (by decide +kernel)
set_option maxRecDepth 20000 in
theorem gX5_cut_X5_placeOf : GoodIn wsX5_cut (wsV RX5 142 RX5 yX5_placeOf wsX5_placeOf) := goodIn_app (goodIn_of _ (by decide +kernel)) ggX5_cut_X5_placeOf
set_option maxRecDepth 20000 in
theorem ggX5_cut_X5_join2 : GoodIn wsX5_cut wsX5_join2 := goodIn_r _ [31, 2, 32, 33, 34, 35, 36, 37, 38, 39, 40, 41, 42, 43, 44, 45, 46, 47, 48, 49, 50, 51, 52, 53, 54, 55, 56, 57, 58, 59, 60, 61, 62, 63, 64, 65] rfl (by decide +kernel)
set_option maxRecDepth 20000 in
theorem gX5_cut_X5_join2 : GoodIn wsX5_cut (wsV RX5 120 RX5 yX5_join2 wsX5_join2) := goodIn_app (goodIn_of _ (by decide +kernel)) ggX5_cut_X5_join2
theorem dX5_cut_0 : decode cX5_cut 0 = .ok (.aload_n 0, 1) := by decide +kernel
theorem dX5_cut_1 : decode cX5_cut 1 = .ok (.getfield 105, 3) := by decide +kernel
theorem dX5_cut_4 : decode cX5_cut 4 = .ok (.ifCond .eq 33, 3) := by decide +kernel
theorem dX5_cut_7 : decode cX5_cut 7 = .ok (.aload_n 0, 1) := by decide +kernel
theorem dX5_cut_8 : decode cX5_cut 8 = .ok (.iload_n 1, 1) := by decide +kernel
theorem dX5_cut_9 : decode cX5_cut 9 = .ok (.invokevirtual 109, 3) := by decide +kernel
theorem dX5_cut_12 : decode cX5_cut 12 = .ok (.ifCond .eq 25, 3) := by decide +kernel
theorem dX5_cut_15 : decode cX5_cut 15 = .ok (.aload_n 0, 1) := by decide +kernel
theorem dX5_cut_16 : decode cX5_cut 16 = .ok (.iload_n 2, 1) := by decide +kernel
theorem dX5_cut_17 : decode cX5_cut 17 = .ok (.invokevirtual 109, 3) := by decide +kernel
theorem dX5_cut_20 : decode cX5_cut 20 = .ok (.ifCond .eq 17, 3) := by decide +kernel
theorem dX5_cut_23 : decode cX5_cut 23 = .ok (.aload_n 0, 1) := by decide +kernel
theorem dX5_cut_24 : decode cX5_cut 24 = .ok (.getfield 7, 3) := by decide +kernel
theorem dX5_cut_27 : decode cX5_cut 27 = .ok (.bipush 24, 2) := by decide +kernel
theorem dX5_cut_29 : decode cX5_cut 29 = .ok (.iload_n 1, 1) := by decide +kernel
theorem dX5_cut_30 : decode cX5_cut 30 = .ok (.imul, 1) := by decide +kernel
theorem dX5_cut_31 : decode cX5_cut 31 = .ok (.iload_n 2, 1) := by decide +kernel
theorem dX5_cut_32 : decode cX5_cut 32 = .ok (.iadd, 1) := by decide +kernel
theorem dX5_cut_33 : decode cX5_cut 33 = .ok (.baload, 1) := by decide +kernel
theorem dX5_cut_34 : decode cX5_cut 34 = .ok (.ifCond .ne 5, 3) := by decide +kernel
theorem dX5_cut_37 : decode cX5_cut 37 = .ok (.iconst (-1), 1) := by decide +kernel
theorem dX5_cut_38 : decode cX5_cut 38 = .ok (.ireturn, 1) := by decide +kernel
theorem dX5_cut_39 : decode cX5_cut 39 = .ok (.bipush 24, 2) := by decide +kernel
theorem dX5_cut_41 : decode cX5_cut 41 = .ok (.iload_n 1, 1) := by decide +kernel
theorem dX5_cut_42 : decode cX5_cut 42 = .ok (.imul, 1) := by decide +kernel
theorem dX5_cut_43 : decode cX5_cut 43 = .ok (.iload_n 2, 1) := by decide +kernel
theorem dX5_cut_44 : decode cX5_cut 44 = .ok (.iadd, 1) := by decide +kernel
theorem dX5_cut_45 : decode cX5_cut 45 = .ok (.istore_n 3, 1) := by decide +kernel
theorem dX5_cut_46 : decode cX5_cut 46 = .ok (.bipush 24, 2) := by decide +kernel
theorem dX5_cut_48 : decode cX5_cut 48 = .ok (.iload_n 2, 1) := by decide +kernel
theorem dX5_cut_49 : decode cX5_cut 49 = .ok (.imul, 1) := by decide +kernel
theorem dX5_cut_50 : decode cX5_cut 50 = .ok (.iload_n 1, 1) := by decide +kernel
theorem dX5_cut_51 : decode cX5_cut 51 = .ok (.iadd, 1) := by decide +kernel
theorem dX5_cut_52 : decode cX5_cut 52 = .ok (.istore 4, 2) := by decide +kernel
theorem dX5_cut_54 : decode cX5_cut 54 = .ok (.aload_n 0, 1) := by decide +kernel
theorem dX5_cut_55 : decode cX5_cut 55 = .ok (.iload_n 3, 1) := by decide +kernel
theorem dX5_cut_56 : decode cX5_cut 56 = .ok (.invokevirtual 145, 3) := by decide +kernel
theorem dX5_cut_59 : decode cX5_cut 59 = .ok (.ifCond .ge 12, 3) := by decide +kernel
theorem dX5_cut_62 : decode cX5_cut 62 = .ok (.aload_n 0, 1) := by decide +kernel
theorem dX5_cut_63 : decode cX5_cut 63 = .ok (.iload 4, 2) := by decide +kernel
theorem dX5_cut_65 : decode cX5_cut 65 = .ok (.invokevirtual 145, 3) := by decide +kernel
theorem dX5_cut_68 : decode cX5_cut 68 = .ok (.ifCond .lt 7, 3) := by decide +kernel
theorem dX5_cut_71 : decode cX5_cut 71 = .ok (.iconst 1, 1) := by decide +kernel
theorem dX5_cut_72 : decode cX5_cut 72 = .ok (.goto 4, 3) := by decide +kernel
theorem dX5_cut_75 : decode cX5_cut 75 = .ok (.iconst 0, 1) := by decide +kernel
theorem dX5_cut_76 : decode cX5_cut 76 = .ok (.istore 5, 2) := by decide +kernel
theorem dX5_cut_78 : decode cX5_cut 78 = .ok (.iconst 0, 1) := by decide +kernel
theorem dX5_cut_79 : decode cX5_cut 79 = .ok (.istore 6, 2) := by decide +kernel
theorem dX5_cut_81 : decode cX5_cut 81 = .ok (.iload 6, 2) := by decide +kernel
theorem dX5_cut_83 : decode cX5_cut 83 = .ok (.aload_n 0, 1) := by decide +kernel
theorem dX5_cut_84 : decode cX5_cut 84 = .ok (.getfield 136, 3) := by decide +kernel
theorem dX5_cut_87 : decode cX5_cut 87 = .ok (.if_icmp .ge 44, 3) := by decide +kernel
theorem dX5_cut_90 : decode cX5_cut 90 = .ok (.iload 5, 2) := by decide +kernel
theorem dX5_cut_92 : decode cX5_cut 92 = .ok (.ifCond .ne 26, 3) := by decide +kernel
theorem dX5_cut_95 : decode cX5_cut 95 = .ok (.aload_n 0, 1) := by decide +kernel
theorem dX5_cut_96 : decode cX5_cut 96 = .ok (.getfield 68, 3) := by decide +kernel
theorem dX5_cut_99 : decode cX5_cut 99 = .ok (.iload 6, 2) := by decide +kernel
theorem dX5_cut_101 : decode cX5_cut 101 = .ok (.iaload, 1) := by decide +kernel
theorem dX5_cut_102 : decode cX5_cut 102 = .ok (.iload_n 3, 1) := by decide +kernel
theorem dX5_cut_103 : decode cX5_cut 103 = .ok (.if_icmp .eq 15, 3) := by decide +kernel
theorem dX5_cut_106 : decode cX5_cut 106 = .ok (.aload_n 0, 1) := by decide +kernel
theorem dX5_cut_107 : decode cX5_cut 107 = .ok (.getfield 68, 3) := by decide +kernel
theorem dX5_cut_110 : decode cX5_cut 110 = .ok (.iload 6, 2) := by decide +kernel
theorem dX5_cut_112 : decode cX5_cut 112 = .ok (.iaload, 1) := by decide +kernel
theorem dX5_cut_113 : decode cX5_cut 113 = .ok (.iload 4, 2) := by decide +kernel
theorem dX5_cut_115 : decode cX5_cut 115 = .ok (.if_icmp .ne 7, 3) := by decide +kernel
theorem dX5_cut_118 : decode cX5_cut 118 = .ok (.iconst 1, 1) := by decide +kernel
theorem dX5_cut_119 : decode cX5_cut 119 = .ok (.goto 4, 3) := by decide +kernel
theorem dX5_cut_122 : decode cX5_cut 122 = .ok (.iconst 0, 1) := by decide +kernel
theorem dX5_cut_123 : decode cX5_cut 123 = .ok (.istore 5, 2) := by decide +kernel
theorem dX5_cut_125 : decode cX5_cut 125 = .ok (.iinc 6 1, 3) := by decide +kernel
theorem dX5_cut_128 : decode cX5_cut 128 = .ok (.goto (-47), 3) := by decide +kernel
theorem dX5_cut_131 : decode cX5_cut 131 = .ok (.iload 5, 2) := by decide +kernel
theorem dX5_cut_133 : decode cX5_cut 133 = .ok (.ifCond .eq 6, 3) := by decide +kernel
theorem dX5_cut_136 : decode cX5_cut 136 = .ok (.bipush (-3), 2) := by decide +kernel
theorem dX5_cut_138 : decode cX5_cut 138 = .ok (.ireturn, 1) := by decide +kernel
theorem dX5_cut_139 : decode cX5_cut 139 = .ok (.aload_n 0, 1) := by decide +kernel
theorem dX5_cut_140 : decode cX5_cut 140 = .ok (.iload_n 1, 1) := by decide +kernel
theorem dX5_cut_141 : decode cX5_cut 141 = .ok (.iload_n 2, 1) := by decide +kernel
theorem dX5_cut_142 : decode cX5_cut 142 = .ok (.invokevirtual 142, 3) := by decide +kernel
theorem dX5_cut_145 : decode cX5_cut 145 = .ok (.ifCond .ge 12, 3) := by decide +kernel
theorem dX5_cut_148 : decode cX5_cut 148 = .ok (.aload_n 0, 1) := by decide +kernel
theorem dX5_cut_149 : decode cX5_cut 149 = .ok (.iload_n 2, 1) := by decide +kernel
theorem dX5_cut_150 : decode cX5_cut 150 = .ok (.iload_n 1, 1) := by decide +kernel
theorem dX5_cut_151 : decode cX5_cut 151 = .ok (.invokevirtual 142, 3) := by decide +kernel
theorem dX5_cut_154 : decode cX5_cut 154 = .ok (.ifCond .lt 6, 3) := by decide +kernel
theorem dX5_cut_157 : decode cX5_cut 157 = .ok (.bipush (-4), 2) := by decide +kernel
theorem dX5_cut_159 : decode cX5_cut 159 = .ok (.ireturn, 1) := by decide +kernel
theorem dX5_cut_160 : decode cX5_cut 160 = .ok (.aload_n 0, 1) := by decide +kernel
theorem dX5_cut_161 : decode cX5_cut 161 = .ok (.iload_n 1, 1) := by decide +kernel
theorem dX5_cut_162 : decode cX5_cut 162 = .ok (.iload_n 2, 1) := by decide +kernel
theorem dX5_cut_163 : decode cX5_cut 163 = .ok (.iconst 0, 1) := by decide +kernel
theorem dX5_cut_164 : decode cX5_cut 164 = .ok (.invokevirtual 120, 3) := by decide +kernel
theorem dX5_cut_167 : decode cX5_cut 167 = .ok (.aload_n 0, 1) := by decide +kernel
theorem dX5_cut_168 : decode cX5_cut 168 = .ok (.getfield 13, 3) := by decide +kernel
theorem dX5_cut_171 : decode cX5_cut 171 = .ok (.iload_n 1, 1) := by decide +kernel
theorem dX5_cut_172 : decode cX5_cut 172 = .ok (.aload_n 0, 1) := by decide +kernel
theorem dX5_cut_173 : decode cX5_cut 173 = .ok (.getfield 13, 3) := by decide +kernel
theorem dX5_cut_176 : decode cX5_cut 176 = .ok (.iload_n 1, 1) := by decide +kernel
theorem dX5_cut_177 : decode cX5_cut 177 = .ok (.iaload, 1) := by decide +kernel
theorem dX5_cut_178 : decode cX5_cut 178 = .ok (.iload_n 2, 1) := by decide +kernel
theorem dX5_cut_179 : decode cX5_cut 179 = .ok (.if_icmp .ne 8, 3) := by decide +kernel
theorem dX5_cut_182 : decode cX5_cut 182 = .ok (.bipush (-2), 2) := by decide +kernel
theorem dX5_cut_184 : decode cX5_cut 184 = .ok (.goto 9, 3) := by decide +kernel
theorem dX5_cut_187 : decode cX5_cut 187 = .ok (.aload_n 0, 1) := by decide +kernel
theorem dX5_cut_188 : decode cX5_cut 188 = .ok (.getfield 13, 3) := by decide +kernel
theorem dX5_cut_191 : decode cX5_cut 191 = .ok (.iload_n 1, 1) := by decide +kernel
theorem dX5_cut_192 : decode cX5_cut 192 = .ok (.iaload, 1) := by decide +kernel
theorem dX5_cut_193 : decode cX5_cut 193 = .ok (.iastore, 1) := by decide +kernel
theorem dX5_cut_194 : decode cX5_cut 194 = .ok (.aload_n 0, 1) := by decide +kernel
theorem dX5_cut_195 : decode cX5_cut 195 = .ok (.getfield 13, 3) := by decide +kernel
theorem dX5_cut_198 : decode cX5_cut 198 = .ok (.iload_n 2, 1) := by decide +kernel
theorem dX5_cut_199 : decode cX5_cut 199 = .ok (.aload_n 0, 1) := by decide +kernel
theorem dX5_cut_200 : decode cX5_cut 200 = .ok (.getfield 13, 3) := by decide +kernel
theorem dX5_cut_203 : decode cX5_cut 203 = .ok (.iload_n 2, 1) := by decide +kernel
theorem dX5_cut_204 : decode cX5_cut 204 = .ok (.iaload, 1) := by decide +kernel
theorem dX5_cut_205 : decode cX5_cut 205 = .ok (.iload_n 1, 1) := by decide +kernel
theorem dX5_cut_206 : decode cX5_cut 206 = .ok (.if_icmp .ne 8, 3) := by decide +kernel
theorem dX5_cut_209 : decode cX5_cut 209 = .ok (.bipush (-2), 2) := by decide +kernel
theorem dX5_cut_211 : decode cX5_cut 211 = .ok (.goto 9, 3) := by decide +kernel
theorem dX5_cut_214 : decode cX5_cut 214 = .ok (.aload_n 0, 1) := by decide +kernel
theorem dX5_cut_215 : decode cX5_cut 215 = .ok (.getfield 13, 3) := by decide +kernel
theorem dX5_cut_218 : decode cX5_cut 218 = .ok (.iload_n 2, 1) := by decide +kernel
theorem dX5_cut_219 : decode cX5_cut 219 = .ok (.iaload, 1) := by decide +kernel
theorem dX5_cut_220 : decode cX5_cut 220 = .ok (.iastore, 1) := by decide +kernel
theorem dX5_cut_221 : decode cX5_cut 221 = .ok (.iconst 0, 1) := by decide +kernel
theorem dX5_cut_222 : decode cX5_cut 222 = .ok (.ireturn, 1) := by decide +kernel
theorem dX5_rightAt_0 : decode cX5_rightAt 0 = .ok (.iconst 0, 1) := by decide +kernel
theorem dX5_rightAt_1 : decode cX5_rightAt 1 = .ok (.istore_n 1, 1) := by decide +kernel
theorem dX5_rightAt_2 : decode cX5_rightAt 2 = .ok (.iload_n 1, 1) := by decide +kernel
theorem dX5_rightAt_3 : decode cX5_rightAt 3 = .ok (.aload_n 0, 1) := by decide +kernel
theorem dX5_rightAt_4 : decode cX5_rightAt 4 = .ok (.getfield 101, 3) := by decide +kernel
theorem dX5_rightAt_7 : decode cX5_rightAt 7 = .ok (.if_icmp .ge 21, 3) := by decide +kernel
theorem dX5_rightAt_10 : decode cX5_rightAt 10 = .ok (.aload_n 0, 1) := by decide +kernel
theorem dX5_rightAt_11 : decode cX5_rightAt 11 = .ok (.getfield 13, 3) := by decide +kernel
theorem dX5_rightAt_14 : decode cX5_rightAt 14 = .ok (.iload_n 1, 1) := by decide +kernel
theorem dX5_rightAt_15 : decode cX5_rightAt 15 = .ok (.iaload, 1) := by decide +kernel
theorem dX5_rightAt_16 : decode cX5_rightAt 16 = .ok (.iload_n 1, 1) := by decide +kernel
theorem dX5_rightAt_17 : decode cX5_rightAt 17 = .ok (.if_icmp .ne 5, 3) := by decide +kernel
theorem dX5_rightAt_20 : decode cX5_rightAt 20 = .ok (.iload_n 1, 1) := by decide +kernel
theorem dX5_rightAt_21 : decode cX5_rightAt 21 = .ok (.ireturn, 1) := by decide +kernel
theorem dX5_rightAt_22 : decode cX5_rightAt 22 = .ok (.iinc 1 1, 3) := by decide +kernel
theorem dX5_rightAt_25 : decode cX5_rightAt 25 = .ok (.goto (-23), 3) := by decide +kernel
theorem dX5_rightAt_28 : decode cX5_rightAt 28 = .ok (.bipush (-2), 2) := by decide +kernel
theorem dX5_rightAt_30 : decode cX5_rightAt 30 = .ok (.istore_n 1, 1) := by decide +kernel
theorem dX5_rightAt_31 : decode cX5_rightAt 31 = .ok (.iconst 0, 1) := by decide +kernel
theorem dX5_rightAt_32 : decode cX5_rightAt 32 = .ok (.istore_n 2, 1) := by decide +kernel
theorem dX5_rightAt_33 : decode cX5_rightAt 33 = .ok (.iload_n 2, 1) := by decide +kernel
theorem dX5_rightAt_34 : decode cX5_rightAt 34 = .ok (.aload_n 0, 1) := by decide +kernel
theorem dX5_rightAt_35 : decode cX5_rightAt 35 = .ok (.getfield 133, 3) := by decide +kernel
theorem dX5_rightAt_38 : decode cX5_rightAt 38 = .ok (.if_icmp .ge 53, 3) := by decide +kernel
theorem dX5_rightAt_41 : decode cX5_rightAt 41 = .ok (.aload_n 0, 1) := by decide +kernel
theorem dX5_rightAt_42 : decode cX5_rightAt 42 = .ok (.getfield 59, 3) := by decide +kernel
theorem dX5_rightAt_45 : decode cX5_rightAt 45 = .ok (.iload_n 2, 1) := by decide +kernel
theorem dX5_rightAt_46 : decode cX5_rightAt 46 = .ok (.iaload, 1) := by decide +kernel
theorem dX5_rightAt_47 : decode cX5_rightAt 47 = .ok (.iconst 1, 1) := by decide +kernel
theorem dX5_rightAt_48 : decode cX5_rightAt 48 = .ok (.if_icmp .ne 35, 3) := by decide +kernel
theorem dX5_rightAt_51 : decode cX5_rightAt 51 = .ok (.aload_n 0, 1) := by decide +kernel
theorem dX5_rightAt_52 : decode cX5_rightAt 52 = .ok (.getfield 65, 3) := by decide +kernel
theorem dX5_rightAt_55 : decode cX5_rightAt 55 = .ok (.iload_n 2, 1) := by decide +kernel
theorem dX5_rightAt_56 : decode cX5_rightAt 56 = .ok (.iaload, 1) := by decide +kernel
theorem dX5_rightAt_57 : decode cX5_rightAt 57 = .ok (.aload_n 0, 1) := by decide +kernel
theorem dX5_rightAt_58 : decode cX5_rightAt 58 = .ok (.getfield 53, 3) := by decide +kernel
theorem dX5_rightAt_61 : decode cX5_rightAt 61 = .ok (.aload_n 0, 1) := by decide +kernel
theorem dX5_rightAt_62 : decode cX5_rightAt 62 = .ok (.getfield 56, 3) := by decide +kernel
theorem dX5_rightAt_65 : decode cX5_rightAt 65 = .ok (.iload_n 2, 1) := by decide +kernel
theorem dX5_rightAt_66 : decode cX5_rightAt 66 = .ok (.iaload, 1) := by decide +kernel
theorem dX5_rightAt_67 : decode cX5_rightAt 67 = .ok (.iaload, 1) := by decide +kernel
theorem dX5_rightAt_68 : decode cX5_rightAt 68 = .ok (.if_icmp .lt 15, 3) := by decide +kernel
theorem dX5_rightAt_71 : decode cX5_rightAt 71 = .ok (.aload_n 0, 1) := by decide +kernel
theorem dX5_rightAt_72 : decode cX5_rightAt 72 = .ok (.getfield 56, 3) := by decide +kernel
theorem dX5_rightAt_75 : decode cX5_rightAt 75 = .ok (.iload_n 2, 1) := by decide +kernel
theorem dX5_rightAt_76 : decode cX5_rightAt 76 = .ok (.iaload, 1) := by decide +kernel
theorem dX5_rightAt_77 : decode cX5_rightAt 77 = .ok (.bipush 24, 2) := by decide +kernel
theorem dX5_rightAt_79 : decode cX5_rightAt 79 = .ok (.idiv, 1) := by decide +kernel
theorem dX5_rightAt_80 : decode cX5_rightAt 80 = .ok (.goto 4, 3) := by decide +kernel
theorem dX5_rightAt_83 : decode cX5_rightAt 83 = .ok (.iload_n 1, 1) := by decide +kernel
theorem dX5_rightAt_84 : decode cX5_rightAt 84 = .ok (.istore_n 1, 1) := by decide +kernel
theorem dX5_rightAt_85 : decode cX5_rightAt 85 = .ok (.iinc 2 1, 3) := by decide +kernel
theorem dX5_rightAt_88 : decode cX5_rightAt 88 = .ok (.goto (-55), 3) := by decide +kernel
theorem dX5_rightAt_91 : decode cX5_rightAt 91 = .ok (.iload_n 1, 1) := by decide +kernel
theorem dX5_rightAt_92 : decode cX5_rightAt 92 = .ok (.ireturn, 1) := by decide +kernel
set_option maxRecDepth 20000 in
theorem ggX5_join_X5_part : GoodIn wsX5_join wsX5_part := goodIn_r _ [12, 13, 2, 14, 32, 33, 34, 35, 36, 37, 38, 39, 40, 41, 42, 43, 44, 45, 46, 47, 48, 49, 50, 51, 52, 53, 54, 55, 56, 57, 58, 59, 60, 61, 62, 63, 64] rfl (by decide +kernel)
set_option maxRecDepth 20000 in
theorem gX5_join_X5_part : GoodIn wsX5_join (wsV RX5 116 RX5 yX5_part wsX5_part) := goodIn_app (goodIn_of _ (by decide +kernel)) ggX5_join_X5_part
set_option maxRecDepth 20000 in
theorem ggX5_join_X5_isStation : GoodIn wsX5_join wsX5_isStation := goodIn_r _ [18, 13, 32, 33, 34, 35, 36, 37, 38, 39, 40, 41, 42, 43, 44, 45, 46, 47, 48, 49, 50, 51, 52, 53, 54, 55, 56, 57, 58, 59, 60, 61, 62, 63, 64] rfl (by decide +kernel)
set_option maxRecDepth 20000 in
theorem gX5_join_X5_isStation : GoodIn wsX5_join (wsV RX5 109 RX5 yX5_isStation wsX5_isStation) := goodIn_app (goodIn_of _ (by decide +kernel)) ggX5_join_X5_isStation
set_option maxRecDepth 20000 in
theorem ggX5_join_X5_rightAt : GoodIn wsX5_join wsX5_rightAt := goodIn_r _ [22, 13, 4, 23, 24, 25, 7, 26, 32, 33, 34, 35, 36, 37, 38, 39, 40, 41, 42, 43, 44, 45, 46, 47, 48, 49, 50, 51, 52, 53, 54, 55, 56, 57, 58, 59, 60, 61, 62, 63, 64] rfl (by decide +kernel)
set_option maxRecDepth 20000 in
theorem gX5_join_X5_rightAt : GoodIn wsX5_join (wsV RX5 188 RX5 yX5_rightAt wsX5_rightAt) := goodIn_app (goodIn_of _ (by decide +kernel)) ggX5_join_X5_rightAt
set_option maxRecDepth 20000 in
theorem ggX5_join_X5_join2 : GoodIn wsX5_join wsX5_join2 := goodIn_r _ [30, 14, 31, 32, 33, 34, 35, 36, 37, 38, 39, 40, 41, 42, 43, 44, 45, 46, 47, 48, 49, 50, 51, 52, 53, 54, 55, 56, 57, 58, 59, 60, 61, 62, 63, 64] rfl (by decide +kernel)
set_option maxRecDepth 20000 in
theorem gX5_join_X5_join2 : GoodIn wsX5_join (wsV RX5 120 RX5 yX5_join2 wsX5_join2) := goodIn_app (goodIn_of _ (by decide +kernel)) ggX5_join_X5_join2
theorem dX5_join_0 : decode cX5_join 0 = .ok (.aload_n 0, 1) := by decide +kernel
theorem dX5_join_1 : decode cX5_join 1 = .ok (.invokevirtual 116, 3) := by decide +kernel
theorem dX5_join_4 : decode cX5_join 4 = .ok (.istore_n 3, 1) := by decide +kernel
theorem dX5_join_5 : decode cX5_join 5 = .ok (.aload_n 0, 1) := by decide +kernel
theorem dX5_join_6 : decode cX5_join 6 = .ok (.getfield 105, 3) := by decide +kernel
theorem dX5_join_9 : decode cX5_join 9 = .ok (.ifCond .eq 34, 3) := by decide +kernel
theorem dX5_join_12 : decode cX5_join 12 = .ok (.aload_n 0, 1) := by decide +kernel
theorem dX5_join_13 : decode cX5_join 13 = .ok (.iload_n 1, 1) := by decide +kernel
theorem dX5_join_14 : decode cX5_join 14 = .ok (.invokevirtual 109, 3) := by decide +kernel
theorem dX5_join_17 : decode cX5_join 17 = .ok (.ifCond .eq 26, 3) := by decide +kernel
theorem dX5_join_20 : decode cX5_join 20 = .ok (.aload_n 0, 1) := by decide +kernel
theorem dX5_join_21 : decode cX5_join 21 = .ok (.iload_n 2, 1) := by decide +kernel
theorem dX5_join_22 : decode cX5_join 22 = .ok (.invokevirtual 109, 3) := by decide +kernel
theorem dX5_join_25 : decode cX5_join 25 = .ok (.ifCond .eq 18, 3) := by decide +kernel
theorem dX5_join_28 : decode cX5_join 28 = .ok (.aload_n 0, 1) := by decide +kernel
theorem dX5_join_29 : decode cX5_join 29 = .ok (.getfield 80, 3) := by decide +kernel
theorem dX5_join_32 : decode cX5_join 32 = .ok (.iload_n 1, 1) := by decide +kernel
theorem dX5_join_33 : decode cX5_join 33 = .ok (.iaload, 1) := by decide +kernel
theorem dX5_join_34 : decode cX5_join 34 = .ok (.aload_n 0, 1) := by decide +kernel
theorem dX5_join_35 : decode cX5_join 35 = .ok (.getfield 80, 3) := by decide +kernel
theorem dX5_join_38 : decode cX5_join 38 = .ok (.iload_n 2, 1) := by decide +kernel
theorem dX5_join_39 : decode cX5_join 39 = .ok (.iaload, 1) := by decide +kernel
theorem dX5_join_40 : decode cX5_join 40 = .ok (.if_icmp .ne 5, 3) := by decide +kernel
theorem dX5_join_43 : decode cX5_join 43 = .ok (.iconst (-1), 1) := by decide +kernel
theorem dX5_join_44 : decode cX5_join 44 = .ok (.ireturn, 1) := by decide +kernel
theorem dX5_join_45 : decode cX5_join 45 = .ok (.aload_n 0, 1) := by decide +kernel
theorem dX5_join_46 : decode cX5_join 46 = .ok (.invokevirtual 188, 3) := by decide +kernel
theorem dX5_join_49 : decode cX5_join 49 = .ok (.istore 4, 2) := by decide +kernel
theorem dX5_join_51 : decode cX5_join 51 = .ok (.aload_n 0, 1) := by decide +kernel
theorem dX5_join_52 : decode cX5_join 52 = .ok (.getfield 80, 3) := by decide +kernel
theorem dX5_join_55 : decode cX5_join 55 = .ok (.iload 4, 2) := by decide +kernel
theorem dX5_join_57 : decode cX5_join 57 = .ok (.iaload, 1) := by decide +kernel
theorem dX5_join_58 : decode cX5_join 58 = .ok (.aload_n 0, 1) := by decide +kernel
theorem dX5_join_59 : decode cX5_join 59 = .ok (.getfield 80, 3) := by decide +kernel
theorem dX5_join_62 : decode cX5_join 62 = .ok (.iload_n 1, 1) := by decide +kernel
theorem dX5_join_63 : decode cX5_join 63 = .ok (.iaload, 1) := by decide +kernel
theorem dX5_join_64 : decode cX5_join 64 = .ok (.if_icmp .eq 21, 3) := by decide +kernel
theorem dX5_join_67 : decode cX5_join 67 = .ok (.aload_n 0, 1) := by decide +kernel
theorem dX5_join_68 : decode cX5_join 68 = .ok (.getfield 80, 3) := by decide +kernel
theorem dX5_join_71 : decode cX5_join 71 = .ok (.iload 4, 2) := by decide +kernel
theorem dX5_join_73 : decode cX5_join 73 = .ok (.iaload, 1) := by decide +kernel
theorem dX5_join_74 : decode cX5_join 74 = .ok (.aload_n 0, 1) := by decide +kernel
theorem dX5_join_75 : decode cX5_join 75 = .ok (.getfield 80, 3) := by decide +kernel
theorem dX5_join_78 : decode cX5_join 78 = .ok (.iload_n 2, 1) := by decide +kernel
theorem dX5_join_79 : decode cX5_join 79 = .ok (.iaload, 1) := by decide +kernel
theorem dX5_join_80 : decode cX5_join 80 = .ok (.if_icmp .eq 5, 3) := by decide +kernel
theorem dX5_join_83 : decode cX5_join 83 = .ok (.iconst (-1), 1) := by decide +kernel
theorem dX5_join_84 : decode cX5_join 84 = .ok (.ireturn, 1) := by decide +kernel
theorem dX5_join_85 : decode cX5_join 85 = .ok (.aload_n 0, 1) := by decide +kernel
theorem dX5_join_86 : decode cX5_join 86 = .ok (.getfield 80, 3) := by decide +kernel
theorem dX5_join_89 : decode cX5_join 89 = .ok (.iload 4, 2) := by decide +kernel
theorem dX5_join_91 : decode cX5_join 91 = .ok (.iaload, 1) := by decide +kernel
theorem dX5_join_92 : decode cX5_join 92 = .ok (.aload_n 0, 1) := by decide +kernel
theorem dX5_join_93 : decode cX5_join 93 = .ok (.getfield 80, 3) := by decide +kernel
theorem dX5_join_96 : decode cX5_join 96 = .ok (.iload_n 1, 1) := by decide +kernel
theorem dX5_join_97 : decode cX5_join 97 = .ok (.iaload, 1) := by decide +kernel
theorem dX5_join_98 : decode cX5_join 98 = .ok (.if_icmp .ne 7, 3) := by decide +kernel
theorem dX5_join_101 : decode cX5_join 101 = .ok (.iload_n 2, 1) := by decide +kernel
theorem dX5_join_102 : decode cX5_join 102 = .ok (.goto 4, 3) := by decide +kernel
theorem dX5_join_105 : decode cX5_join 105 = .ok (.iload_n 1, 1) := by decide +kernel
theorem dX5_join_106 : decode cX5_join 106 = .ok (.istore 5, 2) := by decide +kernel
theorem dX5_join_108 : decode cX5_join 108 = .ok (.iload 5, 2) := by decide +kernel
theorem dX5_join_110 : decode cX5_join 110 = .ok (.iload_n 1, 1) := by decide +kernel
theorem dX5_join_111 : decode cX5_join 111 = .ok (.if_icmp .ne 7, 3) := by decide +kernel
theorem dX5_join_114 : decode cX5_join 114 = .ok (.iload_n 2, 1) := by decide +kernel
theorem dX5_join_115 : decode cX5_join 115 = .ok (.goto 4, 3) := by decide +kernel
theorem dX5_join_118 : decode cX5_join 118 = .ok (.iload_n 1, 1) := by decide +kernel
theorem dX5_join_119 : decode cX5_join 119 = .ok (.istore 6, 2) := by decide +kernel
theorem dX5_join_121 : decode cX5_join 121 = .ok (.iconst 0, 1) := by decide +kernel
theorem dX5_join_122 : decode cX5_join 122 = .ok (.istore 7, 2) := by decide +kernel
theorem dX5_join_124 : decode cX5_join 124 = .ok (.iload 5, 2) := by decide +kernel
theorem dX5_join_126 : decode cX5_join 126 = .ok (.istore 8, 2) := by decide +kernel
theorem dX5_join_128 : decode cX5_join 128 = .ok (.iload 8, 2) := by decide +kernel
theorem dX5_join_130 : decode cX5_join 130 = .ok (.bipush (-2), 2) := by decide +kernel
theorem dX5_join_132 : decode cX5_join 132 = .ok (.if_icmp .eq 27, 3) := by decide +kernel
theorem dX5_join_135 : decode cX5_join 135 = .ok (.aload_n 0, 1) := by decide +kernel
theorem dX5_join_136 : decode cX5_join 136 = .ok (.getfield 83, 3) := by decide +kernel
theorem dX5_join_139 : decode cX5_join 139 = .ok (.iload 7, 2) := by decide +kernel
theorem dX5_join_141 : decode cX5_join 141 = .ok (.iload 8, 2) := by decide +kernel
theorem dX5_join_143 : decode cX5_join 143 = .ok (.iastore, 1) := by decide +kernel
theorem dX5_join_144 : decode cX5_join 144 = .ok (.iinc 7 1, 3) := by decide +kernel
theorem dX5_join_147 : decode cX5_join 147 = .ok (.aload_n 0, 1) := by decide +kernel
theorem dX5_join_148 : decode cX5_join 148 = .ok (.getfield 13, 3) := by decide +kernel
theorem dX5_join_151 : decode cX5_join 151 = .ok (.iload 8, 2) := by decide +kernel
theorem dX5_join_153 : decode cX5_join 153 = .ok (.iaload, 1) := by decide +kernel
theorem dX5_join_154 : decode cX5_join 154 = .ok (.istore 8, 2) := by decide +kernel
theorem dX5_join_156 : decode cX5_join 156 = .ok (.goto (-28), 3) := by decide +kernel
theorem dX5_join_159 : decode cX5_join 159 = .ok (.iconst 0, 1) := by decide +kernel
theorem dX5_join_160 : decode cX5_join 160 = .ok (.istore 8, 2) := by decide +kernel
theorem dX5_join_162 : decode cX5_join 162 = .ok (.iload 8, 2) := by decide +kernel
theorem dX5_join_164 : decode cX5_join 164 = .ok (.iconst 1, 1) := by decide +kernel
theorem dX5_join_165 : decode cX5_join 165 = .ok (.iadd, 1) := by decide +kernel
theorem dX5_join_166 : decode cX5_join 166 = .ok (.iload 7, 2) := by decide +kernel
theorem dX5_join_168 : decode cX5_join 168 = .ok (.if_icmp .ge 27, 3) := by decide +kernel
theorem dX5_join_171 : decode cX5_join 171 = .ok (.aload_n 0, 1) := by decide +kernel
theorem dX5_join_172 : decode cX5_join 172 = .ok (.getfield 17, 3) := by decide +kernel
theorem dX5_join_175 : decode cX5_join 175 = .ok (.aload_n 0, 1) := by decide +kernel
theorem dX5_join_176 : decode cX5_join 176 = .ok (.getfield 83, 3) := by decide +kernel
theorem dX5_join_179 : decode cX5_join 179 = .ok (.iload 8, 2) := by decide +kernel
theorem dX5_join_181 : decode cX5_join 181 = .ok (.iaload, 1) := by decide +kernel
theorem dX5_join_182 : decode cX5_join 182 = .ok (.baload, 1) := by decide +kernel
theorem dX5_join_183 : decode cX5_join 183 = .ok (.ifCond .eq 6, 3) := by decide +kernel
theorem dX5_join_186 : decode cX5_join 186 = .ok (.bipush (-5), 2) := by decide +kernel
theorem dX5_join_188 : decode cX5_join 188 = .ok (.ireturn, 1) := by decide +kernel
theorem dX5_join_189 : decode cX5_join 189 = .ok (.iinc 8 1, 3) := by decide +kernel
theorem dX5_join_192 : decode cX5_join 192 = .ok (.goto (-30), 3) := by decide +kernel
theorem dX5_join_195 : decode cX5_join 195 = .ok (.iload 7, 2) := by decide +kernel
theorem dX5_join_197 : decode cX5_join 197 = .ok (.iconst 1, 1) := by decide +kernel
theorem dX5_join_198 : decode cX5_join 198 = .ok (.isub, 1) := by decide +kernel
theorem dX5_join_199 : decode cX5_join 199 = .ok (.istore 8, 2) := by decide +kernel
theorem dX5_join_201 : decode cX5_join 201 = .ok (.iload 8, 2) := by decide +kernel
theorem dX5_join_203 : decode cX5_join 203 = .ok (.ifCond .le 30, 3) := by decide +kernel
theorem dX5_join_206 : decode cX5_join 206 = .ok (.aload_n 0, 1) := by decide +kernel
theorem dX5_join_207 : decode cX5_join 207 = .ok (.getfield 13, 3) := by decide +kernel
theorem dX5_join_210 : decode cX5_join 210 = .ok (.aload_n 0, 1) := by decide +kernel
theorem dX5_join_211 : decode cX5_join 211 = .ok (.getfield 83, 3) := by decide +kernel
theorem dX5_join_214 : decode cX5_join 214 = .ok (.iload 8, 2) := by decide +kernel
theorem dX5_join_216 : decode cX5_join 216 = .ok (.iaload, 1) := by decide +kernel
theorem dX5_join_217 : decode cX5_join 217 = .ok (.aload_n 0, 1) := by decide +kernel
theorem dX5_join_218 : decode cX5_join 218 = .ok (.getfield 83, 3) := by decide +kernel
theorem dX5_join_221 : decode cX5_join 221 = .ok (.iload 8, 2) := by decide +kernel
theorem dX5_join_223 : decode cX5_join 223 = .ok (.iconst 1, 1) := by decide +kernel
theorem dX5_join_224 : decode cX5_join 224 = .ok (.isub, 1) := by decide +kernel
theorem dX5_join_225 : decode cX5_join 225 = .ok (.iaload, 1) := by decide +kernel
