theorem dX5_join2_4 : decode cX5_join2 4 = .ok (.bipush 24, 2) := by decide +kernel
theorem dX5_join2_6 : decode cX5_join2 6 = .ok (.iload_n 1, 1) := by decide +kernel
theorem dX5_join2_7 : decode cX5_join2 7 = .ok (.imul, 1) := by decide +kernel
theorem dX5_join2_8 : decode cX5_join2 8 = .ok (.iload_n 2, 1) := by decide +kernel
theorem dX5_join2_9 : decode cX5_join2 9 = .ok (.iadd, 1) := by decide +kernel
theorem dX5_join2_10 : decode cX5_join2 10 = .ok (.iload_n 3, 1) := by decide +kernel
theorem dX5_join2_11 : decode cX5_join2 11 = .ok (.bastore, 1) := by decide +kernel
theorem dX5_join2_12 : decode cX5_join2 12 = .ok (.aload_n 0, 1) := by decide +kernel
theorem dX5_join2_13 : decode cX5_join2 13 = .ok (.getfield 7, 3) := by decide +kernel
theorem dX5_join2_16 : decode cX5_join2 16 = .ok (.bipush 24, 2) := by decide +kernel
theorem dX5_join2_18 : decode cX5_join2 18 = .ok (.iload_n 2, 1) := by decide +kernel
theorem dX5_join2_19 : decode cX5_join2 19 = .ok (.imul, 1) := by decide +kernel
theorem dX5_join2_20 : decode cX5_join2 20 = .ok (.iload_n 1, 1) := by decide +kernel
theorem dX5_join2_21 : decode cX5_join2 21 = .ok (.iadd, 1) := by decide +kernel
theorem dX5_join2_22 : decode cX5_join2 22 = .ok (.iload_n 3, 1) := by decide +kernel
theorem dX5_join2_23 : decode cX5_join2 23 = .ok (.bastore, 1) := by decide +kernel
theorem dX5_join2_24 : decode cX5_join2 24 = .ok (.aload_n 0, 1) := by decide +kernel
theorem dX5_join2_25 : decode cX5_join2 25 = .ok (.dup, 1) := by decide +kernel
theorem dX5_join2_26 : decode cX5_join2 26 = .ok (.getfield 113, 3) := by decide +kernel
theorem dX5_join2_29 : decode cX5_join2 29 = .ok (.iload_n 3, 1) := by decide +kernel
theorem dX5_join2_30 : decode cX5_join2 30 = .ok (.ifCond .eq 7, 3) := by decide +kernel
theorem dX5_join2_33 : decode cX5_join2 33 = .ok (.iconst 1, 1) := by decide +kernel
theorem dX5_join2_34 : decode cX5_join2 34 = .ok (.goto 4, 3) := by decide +kernel
theorem dX5_join2_37 : decode cX5_join2 37 = .ok (.iconst (-1), 1) := by decide +kernel
theorem dX5_join2_38 : decode cX5_join2 38 = .ok (.iadd, 1) := by decide +kernel
theorem dX5_join2_39 : decode cX5_join2 39 = .ok (.putfield 113, 3) := by decide +kernel
theorem dX5_join2_42 : decode cX5_join2 42 = .ok (.return_, 1) := by decide +kernel
set_option maxRecDepth 20000 in
theorem ggX5_link_X5_part : GoodIn wsX5_link wsX5_part := goodIn_r _ [8, 9, 2, 10, 19, 20, 21, 22, 23, 24, 25, 26, 27, 28, 29, 30, 31, 32, 33, 34, 35, 36, 37, 38, 39, 40, 41, 42, 43, 44, 45, 46, 47, 48, 49, 50, 51] rfl (by decide +kernel)
set_option maxRecDepth 20000 in
theorem gX5_link_X5_part : GoodIn wsX5_link (wsV RX5 116 RX5 yX5_part wsX5_part) := goodIn_app (goodIn_of _ (by decide +kernel)) ggX5_link_X5_part
set_option maxRecDepth 20000 in
theorem ggX5_link_X5_isStation : GoodIn wsX5_link wsX5_isStation := goodIn_r _ [14, 9, 19, 20, 21, 22, 23, 24, 25, 26, 27, 28, 29, 30, 31, 32, 33, 34, 35, 36, 37, 38, 39, 40, 41, 42, 43, 44, 45, 46, 47, 48, 49, 50, 51] rfl (by decide +kernel)
set_option maxRecDepth 20000 in
theorem gX5_link_X5_isStation : GoodIn wsX5_link (wsV RX5 109 RX5 yX5_isStation wsX5_isStation) := goodIn_app (goodIn_of _ (by decide +kernel)) ggX5_link_X5_isStation
set_option maxRecDepth 20000 in
theorem ggX5_link_X5_join2 : GoodIn wsX5_link wsX5_join2 := goodIn_r _ [18, 10, 3, 19, 20, 21, 22, 23, 24, 25, 26, 27, 28, 29, 30, 31, 32, 33, 34, 35, 36, 37, 38, 39, 40, 41, 42, 43, 44, 45, 46, 47, 48, 49, 50, 51] rfl (by decide +kernel)
set_option maxRecDepth 20000 in
theorem gX5_link_X5_join2 : GoodIn wsX5_link (wsV RX5 120 RX5 yX5_join2 wsX5_join2) := goodIn_app (goodIn_of _ (by decide +kernel)) ggX5_link_X5_join2
theorem dX5_link_0 : decode cX5_link 0 = .ok (.aload_n 0, 1) := by decide +kernel
theorem dX5_link_1 : decode cX5_link 1 = .ok (.invokevirtual 116, 3) := by decide +kernel
theorem dX5_link_4 : decode cX5_link 4 = .ok (.istore_n 3, 1) := by decide +kernel
theorem dX5_link_5 : decode cX5_link 5 = .ok (.aload_n 0, 1) := by decide +kernel
theorem dX5_link_6 : decode cX5_link 6 = .ok (.getfield 105, 3) := by decide +kernel
theorem dX5_link_9 : decode cX5_link 9 = .ok (.ifCond .ne 34, 3) := by decide +kernel
theorem dX5_link_12 : decode cX5_link 12 = .ok (.aload_n 0, 1) := by decide +kernel
theorem dX5_link_13 : decode cX5_link 13 = .ok (.iload_n 1, 1) := by decide +kernel
theorem dX5_link_14 : decode cX5_link 14 = .ok (.invokevirtual 109, 3) := by decide +kernel
theorem dX5_link_17 : decode cX5_link 17 = .ok (.ifCond .eq 26, 3) := by decide +kernel
theorem dX5_link_20 : decode cX5_link 20 = .ok (.aload_n 0, 1) := by decide +kernel
theorem dX5_link_21 : decode cX5_link 21 = .ok (.iload_n 2, 1) := by decide +kernel
theorem dX5_link_22 : decode cX5_link 22 = .ok (.invokevirtual 109, 3) := by decide +kernel
theorem dX5_link_25 : decode cX5_link 25 = .ok (.ifCond .eq 18, 3) := by decide +kernel
theorem dX5_link_28 : decode cX5_link 28 = .ok (.aload_n 0, 1) := by decide +kernel
theorem dX5_link_29 : decode cX5_link 29 = .ok (.getfield 80, 3) := by decide +kernel
theorem dX5_link_32 : decode cX5_link 32 = .ok (.iload_n 1, 1) := by decide +kernel
theorem dX5_link_33 : decode cX5_link 33 = .ok (.iaload, 1) := by decide +kernel
theorem dX5_link_34 : decode cX5_link 34 = .ok (.aload_n 0, 1) := by decide +kernel
theorem dX5_link_35 : decode cX5_link 35 = .ok (.getfield 80, 3) := by decide +kernel
theorem dX5_link_38 : decode cX5_link 38 = .ok (.iload_n 2, 1) := by decide +kernel
theorem dX5_link_39 : decode cX5_link 39 = .ok (.iaload, 1) := by decide +kernel
theorem dX5_link_40 : decode cX5_link 40 = .ok (.if_icmp .ne 5, 3) := by decide +kernel
theorem dX5_link_43 : decode cX5_link 43 = .ok (.iconst (-1), 1) := by decide +kernel
theorem dX5_link_44 : decode cX5_link 44 = .ok (.ireturn, 1) := by decide +kernel
theorem dX5_link_45 : decode cX5_link 45 = .ok (.aload_n 0, 1) := by decide +kernel
theorem dX5_link_46 : decode cX5_link 46 = .ok (.iload_n 1, 1) := by decide +kernel
theorem dX5_link_47 : decode cX5_link 47 = .ok (.iload_n 2, 1) := by decide +kernel
theorem dX5_link_48 : decode cX5_link 48 = .ok (.iconst 1, 1) := by decide +kernel
theorem dX5_link_49 : decode cX5_link 49 = .ok (.invokevirtual 120, 3) := by decide +kernel
theorem dX5_link_52 : decode cX5_link 52 = .ok (.aload_n 0, 1) := by decide +kernel
theorem dX5_link_53 : decode cX5_link 53 = .ok (.getfield 113, 3) := by decide +kernel
theorem dX5_link_56 : decode cX5_link 56 = .ok (.ireturn, 1) := by decide +kernel
set_option maxRecDepth 20000 in
theorem ggX5_open_X5_isStation : GoodIn wsX5_open wsX5_isStation := goodIn_r _ [25, 9, 31, 32, 33, 34, 35, 36, 37, 38, 39, 40, 41, 42, 43, 44, 45, 46, 47, 48, 49, 50, 51, 52, 53, 54, 55, 56, 57, 58, 59, 60, 61, 62, 63] rfl (by decide +kernel)
set_option maxRecDepth 20000 in
theorem gX5_open_X5_isStation : GoodIn wsX5_open (wsV RX5 109 RX5 yX5_isStation wsX5_isStation) := goodIn_app (goodIn_of _ (by decide +kernel)) ggX5_open_X5_isStation
set_option maxRecDepth 20000 in
theorem ggX5_open_X5_part : GoodIn wsX5_open wsX5_part := goodIn_r _ [29, 9, 30, 20, 31, 32, 33, 34, 35, 36, 37, 38, 39, 40, 41, 42, 43, 44, 45, 46, 47, 48, 49, 50, 51, 52, 53, 54, 55, 56, 57, 58, 59, 60, 61, 62, 63] rfl (by decide +kernel)
set_option maxRecDepth 20000 in
theorem gX5_open_X5_part : GoodIn wsX5_open (wsV RX5 116 RX5 yX5_part wsX5_part) := goodIn_app (goodIn_of _ (by decide +kernel)) ggX5_open_X5_part
theorem dX5_open_0 : decode cX5_open 0 = .ok (.aload_n 0, 1) := by decide +kernel
theorem dX5_open_1 : decode cX5_open 1 = .ok (.getfield 105, 3) := by decide +kernel
theorem dX5_open_4 : decode cX5_open 4 = .ok (.ifCond .ne 38, 3) := by decide +kernel
theorem dX5_open_7 : decode cX5_open 7 = .ok (.aload_n 0, 1) := by decide +kernel
theorem dX5_open_8 : decode cX5_open 8 = .ok (.iload_n 1, 1) := by decide +kernel
theorem dX5_open_9 : decode cX5_open 9 = .ok (.invokevirtual 109, 3) := by decide +kernel
theorem dX5_open_12 : decode cX5_open 12 = .ok (.ifCond .eq 30, 3) := by decide +kernel
theorem dX5_open_15 : decode cX5_open 15 = .ok (.iload_n 2, 1) := by decide +kernel
theorem dX5_open_16 : decode cX5_open 16 = .ok (.ifCond .lt 26, 3) := by decide +kernel
theorem dX5_open_19 : decode cX5_open 19 = .ok (.iload_n 2, 1) := by decide +kernel
theorem dX5_open_20 : decode cX5_open 20 = .ok (.iconst 2, 1) := by decide +kernel
theorem dX5_open_21 : decode cX5_open 21 = .ok (.if_icmp .gt 21, 3) := by decide +kernel
theorem dX5_open_24 : decode cX5_open 24 = .ok (.iload_n 3, 1) := by decide +kernel
theorem dX5_open_25 : decode cX5_open 25 = .ok (.iconst 1, 1) := by decide +kernel
theorem dX5_open_26 : decode cX5_open 26 = .ok (.if_icmp .lt 16, 3) := by decide +kernel
theorem dX5_open_29 : decode cX5_open 29 = .ok (.iload_n 3, 1) := by decide +kernel
theorem dX5_open_30 : decode cX5_open 30 = .ok (.iconst 4, 1) := by decide +kernel
theorem dX5_open_31 : decode cX5_open 31 = .ok (.if_icmp .gt 11, 3) := by decide +kernel
theorem dX5_open_34 : decode cX5_open 34 = .ok (.aload_n 0, 1) := by decide +kernel
theorem dX5_open_35 : decode cX5_open 35 = .ok (.invokevirtual 116, 3) := by decide +kernel
theorem dX5_open_38 : decode cX5_open 38 = .ok (.iconst 1, 1) := by decide +kernel
theorem dX5_open_39 : decode cX5_open 39 = .ok (.if_icmp .le 5, 3) := by decide +kernel
theorem dX5_open_42 : decode cX5_open 42 = .ok (.iconst (-1), 1) := by decide +kernel
theorem dX5_open_43 : decode cX5_open 43 = .ok (.ireturn, 1) := by decide +kernel
theorem dX5_open_44 : decode cX5_open 44 = .ok (.aload_n 0, 1) := by decide +kernel
theorem dX5_open_45 : decode cX5_open 45 = .ok (.iconst 1, 1) := by decide +kernel
theorem dX5_open_46 : decode cX5_open 46 = .ok (.putfield 105, 3) := by decide +kernel
theorem dX5_open_49 : decode cX5_open 49 = .ok (.aload_n 0, 1) := by decide +kernel
theorem dX5_open_50 : decode cX5_open 50 = .ok (.iload_n 2, 1) := by decide +kernel
theorem dX5_open_51 : decode cX5_open 51 = .ok (.putfield 124, 3) := by decide +kernel
theorem dX5_open_54 : decode cX5_open 54 = .ok (.aload_n 0, 1) := by decide +kernel
theorem dX5_open_55 : decode cX5_open 55 = .ok (.iload_n 3, 1) := by decide +kernel
theorem dX5_open_56 : decode cX5_open 56 = .ok (.putfield 127, 3) := by decide +kernel
theorem dX5_open_59 : decode cX5_open 59 = .ok (.aload_n 0, 1) := by decide +kernel
theorem dX5_open_60 : decode cX5_open 60 = .ok (.iconst 0, 1) := by decide +kernel
theorem dX5_open_61 : decode cX5_open 61 = .ok (.putfield 130, 3) := by decide +kernel
theorem dX5_open_64 : decode cX5_open 64 = .ok (.aload_n 0, 1) := by decide +kernel
theorem dX5_open_65 : decode cX5_open 65 = .ok (.iconst 0, 1) := by decide +kernel
theorem dX5_open_66 : decode cX5_open 66 = .ok (.putfield 133, 3) := by decide +kernel
theorem dX5_open_69 : decode cX5_open 69 = .ok (.aload_n 0, 1) := by decide +kernel
theorem dX5_open_70 : decode cX5_open 70 = .ok (.iconst 0, 1) := by decide +kernel
theorem dX5_open_71 : decode cX5_open 71 = .ok (.putfield 136, 3) := by decide +kernel
theorem dX5_open_74 : decode cX5_open 74 = .ok (.iconst 0, 1) := by decide +kernel
theorem dX5_open_75 : decode cX5_open 75 = .ok (.istore 4, 2) := by decide +kernel
theorem dX5_open_77 : decode cX5_open 77 = .ok (.iload 4, 2) := by decide +kernel
theorem dX5_open_79 : decode cX5_open 79 = .ok (.sipush 576, 3) := by decide +kernel
theorem dX5_open_82 : decode cX5_open 82 = .ok (.if_icmp .ge 25, 3) := by decide +kernel
theorem dX5_open_85 : decode cX5_open 85 = .ok (.aload_n 0, 1) := by decide +kernel
theorem dX5_open_86 : decode cX5_open 86 = .ok (.getfield 50, 3) := by decide +kernel
theorem dX5_open_89 : decode cX5_open 89 = .ok (.iload 4, 2) := by decide +kernel
theorem dX5_open_91 : decode cX5_open 91 = .ok (.iconst 0, 1) := by decide +kernel
theorem dX5_open_92 : decode cX5_open 92 = .ok (.iastore, 1) := by decide +kernel
theorem dX5_open_93 : decode cX5_open 93 = .ok (.aload_n 0, 1) := by decide +kernel
theorem dX5_open_94 : decode cX5_open 94 = .ok (.getfield 53, 3) := by decide +kernel
theorem dX5_open_97 : decode cX5_open 97 = .ok (.iload 4, 2) := by decide +kernel
theorem dX5_open_99 : decode cX5_open 99 = .ok (.iconst 0, 1) := by decide +kernel
theorem dX5_open_100 : decode cX5_open 100 = .ok (.iastore, 1) := by decide +kernel
theorem dX5_open_101 : decode cX5_open 101 = .ok (.iinc 4 1, 3) := by decide +kernel
theorem dX5_open_104 : decode cX5_open 104 = .ok (.goto (-27), 3) := by decide +kernel
theorem dX5_open_107 : decode cX5_open 107 = .ok (.iconst 0, 1) := by decide +kernel
theorem dX5_open_108 : decode cX5_open 108 = .ok (.istore 4, 2) := by decide +kernel
theorem dX5_open_110 : decode cX5_open 110 = .ok (.iload 4, 2) := by decide +kernel
theorem dX5_open_112 : decode cX5_open 112 = .ok (.aload_n 0, 1) := by decide +kernel
theorem dX5_open_113 : decode cX5_open 113 = .ok (.getfield 101, 3) := by decide +kernel
theorem dX5_open_116 : decode cX5_open 116 = .ok (.if_icmp .ge 101, 3) := by decide +kernel
theorem dX5_open_119 : decode cX5_open 119 = .ok (.aload_n 0, 1) := by decide +kernel
theorem dX5_open_120 : decode cX5_open 120 = .ok (.getfield 13, 3) := by decide +kernel
theorem dX5_open_123 : decode cX5_open 123 = .ok (.iload 4, 2) := by decide +kernel
theorem dX5_open_125 : decode cX5_open 125 = .ok (.iload 4, 2) := by decide +kernel
theorem dX5_open_127 : decode cX5_open 127 = .ok (.iload_n 1, 1) := by decide +kernel
theorem dX5_open_128 : decode cX5_open 128 = .ok (.if_icmp .ne 8, 3) := by decide +kernel
theorem dX5_open_131 : decode cX5_open 131 = .ok (.iload 4, 2) := by decide +kernel
theorem dX5_open_133 : decode cX5_open 133 = .ok (.goto 5, 3) := by decide +kernel
theorem dX5_open_136 : decode cX5_open 136 = .ok (.bipush (-2), 2) := by decide +kernel
theorem dX5_open_138 : decode cX5_open 138 = .ok (.iastore, 1) := by decide +kernel
theorem dX5_open_139 : decode cX5_open 139 = .ok (.aload_n 0, 1) := by decide +kernel
theorem dX5_open_140 : decode cX5_open 140 = .ok (.getfield 17, 3) := by decide +kernel
theorem dX5_open_143 : decode cX5_open 143 = .ok (.iload 4, 2) := by decide +kernel
theorem dX5_open_145 : decode cX5_open 145 = .ok (.iconst 0, 1) := by decide +kernel
theorem dX5_open_146 : decode cX5_open 146 = .ok (.bastore, 1) := by decide +kernel
theorem dX5_open_147 : decode cX5_open 147 = .ok (.aload_n 0, 1) := by decide +kernel
theorem dX5_open_148 : decode cX5_open 148 = .ok (.getfield 20, 3) := by decide +kernel
theorem dX5_open_151 : decode cX5_open 151 = .ok (.iload 4, 2) := by decide +kernel
theorem dX5_open_153 : decode cX5_open 153 = .ok (.iconst 0, 1) := by decide +kernel
theorem dX5_open_154 : decode cX5_open 154 = .ok (.bastore, 1) := by decide +kernel
theorem dX5_open_155 : decode cX5_open 155 = .ok (.aload_n 0, 1) := by decide +kernel
theorem dX5_open_156 : decode cX5_open 156 = .ok (.getfield 23, 3) := by decide +kernel
theorem dX5_open_159 : decode cX5_open 159 = .ok (.iload 4, 2) := by decide +kernel
theorem dX5_open_161 : decode cX5_open 161 = .ok (.iconst 0, 1) := by decide +kernel
theorem dX5_open_162 : decode cX5_open 162 = .ok (.bastore, 1) := by decide +kernel
theorem dX5_open_163 : decode cX5_open 163 = .ok (.aload_n 0, 1) := by decide +kernel
theorem dX5_open_164 : decode cX5_open 164 = .ok (.getfield 26, 3) := by decide +kernel
theorem dX5_open_167 : decode cX5_open 167 = .ok (.iload 4, 2) := by decide +kernel
theorem dX5_open_169 : decode cX5_open 169 = .ok (.iconst 0, 1) := by decide +kernel
theorem dX5_open_170 : decode cX5_open 170 = .ok (.iastore, 1) := by decide +kernel
theorem dX5_open_171 : decode cX5_open 171 = .ok (.aload_n 0, 1) := by decide +kernel
theorem dX5_open_172 : decode cX5_open 172 = .ok (.getfield 29, 3) := by decide +kernel
theorem dX5_open_175 : decode cX5_open 175 = .ok (.iload 4, 2) := by decide +kernel
theorem dX5_open_177 : decode cX5_open 177 = .ok (.iconst 0, 1) := by decide +kernel
theorem dX5_open_178 : decode cX5_open 178 = .ok (.iastore, 1) := by decide +kernel
theorem dX5_open_179 : decode cX5_open 179 = .ok (.aload_n 0, 1) := by decide +kernel
theorem dX5_open_180 : decode cX5_open 180 = .ok (.getfield 32, 3) := by decide +kernel
theorem dX5_open_183 : decode cX5_open 183 = .ok (.iload 4, 2) := by decide +kernel
theorem dX5_open_185 : decode cX5_open 185 = .ok (.iconst 0, 1) := by decide +kernel
theorem dX5_open_186 : decode cX5_open 186 = .ok (.iastore, 1) := by decide +kernel
theorem dX5_open_187 : decode cX5_open 187 = .ok (.aload_n 0, 1) := by decide +kernel
theorem dX5_open_188 : decode cX5_open 188 = .ok (.getfield 35, 3) := by decide +kernel
theorem dX5_open_191 : decode cX5_open 191 = .ok (.iload 4, 2) := by decide +kernel
theorem dX5_open_193 : decode cX5_open 193 = .ok (.iconst 0, 1) := by decide +kernel
theorem dX5_open_194 : decode cX5_open 194 = .ok (.iastore, 1) := by decide +kernel
theorem dX5_open_195 : decode cX5_open 195 = .ok (.aload_n 0, 1) := by decide +kernel
theorem dX5_open_196 : decode cX5_open 196 = .ok (.getfield 38, 3) := by decide +kernel
theorem dX5_open_199 : decode cX5_open 199 = .ok (.iload 4, 2) := by decide +kernel
theorem dX5_open_201 : decode cX5_open 201 = .ok (.iconst 0, 1) := by decide +kernel
theorem dX5_open_202 : decode cX5_open 202 = .ok (.iastore, 1) := by decide +kernel
theorem dX5_open_203 : decode cX5_open 203 = .ok (.aload_n 0, 1) := by decide +kernel
theorem dX5_open_204 : decode cX5_open 204 = .ok (.getfield 41, 3) := by decide +kernel
theorem dX5_open_207 : decode cX5_open 207 = .ok (.iload 4, 2) := by decide +kernel
theorem dX5_open_209 : decode cX5_open 209 = .ok (.iconst 0, 1) := by decide +kernel
theorem dX5_open_210 : decode cX5_open 210 = .ok (.iastore, 1) := by decide +kernel
theorem dX5_open_211 : decode cX5_open 211 = .ok (.iinc 4 1, 3) := by decide +kernel
theorem dX5_open_214 : decode cX5_open 214 = .ok (.goto (-104), 3) := by decide +kernel
theorem dX5_open_217 : decode cX5_open 217 = .ok (.iconst 0, 1) := by decide +kernel
theorem dX5_open_218 : decode cX5_open 218 = .ok (.istore 4, 2) := by decide +kernel
theorem dX5_open_220 : decode cX5_open 220 = .ok (.iload 4, 2) := by decide +kernel
theorem dX5_open_222 : decode cX5_open 222 = .ok (.aload_n 0, 1) := by decide +kernel
theorem dX5_open_223 : decode cX5_open 223 = .ok (.getfield 101, 3) := by decide +kernel
theorem dX5_open_226 : decode cX5_open 226 = .ok (.if_icmp .ge 104, 3) := by decide +kernel
theorem dX5_open_229 : decode cX5_open 229 = .ok (.iconst 0, 1) := by decide +kernel
theorem dX5_open_230 : decode cX5_open 230 = .ok (.istore 5, 2) := by decide +kernel
theorem dX5_open_232 : decode cX5_open 232 = .ok (.iload 5, 2) := by decide +kernel
theorem dX5_open_234 : decode cX5_open 234 = .ok (.aload_n 0, 1) := by decide +kernel
theorem dX5_open_235 : decode cX5_open 235 = .ok (.getfield 101, 3) := by decide +kernel
theorem dX5_open_238 : decode cX5_open 238 = .ok (.if_icmp .ge 86, 3) := by decide +kernel
theorem dX5_open_241 : decode cX5_open 241 = .ok (.iconst 0, 1) := by decide +kernel
theorem dX5_open_242 : decode cX5_open 242 = .ok (.istore 6, 2) := by decide +kernel
theorem dX5_open_244 : decode cX5_open 244 = .ok (.iload 6, 2) := by decide +kernel
theorem dX5_open_246 : decode cX5_open 246 = .ok (.aload_n 0, 1) := by decide +kernel
theorem dX5_open_247 : decode cX5_open 247 = .ok (.getfield 101, 3) := by decide +kernel
theorem dX5_open_250 : decode cX5_open 250 = .ok (.if_icmp .ge 68, 3) := by decide +kernel
theorem dX5_open_253 : decode cX5_open 253 = .ok (.aload_n 0, 1) := by decide +kernel
theorem dX5_open_254 : decode cX5_open 254 = .ok (.getfield 13, 3) := by decide +kernel
theorem dX5_open_257 : decode cX5_open 257 = .ok (.iload 5, 2) := by decide +kernel
theorem dX5_open_259 : decode cX5_open 259 = .ok (.aload_n 0, 1) := by decide +kernel
theorem dX5_open_260 : decode cX5_open 260 = .ok (.getfield 7, 3) := by decide +kernel
theorem dX5_open_263 : decode cX5_open 263 = .ok (.bipush 24, 2) := by decide +kernel
theorem dX5_open_265 : decode cX5_open 265 = .ok (.iload 5, 2) := by decide +kernel
theorem dX5_open_267 : decode cX5_open 267 = .ok (.imul, 1) := by decide +kernel
theorem dX5_open_268 : decode cX5_open 268 = .ok (.iload 6, 2) := by decide +kernel
theorem dX5_open_270 : decode cX5_open 270 = .ok (.iadd, 1) := by decide +kernel
theorem dX5_open_271 : decode cX5_open 271 = .ok (.baload, 1) := by decide +kernel
theorem dX5_open_272 : decode cX5_open 272 = .ok (.ifCond .eq 32, 3) := by decide +kernel
theorem dX5_open_275 : decode cX5_open 275 = .ok (.aload_n 0, 1) := by decide +kernel
theorem dX5_open_276 : decode cX5_open 276 = .ok (.getfield 13, 3) := by decide +kernel
theorem dX5_open_279 : decode cX5_open 279 = .ok (.iload 5, 2) := by decide +kernel
theorem dX5_open_281 : decode cX5_open 281 = .ok (.iaload, 1) := by decide +kernel
theorem dX5_open_282 : decode cX5_open 282 = .ok (.bipush (-2), 2) := by decide +kernel
theorem dX5_open_284 : decode cX5_open 284 = .ok (.if_icmp .ne 20, 3) := by decide +kernel
theorem dX5_open_287 : decode cX5_open 287 = .ok (.aload_n 0, 1) := by decide +kernel
theorem dX5_open_288 : decode cX5_open 288 = .ok (.getfield 13, 3) := by decide +kernel
theorem dX5_open_291 : decode cX5_open 291 = .ok (.iload 6, 2) := by decide +kernel
theorem dX5_open_293 : decode cX5_open 293 = .ok (.iaload, 1) := by decide +kernel
theorem dX5_open_294 : decode cX5_open 294 = .ok (.bipush (-2), 2) := by decide +kernel
theorem dX5_open_296 : decode cX5_open 296 = .ok (.if_icmp .eq 8, 3) := by decide +kernel
theorem dX5_open_299 : decode cX5_open 299 = .ok (.iload 6, 2) := by decide +kernel
theorem dX5_open_301 : decode cX5_open 301 = .ok (.goto 10, 3) := by decide +kernel
theorem dX5_open_304 : decode cX5_open 304 = .ok (.aload_n 0, 1) := by decide +kernel
theorem dX5_open_305 : decode cX5_open 305 = .ok (.getfield 13, 3) := by decide +kernel
theorem dX5_open_308 : decode cX5_open 308 = .ok (.iload 5, 2) := by decide +kernel
theorem dX5_open_310 : decode cX5_open 310 = .ok (.iaload, 1) := by decide +kernel
theorem dX5_open_311 : decode cX5_open 311 = .ok (.iastore, 1) := by decide +kernel
theorem dX5_open_312 : decode cX5_open 312 = .ok (.iinc 6 1, 3) := by decide +kernel
theorem dX5_open_315 : decode cX5_open 315 = .ok (.goto (-71), 3) := by decide +kernel
theorem dX5_open_318 : decode cX5_open 318 = .ok (.iinc 5 1, 3) := by decide +kernel
theorem dX5_open_321 : decode cX5_open 321 = .ok (.goto (-89), 3) := by decide +kernel
theorem dX5_open_324 : decode cX5_open 324 = .ok (.iinc 4 1, 3) := by decide +kernel
theorem dX5_open_327 : decode cX5_open 327 = .ok (.goto (-107), 3) := by decide +kernel
theorem dX5_open_330 : decode cX5_open 330 = .ok (.iconst 0, 1) := by decide +kernel
theorem dX5_open_331 : decode cX5_open 331 = .ok (.ireturn, 1) := by decide +kernel
theorem dX5_entry_0 : decode cX5_entry 0 = .ok (.bipush 24, 2) := by decide +kernel
theorem dX5_entry_2 : decode cX5_entry 2 = .ok (.iload_n 1, 1) := by decide +kernel
theorem dX5_entry_3 : decode cX5_entry 3 = .ok (.imul, 1) := by decide +kernel
theorem dX5_entry_4 : decode cX5_entry 4 = .ok (.iload_n 2, 1) := by decide +kernel
theorem dX5_entry_5 : decode cX5_entry 5 = .ok (.iadd, 1) := by decide +kernel
theorem dX5_entry_6 : decode cX5_entry 6 = .ok (.ireturn, 1) := by decide +kernel
set_option maxRecDepth 20000 in
theorem ggX5_placeOf_X5_entry : GoodIn wsX5_placeOf wsX5_entry := goodIn_r _ [7] rfl (by decide +kernel)
set_option maxRecDepth 20000 in
theorem gX5_placeOf_X5_entry : GoodIn wsX5_placeOf (wsV RX5 139 RX5 yX5_entry wsX5_entry) := goodIn_app (goodIn_of _ (by decide +kernel)) ggX5_placeOf_X5_entry
theorem dX5_placeOf_0 : decode cX5_placeOf 0 = .ok (.iconst (-1), 1) := by decide +kernel
theorem dX5_placeOf_1 : decode cX5_placeOf 1 = .ok (.istore_n 3, 1) := by decide +kernel
theorem dX5_placeOf_2 : decode cX5_placeOf 2 = .ok (.iconst 0, 1) := by decide +kernel
theorem dX5_placeOf_3 : decode cX5_placeOf 3 = .ok (.istore 4, 2) := by decide +kernel
theorem dX5_placeOf_5 : decode cX5_placeOf 5 = .ok (.iload 4, 2) := by decide +kernel
theorem dX5_placeOf_7 : decode cX5_placeOf 7 = .ok (.aload_n 0, 1) := by decide +kernel
theorem dX5_placeOf_8 : decode cX5_placeOf 8 = .ok (.getfield 41, 3) := by decide +kernel
theorem dX5_placeOf_11 : decode cX5_placeOf 11 = .ok (.iload_n 1, 1) := by decide +kernel
theorem dX5_placeOf_12 : decode cX5_placeOf 12 = .ok (.iaload, 1) := by decide +kernel
theorem dX5_placeOf_13 : decode cX5_placeOf 13 = .ok (.if_icmp .ge 32, 3) := by decide +kernel
theorem dX5_placeOf_16 : decode cX5_placeOf 16 = .ok (.aload_n 0, 1) := by decide +kernel
theorem dX5_placeOf_17 : decode cX5_placeOf 17 = .ok (.getfield 44, 3) := by decide +kernel
theorem dX5_placeOf_20 : decode cX5_placeOf 20 = .ok (.aload_n 0, 1) := by decide +kernel
theorem dX5_placeOf_21 : decode cX5_placeOf 21 = .ok (.iload_n 1, 1) := by decide +kernel
theorem dX5_placeOf_22 : decode cX5_placeOf 22 = .ok (.iload 4, 2) := by decide +kernel
theorem dX5_placeOf_24 : decode cX5_placeOf 24 = .ok (.invokevirtual 139, 3) := by decide +kernel
theorem dX5_placeOf_27 : decode cX5_placeOf 27 = .ok (.iaload, 1) := by decide +kernel
theorem dX5_placeOf_28 : decode cX5_placeOf 28 = .ok (.iload_n 2, 1) := by decide +kernel
theorem dX5_placeOf_29 : decode cX5_placeOf 29 = .ok (.if_icmp .ne 8, 3) := by decide +kernel
theorem dX5_placeOf_32 : decode cX5_placeOf 32 = .ok (.iload 4, 2) := by decide +kernel
theorem dX5_placeOf_34 : decode cX5_placeOf 34 = .ok (.goto 4, 3) := by decide +kernel
theorem dX5_placeOf_37 : decode cX5_placeOf 37 = .ok (.iload_n 3, 1) := by decide +kernel
theorem dX5_placeOf_38 : decode cX5_placeOf 38 = .ok (.istore_n 3, 1) := by decide +kernel
theorem dX5_placeOf_39 : decode cX5_placeOf 39 = .ok (.iinc 4 1, 3) := by decide +kernel
theorem dX5_placeOf_42 : decode cX5_placeOf 42 = .ok (.goto (-37), 3) := by decide +kernel
theorem dX5_placeOf_45 : decode cX5_placeOf 45 = .ok (.iload_n 3, 1) := by decide +kernel
theorem dX5_placeOf_46 : decode cX5_placeOf 46 = .ok (.ireturn, 1) := by decide +kernel
set_option maxRecDepth 20000 in
theorem ggX5_come_X5_placeOf : GoodIn wsX5_come wsX5_placeOf := goodIn_r _ [8, 1, 2, 9, 10, 11, 7, 12, 13, 14, 15, 16, 17, 18, 19, 20, 21, 22, 23, 24, 25, 26, 27, 28, 29, 30, 31, 32, 33, 34, 35, 36, 37, 38, 39, 40, 41, 42, 43, 44, 45] rfl (by decide +kernel)
set_option maxRecDepth 20000 in
theorem gX5_come_X5_placeOf : GoodIn wsX5_come (wsV RX5 142 RX5 yX5_placeOf wsX5_placeOf) := goodIn_app (goodIn_of _ (by decide +kernel)) ggX5_come_X5_placeOf
set_option maxRecDepth 20000 in
theorem ggX5_come_X5_entry : GoodIn wsX5_come wsX5_entry := goodIn_r _ [12] rfl (by decide +kernel)
set_option maxRecDepth 20000 in
theorem gX5_come_X5_entry : GoodIn wsX5_come (wsV RX5 139 RX5 yX5_entry wsX5_entry) := goodIn_app (goodIn_of _ (by decide +kernel)) ggX5_come_X5_entry
theorem dX5_come_0 : decode cX5_come 0 = .ok (.aload_n 0, 1) := by decide +kernel
theorem dX5_come_1 : decode cX5_come 1 = .ok (.iload_n 1, 1) := by decide +kernel
theorem dX5_come_2 : decode cX5_come 2 = .ok (.iload_n 2, 1) := by decide +kernel
theorem dX5_come_3 : decode cX5_come 3 = .ok (.invokevirtual 142, 3) := by decide +kernel
theorem dX5_come_6 : decode cX5_come 6 = .ok (.istore 4, 2) := by decide +kernel
theorem dX5_come_8 : decode cX5_come 8 = .ok (.iload 4, 2) := by decide +kernel
theorem dX5_come_10 : decode cX5_come 10 = .ok (.ifCond .ge 50, 3) := by decide +kernel
theorem dX5_come_13 : decode cX5_come 13 = .ok (.aload_n 0, 1) := by decide +kernel
theorem dX5_come_14 : decode cX5_come 14 = .ok (.getfield 41, 3) := by decide +kernel
theorem dX5_come_17 : decode cX5_come 17 = .ok (.iload_n 1, 1) := by decide +kernel
theorem dX5_come_18 : decode cX5_come 18 = .ok (.iaload, 1) := by decide +kernel
theorem dX5_come_19 : decode cX5_come 19 = .ok (.istore 4, 2) := by decide +kernel
theorem dX5_come_21 : decode cX5_come 21 = .ok (.aload_n 0, 1) := by decide +kernel
theorem dX5_come_22 : decode cX5_come 22 = .ok (.getfield 44, 3) := by decide +kernel
theorem dX5_come_25 : decode cX5_come 25 = .ok (.aload_n 0, 1) := by decide +kernel
theorem dX5_come_26 : decode cX5_come 26 = .ok (.iload_n 1, 1) := by decide +kernel
theorem dX5_come_27 : decode cX5_come 27 = .ok (.iload 4, 2) := by decide +kernel
theorem dX5_come_29 : decode cX5_come 29 = .ok (.invokevirtual 139, 3) := by decide +kernel
theorem dX5_come_32 : decode cX5_come 32 = .ok (.iload_n 2, 1) := by decide +kernel
theorem dX5_come_33 : decode cX5_come 33 = .ok (.iastore, 1) := by decide +kernel
theorem dX5_come_34 : decode cX5_come 34 = .ok (.aload_n 0, 1) := by decide +kernel
theorem dX5_come_35 : decode cX5_come 35 = .ok (.getfield 47, 3) := by decide +kernel
theorem dX5_come_38 : decode cX5_come 38 = .ok (.aload_n 0, 1) := by decide +kernel
theorem dX5_come_39 : decode cX5_come 39 = .ok (.iload_n 1, 1) := by decide +kernel
theorem dX5_come_40 : decode cX5_come 40 = .ok (.iload 4, 2) := by decide +kernel
theorem dX5_come_42 : decode cX5_come 42 = .ok (.invokevirtual 139, 3) := by decide +kernel
theorem dX5_come_45 : decode cX5_come 45 = .ok (.iload_n 3, 1) := by decide +kernel
theorem dX5_come_46 : decode cX5_come 46 = .ok (.iastore, 1) := by decide +kernel
theorem dX5_come_47 : decode cX5_come 47 = .ok (.aload_n 0, 1) := by decide +kernel
theorem dX5_come_48 : decode cX5_come 48 = .ok (.getfield 41, 3) := by decide +kernel
theorem dX5_come_51 : decode cX5_come 51 = .ok (.iload_n 1, 1) := by decide +kernel
theorem dX5_come_52 : decode cX5_come 52 = .ok (.dup2, 1) := by decide +kernel
theorem dX5_come_53 : decode cX5_come 53 = .ok (.iaload, 1) := by decide +kernel
theorem dX5_come_54 : decode cX5_come 54 = .ok (.iconst 1, 1) := by decide +kernel
theorem dX5_come_55 : decode cX5_come 55 = .ok (.iadd, 1) := by decide +kernel
theorem dX5_come_56 : decode cX5_come 56 = .ok (.iastore, 1) := by decide +kernel
theorem dX5_come_57 : decode cX5_come 57 = .ok (.goto 32, 3) := by decide +kernel
theorem dX5_come_60 : decode cX5_come 60 = .ok (.iload_n 3, 1) := by decide +kernel
theorem dX5_come_61 : decode cX5_come 61 = .ok (.aload_n 0, 1) := by decide +kernel
theorem dX5_come_62 : decode cX5_come 62 = .ok (.getfield 47, 3) := by decide +kernel
theorem dX5_come_65 : decode cX5_come 65 = .ok (.aload_n 0, 1) := by decide +kernel
theorem dX5_come_66 : decode cX5_come 66 = .ok (.iload_n 1, 1) := by decide +kernel
theorem dX5_come_67 : decode cX5_come 67 = .ok (.iload 4, 2) := by decide +kernel
theorem dX5_come_69 : decode cX5_come 69 = .ok (.invokevirtual 139, 3) := by decide +kernel
theorem dX5_come_72 : decode cX5_come 72 = .ok (.iaload, 1) := by decide +kernel
theorem dX5_come_73 : decode cX5_come 73 = .ok (.if_icmp .le 16, 3) := by decide +kernel
theorem dX5_come_76 : decode cX5_come 76 = .ok (.aload_n 0, 1) := by decide +kernel
theorem dX5_come_77 : decode cX5_come 77 = .ok (.getfield 47, 3) := by decide +kernel
theorem dX5_come_80 : decode cX5_come 80 = .ok (.aload_n 0, 1) := by decide +kernel
theorem dX5_come_81 : decode cX5_come 81 = .ok (.iload_n 1, 1) := by decide +kernel
theorem dX5_come_82 : decode cX5_come 82 = .ok (.iload 4, 2) := by decide +kernel
theorem dX5_come_84 : decode cX5_come 84 = .ok (.invokevirtual 139, 3) := by decide +kernel
theorem dX5_come_87 : decode cX5_come 87 = .ok (.iload_n 3, 1) := by decide +kernel
theorem dX5_come_88 : decode cX5_come 88 = .ok (.iastore, 1) := by decide +kernel
theorem dX5_come_89 : decode cX5_come 89 = .ok (.return_, 1) := by decide +kernel
set_option maxRecDepth 20000 in
theorem ggX5_leave_X5_entry : GoodIn wsX5_leave wsX5_entry := goodIn_r _ [8] rfl (by decide +kernel)
set_option maxRecDepth 20000 in
theorem gX5_leave_X5_entry : GoodIn wsX5_leave (wsV RX5 139 RX5 yX5_entry wsX5_entry) := goodIn_app (goodIn_of _ (by decide +kernel)) ggX5_leave_X5_entry
theorem dX5_leave_0 : decode cX5_leave 0 = .ok (.iload_n 2, 1) := by decide +kernel
theorem dX5_leave_1 : decode cX5_leave 1 = .ok (.istore_n 3, 1) := by decide +kernel
theorem dX5_leave_2 : decode cX5_leave 2 = .ok (.iload_n 3, 1) := by decide +kernel
theorem dX5_leave_3 : decode cX5_leave 3 = .ok (.iconst 1, 1) := by decide +kernel
theorem dX5_leave_4 : decode cX5_leave 4 = .ok (.iadd, 1) := by decide +kernel
theorem dX5_leave_5 : decode cX5_leave 5 = .ok (.aload_n 0, 1) := by decide +kernel
theorem dX5_leave_6 : decode cX5_leave 6 = .ok (.getfield 41, 3) := by decide +kernel
theorem dX5_leave_9 : decode cX5_leave 9 = .ok (.iload_n 1, 1) := by decide +kernel
theorem dX5_leave_10 : decode cX5_leave 10 = .ok (.iaload, 1) := by decide +kernel
theorem dX5_leave_11 : decode cX5_leave 11 = .ok (.if_icmp .ge 57, 3) := by decide +kernel
theorem dX5_leave_14 : decode cX5_leave 14 = .ok (.aload_n 0, 1) := by decide +kernel
theorem dX5_leave_15 : decode cX5_leave 15 = .ok (.getfield 44, 3) := by decide +kernel
theorem dX5_leave_18 : decode cX5_leave 18 = .ok (.aload_n 0, 1) := by decide +kernel
theorem dX5_leave_19 : decode cX5_leave 19 = .ok (.iload_n 1, 1) := by decide +kernel
theorem dX5_leave_20 : decode cX5_leave 20 = .ok (.iload_n 3, 1) := by decide +kernel
theorem dX5_leave_21 : decode cX5_leave 21 = .ok (.invokevirtual 139, 3) := by decide +kernel
theorem dX5_leave_24 : decode cX5_leave 24 = .ok (.aload_n 0, 1) := by decide +kernel
theorem dX5_leave_25 : decode cX5_leave 25 = .ok (.getfield 44, 3) := by decide +kernel
theorem dX5_leave_28 : decode cX5_leave 28 = .ok (.aload_n 0, 1) := by decide +kernel
theorem dX5_leave_29 : decode cX5_leave 29 = .ok (.iload_n 1, 1) := by decide +kernel
theorem dX5_leave_30 : decode cX5_leave 30 = .ok (.iload_n 3, 1) := by decide +kernel
theorem dX5_leave_31 : decode cX5_leave 31 = .ok (.iconst 1, 1) := by decide +kernel
theorem dX5_leave_32 : decode cX5_leave 32 = .ok (.iadd, 1) := by decide +kernel
theorem dX5_leave_33 : decode cX5_leave 33 = .ok (.invokevirtual 139, 3) := by decide +kernel
theorem dX5_leave_36 : decode cX5_leave 36 = .ok (.iaload, 1) := by decide +kernel
theorem dX5_leave_37 : decode cX5_leave 37 = .ok (.iastore, 1) := by decide +kernel
theorem dX5_leave_38 : decode cX5_leave 38 = .ok (.aload_n 0, 1) := by decide +kernel
theorem dX5_leave_39 : decode cX5_leave 39 = .ok (.getfield 47, 3) := by decide +kernel
theorem dX5_leave_42 : decode cX5_leave 42 = .ok (.aload_n 0, 1) := by decide +kernel
theorem dX5_leave_43 : decode cX5_leave 43 = .ok (.iload_n 1, 1) := by decide +kernel
theorem dX5_leave_44 : decode cX5_leave 44 = .ok (.iload_n 3, 1) := by decide +kernel
theorem dX5_leave_45 : decode cX5_leave 45 = .ok (.invokevirtual 139, 3) := by decide +kernel
theorem dX5_leave_48 : decode cX5_leave 48 = .ok (.aload_n 0, 1) := by decide +kernel
theorem dX5_leave_49 : decode cX5_leave 49 = .ok (.getfield 47, 3) := by decide +kernel
theorem dX5_leave_52 : decode cX5_leave 52 = .ok (.aload_n 0, 1) := by decide +kernel
theorem dX5_leave_53 : decode cX5_leave 53 = .ok (.iload_n 1, 1) := by decide +kernel
theorem dX5_leave_54 : decode cX5_leave 54 = .ok (.iload_n 3, 1) := by decide +kernel
theorem dX5_leave_55 : decode cX5_leave 55 = .ok (.iconst 1, 1) := by decide +kernel
theorem dX5_leave_56 : decode cX5_leave 56 = .ok (.iadd, 1) := by decide +kernel
theorem dX5_leave_57 : decode cX5_leave 57 = .ok (.invokevirtual 139, 3) := by decide +kernel
theorem dX5_leave_60 : decode cX5_leave 60 = .ok (.iaload, 1) := by decide +kernel
theorem dX5_leave_61 : decode cX5_leave 61 = .ok (.iastore, 1) := by decide +kernel
theorem dX5_leave_62 : decode cX5_leave 62 = .ok (.iinc 3 1, 3) := by decide +kernel
theorem dX5_leave_65 : decode cX5_leave 65 = .ok (.goto (-63), 3) := by decide +kernel
theorem dX5_leave_68 : decode cX5_leave 68 = .ok (.aload_n 0, 1) := by decide +kernel
theorem dX5_leave_69 : decode cX5_leave 69 = .ok (.getfield 41, 3) := by decide +kernel
theorem dX5_leave_72 : decode cX5_leave 72 = .ok (.iload_n 1, 1) := by decide +kernel
theorem dX5_leave_73 : decode cX5_leave 73 = .ok (.dup2, 1) := by decide +kernel
theorem dX5_leave_74 : decode cX5_leave 74 = .ok (.iaload, 1) := by decide +kernel
theorem dX5_leave_75 : decode cX5_leave 75 = .ok (.iconst 1, 1) := by decide +kernel
theorem dX5_leave_76 : decode cX5_leave 76 = .ok (.isub, 1) := by decide +kernel
theorem dX5_leave_77 : decode cX5_leave 77 = .ok (.iastore, 1) := by decide +kernel
theorem dX5_leave_78 : decode cX5_leave 78 = .ok (.iconst 0, 1) := by decide +kernel
theorem dX5_leave_79 : decode cX5_leave 79 = .ok (.istore_n 3, 1) := by decide +kernel
theorem dX5_leave_80 : decode cX5_leave 80 = .ok (.iload_n 3, 1) := by decide +kernel
theorem dX5_leave_81 : decode cX5_leave 81 = .ok (.aload_n 0, 1) := by decide +kernel
theorem dX5_leave_82 : decode cX5_leave 82 = .ok (.getfield 41, 3) := by decide +kernel
theorem dX5_leave_85 : decode cX5_leave 85 = .ok (.iload_n 1, 1) := by decide +kernel
theorem dX5_leave_86 : decode cX5_leave 86 = .ok (.iaload, 1) := by decide +kernel
theorem dX5_leave_87 : decode cX5_leave 87 = .ok (.if_icmp .ge 56, 3) := by decide +kernel
theorem dX5_leave_90 : decode cX5_leave 90 = .ok (.aload_n 0, 1) := by decide +kernel
theorem dX5_leave_91 : decode cX5_leave 91 = .ok (.getfield 47, 3) := by decide +kernel
theorem dX5_leave_94 : decode cX5_leave 94 = .ok (.aload_n 0, 1) := by decide +kernel
theorem dX5_leave_95 : decode cX5_leave 95 = .ok (.iload_n 1, 1) := by decide +kernel
theorem dX5_leave_96 : decode cX5_leave 96 = .ok (.iload_n 3, 1) := by decide +kernel
theorem dX5_leave_97 : decode cX5_leave 97 = .ok (.invokevirtual 139, 3) := by decide +kernel
theorem dX5_leave_100 : decode cX5_leave 100 = .ok (.aload_n 0, 1) := by decide +kernel
theorem dX5_leave_101 : decode cX5_leave 101 = .ok (.getfield 47, 3) := by decide +kernel
theorem dX5_leave_104 : decode cX5_leave 104 = .ok (.aload_n 0, 1) := by decide +kernel
theorem dX5_leave_105 : decode cX5_leave 105 = .ok (.iload_n 1, 1) := by decide +kernel
theorem dX5_leave_106 : decode cX5_leave 106 = .ok (.iload_n 3, 1) := by decide +kernel
theorem dX5_leave_107 : decode cX5_leave 107 = .ok (.invokevirtual 139, 3) := by decide +kernel
theorem dX5_leave_110 : decode cX5_leave 110 = .ok (.iaload, 1) := by decide +kernel
theorem dX5_leave_111 : decode cX5_leave 111 = .ok (.sipush 1000, 3) := by decide +kernel
theorem dX5_leave_114 : decode cX5_leave 114 = .ok (.if_icmp .ge 19, 3) := by decide +kernel
theorem dX5_leave_117 : decode cX5_leave 117 = .ok (.aload_n 0, 1) := by decide +kernel
theorem dX5_leave_118 : decode cX5_leave 118 = .ok (.getfield 47, 3) := by decide +kernel
theorem dX5_leave_121 : decode cX5_leave 121 = .ok (.aload_n 0, 1) := by decide +kernel
theorem dX5_leave_122 : decode cX5_leave 122 = .ok (.iload_n 1, 1) := by decide +kernel
theorem dX5_leave_123 : decode cX5_leave 123 = .ok (.iload_n 3, 1) := by decide +kernel
theorem dX5_leave_124 : decode cX5_leave 124 = .ok (.invokevirtual 139, 3) := by decide +kernel
theorem dX5_leave_127 : decode cX5_leave 127 = .ok (.iaload, 1) := by decide +kernel
theorem dX5_leave_128 : decode cX5_leave 128 = .ok (.iconst 1, 1) := by decide +kernel
theorem dX5_leave_129 : decode cX5_leave 129 = .ok (.iadd, 1) := by decide +kernel
theorem dX5_leave_130 : decode cX5_leave 130 = .ok (.goto 6, 3) := by decide +kernel
theorem dX5_leave_133 : decode cX5_leave 133 = .ok (.sipush 1000, 3) := by decide +kernel
theorem dX5_leave_136 : decode cX5_leave 136 = .ok (.iastore, 1) := by decide +kernel
theorem dX5_leave_137 : decode cX5_leave 137 = .ok (.iinc 3 1, 3) := by decide +kernel
theorem dX5_leave_140 : decode cX5_leave 140 = .ok (.goto (-60), 3) := by decide +kernel
theorem dX5_leave_143 : decode cX5_leave 143 = .ok (.return_, 1) := by decide +kernel
set_option maxRecDepth 20000 in
theorem ggX5_firstOf_X5_placeOf : GoodIn wsX5_firstOf wsX5_placeOf := goodIn_r _ [10, 4, 11, 12, 13, 14, 9, 15, 16, 17, 18, 19, 20, 21, 22, 23, 24, 25, 26, 27, 28, 29, 30, 31, 32, 33, 34, 35, 36, 37, 38, 39, 40, 41, 42, 43, 44, 45, 46, 47, 48] rfl (by decide +kernel)
set_option maxRecDepth 20000 in
theorem gX5_firstOf_X5_placeOf : GoodIn wsX5_firstOf (wsV RX5 142 RX5 yX5_placeOf wsX5_placeOf) := goodIn_app (goodIn_of _ (by decide +kernel)) ggX5_firstOf_X5_placeOf
set_option maxRecDepth 20000 in
theorem ggX5_firstOf_X5_entry : GoodIn wsX5_firstOf wsX5_entry := goodIn_r _ [15] rfl (by decide +kernel)
set_option maxRecDepth 20000 in
theorem gX5_firstOf_X5_entry : GoodIn wsX5_firstOf (wsV RX5 139 RX5 yX5_entry wsX5_entry) := goodIn_app (goodIn_of _ (by decide +kernel)) ggX5_firstOf_X5_entry
theorem dX5_firstOf_0 : decode cX5_firstOf 0 = .ok (.aload_n 0, 1) := by decide +kernel
theorem dX5_firstOf_1 : decode cX5_firstOf 1 = .ok (.iload_n 1, 1) := by decide +kernel
theorem dX5_firstOf_2 : decode cX5_firstOf 2 = .ok (.iload_n 1, 1) := by decide +kernel
theorem dX5_firstOf_3 : decode cX5_firstOf 3 = .ok (.invokevirtual 142, 3) := by decide +kernel
theorem dX5_firstOf_6 : decode cX5_firstOf 6 = .ok (.istore_n 2, 1) := by decide +kernel
theorem dX5_firstOf_7 : decode cX5_firstOf 7 = .ok (.aload_n 0, 1) := by decide +kernel
theorem dX5_firstOf_8 : decode cX5_firstOf 8 = .ok (.getfield 124, 3) := by decide +kernel
theorem dX5_firstOf_11 : decode cX5_firstOf 11 = .ok (.iconst 1, 1) := by decide +kernel
theorem dX5_firstOf_12 : decode cX5_firstOf 12 = .ok (.if_icmp .ne 42, 3) := by decide +kernel
theorem dX5_firstOf_15 : decode cX5_firstOf 15 = .ok (.iload_n 2, 1) := by decide +kernel
theorem dX5_firstOf_16 : decode cX5_firstOf 16 = .ok (.ifCond .lt 28, 3) := by decide +kernel
theorem dX5_firstOf_19 : decode cX5_firstOf 19 = .ok (.aload_n 0, 1) := by decide +kernel
theorem dX5_firstOf_20 : decode cX5_firstOf 20 = .ok (.getfield 26, 3) := by decide +kernel
theorem dX5_firstOf_23 : decode cX5_firstOf 23 = .ok (.iload_n 1, 1) := by decide +kernel
theorem dX5_firstOf_24 : decode cX5_firstOf 24 = .ok (.iaload, 1) := by decide +kernel
theorem dX5_firstOf_25 : decode cX5_firstOf 25 = .ok (.aload_n 0, 1) := by decide +kernel
theorem dX5_firstOf_26 : decode cX5_firstOf 26 = .ok (.getfield 127, 3) := by decide +kernel
theorem dX5_firstOf_29 : decode cX5_firstOf 29 = .ok (.if_icmp .lt 13, 3) := by decide +kernel
theorem dX5_firstOf_32 : decode cX5_firstOf 32 = .ok (.aload_n 0, 1) := by decide +kernel
theorem dX5_firstOf_33 : decode cX5_firstOf 33 = .ok (.getfield 41, 3) := by decide +kernel
theorem dX5_firstOf_36 : decode cX5_firstOf 36 = .ok (.iload_n 1, 1) := by decide +kernel
theorem dX5_firstOf_37 : decode cX5_firstOf 37 = .ok (.iaload, 1) := by decide +kernel
theorem dX5_firstOf_38 : decode cX5_firstOf 38 = .ok (.iconst 1, 1) := by decide +kernel
theorem dX5_firstOf_39 : decode cX5_firstOf 39 = .ok (.if_icmp .ne 5, 3) := by decide +kernel
theorem dX5_firstOf_42 : decode cX5_firstOf 42 = .ok (.iload_n 2, 1) := by decide +kernel
theorem dX5_firstOf_43 : decode cX5_firstOf 43 = .ok (.ireturn, 1) := by decide +kernel
theorem dX5_firstOf_44 : decode cX5_firstOf 44 = .ok (.iload_n 2, 1) := by decide +kernel
theorem dX5_firstOf_45 : decode cX5_firstOf 45 = .ok (.ifCond .ne 7, 3) := by decide +kernel
theorem dX5_firstOf_48 : decode cX5_firstOf 48 = .ok (.iconst 1, 1) := by decide +kernel
theorem dX5_firstOf_49 : decode cX5_firstOf 49 = .ok (.goto 4, 3) := by decide +kernel
theorem dX5_firstOf_52 : decode cX5_firstOf 52 = .ok (.iconst 0, 1) := by decide +kernel
theorem dX5_firstOf_53 : decode cX5_firstOf 53 = .ok (.ireturn, 1) := by decide +kernel
theorem dX5_firstOf_54 : decode cX5_firstOf 54 = .ok (.iconst 0, 1) := by decide +kernel
theorem dX5_firstOf_55 : decode cX5_firstOf 55 = .ok (.istore_n 3, 1) := by decide +kernel
theorem dX5_firstOf_56 : decode cX5_firstOf 56 = .ok (.iconst 1, 1) := by decide +kernel
theorem dX5_firstOf_57 : decode cX5_firstOf 57 = .ok (.istore 4, 2) := by decide +kernel
theorem dX5_firstOf_59 : decode cX5_firstOf 59 = .ok (.iload 4, 2) := by decide +kernel
theorem dX5_firstOf_61 : decode cX5_firstOf 61 = .ok (.aload_n 0, 1) := by decide +kernel
theorem dX5_firstOf_62 : decode cX5_firstOf 62 = .ok (.getfield 41, 3) := by decide +kernel
theorem dX5_firstOf_65 : decode cX5_firstOf 65 = .ok (.iload_n 1, 1) := by decide +kernel
theorem dX5_firstOf_66 : decode cX5_firstOf 66 = .ok (.iaload, 1) := by decide +kernel
theorem dX5_firstOf_67 : decode cX5_firstOf 67 = .ok (.if_icmp .ge 50, 3) := by decide +kernel
theorem dX5_firstOf_70 : decode cX5_firstOf 70 = .ok (.aload_n 0, 1) := by decide +kernel
theorem dX5_firstOf_71 : decode cX5_firstOf 71 = .ok (.getfield 124, 3) := by decide +kernel
theorem dX5_firstOf_74 : decode cX5_firstOf 74 = .ok (.iconst 2, 1) := by decide +kernel
theorem dX5_firstOf_75 : decode cX5_firstOf 75 = .ok (.if_icmp .ne 42, 3) := by decide +kernel
theorem dX5_firstOf_78 : decode cX5_firstOf 78 = .ok (.aload_n 0, 1) := by decide +kernel
theorem dX5_firstOf_79 : decode cX5_firstOf 79 = .ok (.getfield 47, 3) := by decide +kernel
theorem dX5_firstOf_82 : decode cX5_firstOf 82 = .ok (.aload_n 0, 1) := by decide +kernel
theorem dX5_firstOf_83 : decode cX5_firstOf 83 = .ok (.iload_n 1, 1) := by decide +kernel
theorem dX5_firstOf_84 : decode cX5_firstOf 84 = .ok (.iload 4, 2) := by decide +kernel
theorem dX5_firstOf_86 : decode cX5_firstOf 86 = .ok (.invokevirtual 139, 3) := by decide +kernel
theorem dX5_firstOf_89 : decode cX5_firstOf 89 = .ok (.iaload, 1) := by decide +kernel
theorem dX5_firstOf_90 : decode cX5_firstOf 90 = .ok (.aload_n 0, 1) := by decide +kernel
theorem dX5_firstOf_91 : decode cX5_firstOf 91 = .ok (.getfield 47, 3) := by decide +kernel
theorem dX5_firstOf_94 : decode cX5_firstOf 94 = .ok (.aload_n 0, 1) := by decide +kernel
theorem dX5_firstOf_95 : decode cX5_firstOf 95 = .ok (.iload_n 1, 1) := by decide +kernel
theorem dX5_firstOf_96 : decode cX5_firstOf 96 = .ok (.iload_n 3, 1) := by decide +kernel
theorem dX5_firstOf_97 : decode cX5_firstOf 97 = .ok (.invokevirtual 139, 3) := by decide +kernel
theorem dX5_firstOf_100 : decode cX5_firstOf 100 = .ok (.iaload, 1) := by decide +kernel
theorem dX5_firstOf_101 : decode cX5_firstOf 101 = .ok (.if_icmp .le 8, 3) := by decide +kernel
theorem dX5_firstOf_104 : decode cX5_firstOf 104 = .ok (.iload 4, 2) := by decide +kernel
theorem dX5_firstOf_106 : decode cX5_firstOf 106 = .ok (.goto 4, 3) := by decide +kernel
theorem dX5_firstOf_109 : decode cX5_firstOf 109 = .ok (.iload_n 3, 1) := by decide +kernel
theorem dX5_firstOf_110 : decode cX5_firstOf 110 = .ok (.istore_n 3, 1) := by decide +kernel
theorem dX5_firstOf_111 : decode cX5_firstOf 111 = .ok (.iinc 4 1, 3) := by decide +kernel
theorem dX5_firstOf_114 : decode cX5_firstOf 114 = .ok (.goto (-55), 3) := by decide +kernel
theorem dX5_firstOf_117 : decode cX5_firstOf 117 = .ok (.iload_n 3, 1) := by decide +kernel
theorem dX5_firstOf_118 : decode cX5_firstOf 118 = .ok (.ireturn, 1) := by decide +kernel
set_option maxRecDepth 20000 in
theorem ggX5_greatest_X5_entry : GoodIn wsX5_greatest wsX5_entry := goodIn_r _ [7] rfl (by decide +kernel)
set_option maxRecDepth 20000 in
theorem gX5_greatest_X5_entry : GoodIn wsX5_greatest (wsV RX5 139 RX5 yX5_entry wsX5_entry) := goodIn_app (goodIn_of _ (by decide +kernel)) ggX5_greatest_X5_entry
theorem dX5_greatest_0 : decode cX5_greatest 0 = .ok (.iconst 0, 1) := by decide +kernel
theorem dX5_greatest_1 : decode cX5_greatest 1 = .ok (.istore_n 2, 1) := by decide +kernel
theorem dX5_greatest_2 : decode cX5_greatest 2 = .ok (.iconst 0, 1) := by decide +kernel
theorem dX5_greatest_3 : decode cX5_greatest 3 = .ok (.istore_n 3, 1) := by decide +kernel
theorem dX5_greatest_4 : decode cX5_greatest 4 = .ok (.iload_n 3, 1) := by decide +kernel
theorem dX5_greatest_5 : decode cX5_greatest 5 = .ok (.aload_n 0, 1) := by decide +kernel
theorem dX5_greatest_6 : decode cX5_greatest 6 = .ok (.getfield 41, 3) := by decide +kernel
theorem dX5_greatest_9 : decode cX5_greatest 9 = .ok (.iload_n 1, 1) := by decide +kernel
theorem dX5_greatest_10 : decode cX5_greatest 10 = .ok (.iaload, 1) := by decide +kernel
theorem dX5_greatest_11 : decode cX5_greatest 11 = .ok (.if_icmp .ge 40, 3) := by decide +kernel
theorem dX5_greatest_14 : decode cX5_greatest 14 = .ok (.aload_n 0, 1) := by decide +kernel
theorem dX5_greatest_15 : decode cX5_greatest 15 = .ok (.getfield 47, 3) := by decide +kernel
theorem dX5_greatest_18 : decode cX5_greatest 18 = .ok (.aload_n 0, 1) := by decide +kernel
theorem dX5_greatest_19 : decode cX5_greatest 19 = .ok (.iload_n 1, 1) := by decide +kernel
theorem dX5_greatest_20 : decode cX5_greatest 20 = .ok (.iload_n 3, 1) := by decide +kernel
theorem dX5_greatest_21 : decode cX5_greatest 21 = .ok (.invokevirtual 139, 3) := by decide +kernel
theorem dX5_greatest_24 : decode cX5_greatest 24 = .ok (.iaload, 1) := by decide +kernel
theorem dX5_greatest_25 : decode cX5_greatest 25 = .ok (.iload_n 2, 1) := by decide +kernel
theorem dX5_greatest_26 : decode cX5_greatest 26 = .ok (.if_icmp .le 17, 3) := by decide +kernel
theorem dX5_greatest_29 : decode cX5_greatest 29 = .ok (.aload_n 0, 1) := by decide +kernel
theorem dX5_greatest_30 : decode cX5_greatest 30 = .ok (.getfield 47, 3) := by decide +kernel
theorem dX5_greatest_33 : decode cX5_greatest 33 = .ok (.aload_n 0, 1) := by decide +kernel
theorem dX5_greatest_34 : decode cX5_greatest 34 = .ok (.iload_n 1, 1) := by decide +kernel
theorem dX5_greatest_35 : decode cX5_greatest 35 = .ok (.iload_n 3, 1) := by decide +kernel
theorem dX5_greatest_36 : decode cX5_greatest 36 = .ok (.invokevirtual 139, 3) := by decide +kernel
theorem dX5_greatest_39 : decode cX5_greatest 39 = .ok (.iaload, 1) := by decide +kernel
theorem dX5_greatest_40 : decode cX5_greatest 40 = .ok (.goto 4, 3) := by decide +kernel
theorem dX5_greatest_43 : decode cX5_greatest 43 = .ok (.iload_n 2, 1) := by decide +kernel
theorem dX5_greatest_44 : decode cX5_greatest 44 = .ok (.istore_n 2, 1) := by decide +kernel
theorem dX5_greatest_45 : decode cX5_greatest 45 = .ok (.iinc 3 1, 3) := by decide +kernel
theorem dX5_greatest_48 : decode cX5_greatest 48 = .ok (.goto (-44), 3) := by decide +kernel
theorem dX5_greatest_51 : decode cX5_greatest 51 = .ok (.iload_n 2, 1) := by decide +kernel
theorem dX5_greatest_52 : decode cX5_greatest 52 = .ok (.ireturn, 1) := by decide +kernel
theorem dX5_send_0 : decode cX5_send 0 = .ok (.aload_n 0, 1) := by decide +kernel
theorem dX5_send_1 : decode cX5_send 1 = .ok (.getfield 136, 3) := by decide +kernel
theorem dX5_send_4 : decode cX5_send 4 = .ok (.bipush 60, 2) := by decide +kernel
theorem dX5_send_6 : decode cX5_send 6 = .ok (.if_icmp .ne 4, 3) := by decide +kernel
theorem dX5_send_9 : decode cX5_send 9 = .ok (.return_, 1) := by decide +kernel
theorem dX5_send_10 : decode cX5_send 10 = .ok (.aload_n 0, 1) := by decide +kernel
theorem dX5_send_11 : decode cX5_send 11 = .ok (.getfield 68, 3) := by decide +kernel
theorem dX5_send_14 : decode cX5_send 14 = .ok (.aload_n 0, 1) := by decide +kernel
theorem dX5_send_15 : decode cX5_send 15 = .ok (.getfield 136, 3) := by decide +kernel
theorem dX5_send_18 : decode cX5_send 18 = .ok (.iload_n 1, 1) := by decide +kernel
theorem dX5_send_19 : decode cX5_send 19 = .ok (.iastore, 1) := by decide +kernel
theorem dX5_send_20 : decode cX5_send 20 = .ok (.aload_n 0, 1) := by decide +kernel
theorem dX5_send_21 : decode cX5_send 21 = .ok (.getfield 71, 3) := by decide +kernel
theorem dX5_send_24 : decode cX5_send 24 = .ok (.aload_n 0, 1) := by decide +kernel
theorem dX5_send_25 : decode cX5_send 25 = .ok (.getfield 136, 3) := by decide +kernel
theorem dX5_send_28 : decode cX5_send 28 = .ok (.iload_n 2, 1) := by decide +kernel
theorem dX5_send_29 : decode cX5_send 29 = .ok (.iastore, 1) := by decide +kernel
theorem dX5_send_30 : decode cX5_send 30 = .ok (.aload_n 0, 1) := by decide +kernel
theorem dX5_send_31 : decode cX5_send 31 = .ok (.getfield 74, 3) := by decide +kernel
theorem dX5_send_34 : decode cX5_send 34 = .ok (.aload_n 0, 1) := by decide +kernel
theorem dX5_send_35 : decode cX5_send 35 = .ok (.getfield 136, 3) := by decide +kernel
theorem dX5_send_38 : decode cX5_send 38 = .ok (.iload_n 3, 1) := by decide +kernel
theorem dX5_send_39 : decode cX5_send 39 = .ok (.iastore, 1) := by decide +kernel
theorem dX5_send_40 : decode cX5_send 40 = .ok (.aload_n 0, 1) := by decide +kernel
theorem dX5_send_41 : decode cX5_send 41 = .ok (.getfield 77, 3) := by decide +kernel
theorem dX5_send_44 : decode cX5_send 44 = .ok (.aload_n 0, 1) := by decide +kernel
theorem dX5_send_45 : decode cX5_send 45 = .ok (.getfield 136, 3) := by decide +kernel
theorem dX5_send_48 : decode cX5_send 48 = .ok (.iload 4, 2) := by decide +kernel
theorem dX5_send_50 : decode cX5_send 50 = .ok (.iastore, 1) := by decide +kernel
theorem dX5_send_51 : decode cX5_send 51 = .ok (.aload_n 0, 1) := by decide +kernel
theorem dX5_send_52 : decode cX5_send 52 = .ok (.dup, 1) := by decide +kernel
theorem dX5_send_53 : decode cX5_send 53 = .ok (.getfield 136, 3) := by decide +kernel
theorem dX5_send_56 : decode cX5_send 56 = .ok (.iconst 1, 1) := by decide +kernel
theorem dX5_send_57 : decode cX5_send 57 = .ok (.iadd, 1) := by decide +kernel
theorem dX5_send_58 : decode cX5_send 58 = .ok (.putfield 136, 3) := by decide +kernel
theorem dX5_send_61 : decode cX5_send 61 = .ok (.return_, 1) := by decide +kernel
theorem dX5_firstLetter_0 : decode cX5_firstLetter 0 = .ok (.iconst (-1), 1) := by decide +kernel
theorem dX5_firstLetter_1 : decode cX5_firstLetter 1 = .ok (.istore_n 2, 1) := by decide +kernel
theorem dX5_firstLetter_2 : decode cX5_firstLetter 2 = .ok (.aload_n 0, 1) := by decide +kernel
theorem dX5_firstLetter_3 : decode cX5_firstLetter 3 = .ok (.getfield 133, 3) := by decide +kernel
theorem dX5_firstLetter_6 : decode cX5_firstLetter 6 = .ok (.iconst 1, 1) := by decide +kernel
theorem dX5_firstLetter_7 : decode cX5_firstLetter 7 = .ok (.isub, 1) := by decide +kernel
theorem dX5_firstLetter_8 : decode cX5_firstLetter 8 = .ok (.istore_n 3, 1) := by decide +kernel
theorem dX5_firstLetter_9 : decode cX5_firstLetter 9 = .ok (.iload_n 3, 1) := by decide +kernel
theorem dX5_firstLetter_10 : decode cX5_firstLetter 10 = .ok (.ifCond .lt 25, 3) := by decide +kernel
theorem dX5_firstLetter_13 : decode cX5_firstLetter 13 = .ok (.aload_n 0, 1) := by decide +kernel
theorem dX5_firstLetter_14 : decode cX5_firstLetter 14 = .ok (.getfield 56, 3) := by decide +kernel
theorem dX5_firstLetter_17 : decode cX5_firstLetter 17 = .ok (.iload_n 3, 1) := by decide +kernel
theorem dX5_firstLetter_18 : decode cX5_firstLetter 18 = .ok (.iaload, 1) := by decide +kernel
theorem dX5_firstLetter_19 : decode cX5_firstLetter 19 = .ok (.iload_n 1, 1) := by decide +kernel
theorem dX5_firstLetter_20 : decode cX5_firstLetter 20 = .ok (.if_icmp .ne 7, 3) := by decide +kernel
theorem dX5_firstLetter_23 : decode cX5_firstLetter 23 = .ok (.iload_n 3, 1) := by decide +kernel
theorem dX5_firstLetter_24 : decode cX5_firstLetter 24 = .ok (.goto 4, 3) := by decide +kernel
theorem dX5_firstLetter_27 : decode cX5_firstLetter 27 = .ok (.iload_n 2, 1) := by decide +kernel
theorem dX5_firstLetter_28 : decode cX5_firstLetter 28 = .ok (.istore_n 2, 1) := by decide +kernel
theorem dX5_firstLetter_29 : decode cX5_firstLetter 29 = .ok (.iinc 3 (-1), 3) := by decide +kernel
theorem dX5_firstLetter_32 : decode cX5_firstLetter 32 = .ok (.goto (-23), 3) := by decide +kernel
theorem dX5_firstLetter_35 : decode cX5_firstLetter 35 = .ok (.iload_n 2, 1) := by decide +kernel
theorem dX5_firstLetter_36 : decode cX5_firstLetter 36 = .ok (.ireturn, 1) := by decide +kernel
set_option maxRecDepth 20000 in
theorem ggX5_sendFirst_X5_firstLetter : GoodIn wsX5_sendFirst wsX5_firstLetter := goodIn_r _ [8, 9, 10, 20, 21, 22, 23, 24, 25, 26, 27, 28, 29, 30, 31, 32, 33, 34, 35, 36, 37, 38, 39, 40, 41, 42, 43, 44, 45, 46, 47, 48, 49, 50, 51, 52] rfl (by decide +kernel)
set_option maxRecDepth 20000 in
theorem gX5_sendFirst_X5_firstLetter : GoodIn wsX5_sendFirst (wsV RX5 145 RX5 yX5_firstLetter wsX5_firstLetter) := goodIn_app (goodIn_of _ (by decide +kernel)) ggX5_sendFirst_X5_firstLetter
set_option maxRecDepth 20000 in
theorem ggX5_sendFirst_X5_send : GoodIn wsX5_sendFirst wsX5_send := goodIn_r _ [14, 15, 16, 17, 18, 19, 20, 21, 22, 23, 24, 25, 26, 27, 28, 29, 30, 31, 32, 33, 34, 35, 36, 37, 38, 39, 40, 41, 42, 43, 44, 45, 46, 47, 48, 49, 50, 51, 52] rfl (by decide +kernel)
set_option maxRecDepth 20000 in
theorem gX5_sendFirst_X5_send : GoodIn wsX5_sendFirst (wsV RX5 148 RX5 yX5_send wsX5_send) := goodIn_app (goodIn_of _ (by decide +kernel)) ggX5_sendFirst_X5_send
theorem dX5_sendFirst_0 : decode cX5_sendFirst 0 = .ok (.aload_n 0, 1) := by decide +kernel
theorem dX5_sendFirst_1 : decode cX5_sendFirst 1 = .ok (.iload_n 1, 1) := by decide +kernel
theorem dX5_sendFirst_2 : decode cX5_sendFirst 2 = .ok (.invokevirtual 145, 3) := by decide +kernel
theorem dX5_sendFirst_5 : decode cX5_sendFirst 5 = .ok (.istore_n 2, 1) := by decide +kernel
theorem dX5_sendFirst_6 : decode cX5_sendFirst 6 = .ok (.iload_n 2, 1) := by decide +kernel
theorem dX5_sendFirst_7 : decode cX5_sendFirst 7 = .ok (.ifCond .lt 26, 3) := by decide +kernel
theorem dX5_sendFirst_10 : decode cX5_sendFirst 10 = .ok (.aload_n 0, 1) := by decide +kernel
theorem dX5_sendFirst_11 : decode cX5_sendFirst 11 = .ok (.iload_n 1, 1) := by decide +kernel
theorem dX5_sendFirst_12 : decode cX5_sendFirst 12 = .ok (.aload_n 0, 1) := by decide +kernel
theorem dX5_sendFirst_13 : decode cX5_sendFirst 13 = .ok (.getfield 59, 3) := by decide +kernel
theorem dX5_sendFirst_16 : decode cX5_sendFirst 16 = .ok (.iload_n 2, 1) := by decide +kernel
theorem dX5_sendFirst_17 : decode cX5_sendFirst 17 = .ok (.iaload, 1) := by decide +kernel
theorem dX5_sendFirst_18 : decode cX5_sendFirst 18 = .ok (.aload_n 0, 1) := by decide +kernel
theorem dX5_sendFirst_19 : decode cX5_sendFirst 19 = .ok (.getfield 62, 3) := by decide +kernel
theorem dX5_sendFirst_22 : decode cX5_sendFirst 22 = .ok (.iload_n 2, 1) := by decide +kernel
theorem dX5_sendFirst_23 : decode cX5_sendFirst 23 = .ok (.iaload, 1) := by decide +kernel
theorem dX5_sendFirst_24 : decode cX5_sendFirst 24 = .ok (.aload_n 0, 1) := by decide +kernel
theorem dX5_sendFirst_25 : decode cX5_sendFirst 25 = .ok (.getfield 65, 3) := by decide +kernel
theorem dX5_sendFirst_28 : decode cX5_sendFirst 28 = .ok (.iload_n 2, 1) := by decide +kernel
theorem dX5_sendFirst_29 : decode cX5_sendFirst 29 = .ok (.iaload, 1) := by decide +kernel
theorem dX5_sendFirst_30 : decode cX5_sendFirst 30 = .ok (.invokevirtual 148, 3) := by decide +kernel
theorem dX5_sendFirst_33 : decode cX5_sendFirst 33 = .ok (.return_, 1) := by decide +kernel
set_option maxRecDepth 20000 in
theorem ggX5_write_X5_firstLetter : GoodIn wsX5_write wsX5_firstLetter := goodIn_r _ [11, 2, 1, 25, 26, 27, 28, 29, 30, 31, 32, 33, 34, 35, 36, 37, 38, 39, 40, 41, 42, 43, 44, 45, 46, 47, 48, 49, 50, 51, 52, 53, 54, 55, 56, 57] rfl (by decide +kernel)
set_option maxRecDepth 20000 in
theorem gX5_write_X5_firstLetter : GoodIn wsX5_write (wsV RX5 145 RX5 yX5_firstLetter wsX5_firstLetter) := goodIn_app (goodIn_of _ (by decide +kernel)) ggX5_write_X5_firstLetter
set_option maxRecDepth 20000 in
theorem ggX5_write_X5_sendFirst : GoodIn wsX5_write wsX5_sendFirst := goodIn_r _ [15, 3, 4, 5, 7, 8, 9, 10, 11, 2, 1, 16, 17, 18, 19, 20, 21, 22, 23, 24, 25, 26, 27, 28, 29, 30, 31, 32, 33, 34, 35, 36, 37, 38, 39, 40, 41, 42, 43, 44, 45, 46, 47, 48, 49, 50, 51, 52, 53, 54, 55, 56, 57] rfl (by decide +kernel)
set_option maxRecDepth 20000 in
theorem gX5_write_X5_sendFirst : GoodIn wsX5_write (wsV RX5 152 RX5 yX5_sendFirst wsX5_sendFirst) := goodIn_app (goodIn_of _ (by decide +kernel)) ggX5_write_X5_sendFirst
theorem dX5_write_0 : decode cX5_write 0 = .ok (.aload_n 0, 1) := by decide +kernel
theorem dX5_write_1 : decode cX5_write 1 = .ok (.iload_n 1, 1) := by decide +kernel
theorem dX5_write_2 : decode cX5_write 2 = .ok (.invokevirtual 145, 3) := by decide +kernel
theorem dX5_write_5 : decode cX5_write 5 = .ok (.ifCond .ge 7, 3) := by decide +kernel
theorem dX5_write_8 : decode cX5_write 8 = .ok (.iconst 1, 1) := by decide +kernel
theorem dX5_write_9 : decode cX5_write 9 = .ok (.goto 4, 3) := by decide +kernel
theorem dX5_write_12 : decode cX5_write 12 = .ok (.iconst 0, 1) := by decide +kernel
theorem dX5_write_13 : decode cX5_write 13 = .ok (.istore 4, 2) := by decide +kernel
theorem dX5_write_15 : decode cX5_write 15 = .ok (.aload_n 0, 1) := by decide +kernel
theorem dX5_write_16 : decode cX5_write 16 = .ok (.getfield 56, 3) := by decide +kernel
theorem dX5_write_19 : decode cX5_write 19 = .ok (.aload_n 0, 1) := by decide +kernel
theorem dX5_write_20 : decode cX5_write 20 = .ok (.getfield 133, 3) := by decide +kernel
theorem dX5_write_23 : decode cX5_write 23 = .ok (.iload_n 1, 1) := by decide +kernel
theorem dX5_write_24 : decode cX5_write 24 = .ok (.iastore, 1) := by decide +kernel
theorem dX5_write_25 : decode cX5_write 25 = .ok (.aload_n 0, 1) := by decide +kernel
theorem dX5_write_26 : decode cX5_write 26 = .ok (.getfield 59, 3) := by decide +kernel
theorem dX5_write_29 : decode cX5_write 29 = .ok (.aload_n 0, 1) := by decide +kernel
theorem dX5_write_30 : decode cX5_write 30 = .ok (.getfield 133, 3) := by decide +kernel
theorem dX5_write_33 : decode cX5_write 33 = .ok (.iload_n 2, 1) := by decide +kernel
theorem dX5_write_34 : decode cX5_write 34 = .ok (.iastore, 1) := by decide +kernel
theorem dX5_write_35 : decode cX5_write 35 = .ok (.aload_n 0, 1) := by decide +kernel
theorem dX5_write_36 : decode cX5_write 36 = .ok (.getfield 62, 3) := by decide +kernel
theorem dX5_write_39 : decode cX5_write 39 = .ok (.aload_n 0, 1) := by decide +kernel
theorem dX5_write_40 : decode cX5_write 40 = .ok (.getfield 133, 3) := by decide +kernel
theorem dX5_write_43 : decode cX5_write 43 = .ok (.iload_n 3, 1) := by decide +kernel
theorem dX5_write_44 : decode cX5_write 44 = .ok (.iastore, 1) := by decide +kernel
theorem dX5_write_45 : decode cX5_write 45 = .ok (.aload_n 0, 1) := by decide +kernel
theorem dX5_write_46 : decode cX5_write 46 = .ok (.getfield 65, 3) := by decide +kernel
theorem dX5_write_49 : decode cX5_write 49 = .ok (.aload_n 0, 1) := by decide +kernel
theorem dX5_write_50 : decode cX5_write 50 = .ok (.getfield 133, 3) := by decide +kernel
theorem dX5_write_53 : decode cX5_write 53 = .ok (.aload_n 0, 1) := by decide +kernel
theorem dX5_write_54 : decode cX5_write 54 = .ok (.getfield 50, 3) := by decide +kernel
theorem dX5_write_57 : decode cX5_write 57 = .ok (.iload_n 1, 1) := by decide +kernel
theorem dX5_write_58 : decode cX5_write 58 = .ok (.iaload, 1) := by decide +kernel
theorem dX5_write_59 : decode cX5_write 59 = .ok (.iastore, 1) := by decide +kernel
theorem dX5_write_60 : decode cX5_write 60 = .ok (.aload_n 0, 1) := by decide +kernel
theorem dX5_write_61 : decode cX5_write 61 = .ok (.dup, 1) := by decide +kernel
theorem dX5_write_62 : decode cX5_write 62 = .ok (.getfield 133, 3) := by decide +kernel
theorem dX5_write_65 : decode cX5_write 65 = .ok (.iconst 1, 1) := by decide +kernel
theorem dX5_write_66 : decode cX5_write 66 = .ok (.iadd, 1) := by decide +kernel
theorem dX5_write_67 : decode cX5_write 67 = .ok (.putfield 133, 3) := by decide +kernel
theorem dX5_write_70 : decode cX5_write 70 = .ok (.aload_n 0, 1) := by decide +kernel
theorem dX5_write_71 : decode cX5_write 71 = .ok (.getfield 50, 3) := by decide +kernel
theorem dX5_write_74 : decode cX5_write 74 = .ok (.iload_n 1, 1) := by decide +kernel
theorem dX5_write_75 : decode cX5_write 75 = .ok (.dup2, 1) := by decide +kernel
theorem dX5_write_76 : decode cX5_write 76 = .ok (.iaload, 1) := by decide +kernel
theorem dX5_write_77 : decode cX5_write 77 = .ok (.iconst 1, 1) := by decide +kernel
theorem dX5_write_78 : decode cX5_write 78 = .ok (.iadd, 1) := by decide +kernel
theorem dX5_write_79 : decode cX5_write 79 = .ok (.iastore, 1) := by decide +kernel
theorem dX5_write_80 : decode cX5_write 80 = .ok (.iload 4, 2) := by decide +kernel
theorem dX5_write_82 : decode cX5_write 82 = .ok (.ifCond .eq 8, 3) := by decide +kernel
theorem dX5_write_85 : decode cX5_write 85 = .ok (.aload_n 0, 1) := by decide +kernel
theorem dX5_write_86 : decode cX5_write 86 = .ok (.iload_n 1, 1) := by decide +kernel
theorem dX5_write_87 : decode cX5_write 87 = .ok (.invokevirtual 152, 3) := by decide +kernel
theorem dX5_write_90 : decode cX5_write 90 = .ok (.return_, 1) := by decide +kernel
set_option maxRecDepth 20000 in
theorem ggX5_writeAsk_X5_greatest : GoodIn wsX5_writeAsk wsX5_greatest := goodIn_r _ [8, 9, 10, 11, 12, 13, 7, 14, 42, 43, 44, 45, 46, 47, 48, 49, 50, 51, 52, 53, 54, 55, 56, 57, 58, 59, 60, 61, 62, 63, 64, 65, 66, 67, 68, 69, 70, 71, 72, 73, 74] rfl (by decide +kernel)
set_option maxRecDepth 20000 in
theorem gX5_writeAsk_X5_greatest : GoodIn wsX5_writeAsk (wsV RX5 156 RX5 yX5_greatest wsX5_greatest) := goodIn_app (goodIn_of _ (by decide +kernel)) ggX5_writeAsk_X5_greatest
set_option maxRecDepth 20000 in
theorem ggX5_writeAsk_X5_write : GoodIn wsX5_writeAsk wsX5_write := goodIn_r _ [18, 19, 20, 21, 22, 23, 24, 25, 26, 27, 7, 28, 29, 30, 31, 32, 33, 34, 35, 36, 37, 38, 39, 40, 41, 42, 43, 44, 45, 46, 47, 48, 49, 50, 51, 52, 53, 54, 55, 56, 57, 58, 59, 60, 61, 62, 63, 64, 65, 66, 67, 68, 69, 70, 71, 72, 73, 74] rfl (by decide +kernel)
set_option maxRecDepth 20000 in
theorem gX5_writeAsk_X5_write : GoodIn wsX5_writeAsk (wsV RX5 159 RX5 yX5_write wsX5_write) := goodIn_app (goodIn_of _ (by decide +kernel)) ggX5_writeAsk_X5_write
theorem dX5_writeAsk_0 : decode cX5_writeAsk 0 = .ok (.aload_n 0, 1) := by decide +kernel
theorem dX5_writeAsk_1 : decode cX5_writeAsk 1 = .ok (.iload_n 1, 1) := by decide +kernel
theorem dX5_writeAsk_2 : decode cX5_writeAsk 2 = .ok (.invokevirtual 156, 3) := by decide +kernel
theorem dX5_writeAsk_5 : decode cX5_writeAsk 5 = .ok (.istore_n 2, 1) := by decide +kernel
theorem dX5_writeAsk_6 : decode cX5_writeAsk 6 = .ok (.aload_n 0, 1) := by decide +kernel
theorem dX5_writeAsk_7 : decode cX5_writeAsk 7 = .ok (.getfield 17, 3) := by decide +kernel
theorem dX5_writeAsk_10 : decode cX5_writeAsk 10 = .ok (.iload_n 1, 1) := by decide +kernel
theorem dX5_writeAsk_11 : decode cX5_writeAsk 11 = .ok (.iconst 1, 1) := by decide +kernel
theorem dX5_writeAsk_12 : decode cX5_writeAsk 12 = .ok (.bastore, 1) := by decide +kernel
theorem dX5_writeAsk_13 : decode cX5_writeAsk 13 = .ok (.aload_n 0, 1) := by decide +kernel
theorem dX5_writeAsk_14 : decode cX5_writeAsk 14 = .ok (.getfield 29, 3) := by decide +kernel
theorem dX5_writeAsk_17 : decode cX5_writeAsk 17 = .ok (.iload_n 1, 1) := by decide +kernel
theorem dX5_writeAsk_18 : decode cX5_writeAsk 18 = .ok (.iload_n 2, 1) := by decide +kernel
theorem dX5_writeAsk_19 : decode cX5_writeAsk 19 = .ok (.iastore, 1) := by decide +kernel
theorem dX5_writeAsk_20 : decode cX5_writeAsk 20 = .ok (.aload_n 0, 1) := by decide +kernel
theorem dX5_writeAsk_21 : decode cX5_writeAsk 21 = .ok (.bipush 24, 2) := by decide +kernel
theorem dX5_writeAsk_23 : decode cX5_writeAsk 23 = .ok (.iload_n 1, 1) := by decide +kernel
theorem dX5_writeAsk_24 : decode cX5_writeAsk 24 = .ok (.imul, 1) := by decide +kernel
theorem dX5_writeAsk_25 : decode cX5_writeAsk 25 = .ok (.aload_n 0, 1) := by decide +kernel
theorem dX5_writeAsk_26 : decode cX5_writeAsk 26 = .ok (.getfield 13, 3) := by decide +kernel
theorem dX5_writeAsk_29 : decode cX5_writeAsk 29 = .ok (.iload_n 1, 1) := by decide +kernel
theorem dX5_writeAsk_30 : decode cX5_writeAsk 30 = .ok (.iaload, 1) := by decide +kernel
theorem dX5_writeAsk_31 : decode cX5_writeAsk 31 = .ok (.iadd, 1) := by decide +kernel
theorem dX5_writeAsk_32 : decode cX5_writeAsk 32 = .ok (.iconst 0, 1) := by decide +kernel
theorem dX5_writeAsk_33 : decode cX5_writeAsk 33 = .ok (.iload_n 2, 1) := by decide +kernel
theorem dX5_writeAsk_34 : decode cX5_writeAsk 34 = .ok (.invokevirtual 159, 3) := by decide +kernel
theorem dX5_writeAsk_37 : decode cX5_writeAsk 37 = .ok (.return_, 1) := by decide +kernel
theorem dX5_dropLetter_0 : decode cX5_dropLetter 0 = .ok (.aload_n 0, 1) := by decide +kernel
theorem dX5_dropLetter_1 : decode cX5_dropLetter 1 = .ok (.dup, 1) := by decide +kernel
theorem dX5_dropLetter_2 : decode cX5_dropLetter 2 = .ok (.getfield 133, 3) := by decide +kernel
theorem dX5_dropLetter_5 : decode cX5_dropLetter 5 = .ok (.iconst 1, 1) := by decide +kernel
theorem dX5_dropLetter_6 : decode cX5_dropLetter 6 = .ok (.isub, 1) := by decide +kernel
theorem dX5_dropLetter_7 : decode cX5_dropLetter 7 = .ok (.putfield 133, 3) := by decide +kernel
theorem dX5_dropLetter_10 : decode cX5_dropLetter 10 = .ok (.iload_n 1, 1) := by decide +kernel
theorem dX5_dropLetter_11 : decode cX5_dropLetter 11 = .ok (.istore_n 2, 1) := by decide +kernel
theorem dX5_dropLetter_12 : decode cX5_dropLetter 12 = .ok (.iload_n 2, 1) := by decide +kernel
theorem dX5_dropLetter_13 : decode cX5_dropLetter 13 = .ok (.aload_n 0, 1) := by decide +kernel
theorem dX5_dropLetter_14 : decode cX5_dropLetter 14 = .ok (.getfield 133, 3) := by decide +kernel
theorem dX5_dropLetter_17 : decode cX5_dropLetter 17 = .ok (.if_icmp .ge 65, 3) := by decide +kernel
theorem dX5_dropLetter_20 : decode cX5_dropLetter 20 = .ok (.aload_n 0, 1) := by decide +kernel
theorem dX5_dropLetter_21 : decode cX5_dropLetter 21 = .ok (.getfield 56, 3) := by decide +kernel
theorem dX5_dropLetter_24 : decode cX5_dropLetter 24 = .ok (.iload_n 2, 1) := by decide +kernel
theorem dX5_dropLetter_25 : decode cX5_dropLetter 25 = .ok (.aload_n 0, 1) := by decide +kernel
theorem dX5_dropLetter_26 : decode cX5_dropLetter 26 = .ok (.getfield 56, 3) := by decide +kernel
theorem dX5_dropLetter_29 : decode cX5_dropLetter 29 = .ok (.iload_n 2, 1) := by decide +kernel
theorem dX5_dropLetter_30 : decode cX5_dropLetter 30 = .ok (.iconst 1, 1) := by decide +kernel
theorem dX5_dropLetter_31 : decode cX5_dropLetter 31 = .ok (.iadd, 1) := by decide +kernel
theorem dX5_dropLetter_32 : decode cX5_dropLetter 32 = .ok (.iaload, 1) := by decide +kernel
theorem dX5_dropLetter_33 : decode cX5_dropLetter 33 = .ok (.iastore, 1) := by decide +kernel
theorem dX5_dropLetter_34 : decode cX5_dropLetter 34 = .ok (.aload_n 0, 1) := by decide +kernel
theorem dX5_dropLetter_35 : decode cX5_dropLetter 35 = .ok (.getfield 59, 3) := by decide +kernel
theorem dX5_dropLetter_38 : decode cX5_dropLetter 38 = .ok (.iload_n 2, 1) := by decide +kernel
theorem dX5_dropLetter_39 : decode cX5_dropLetter 39 = .ok (.aload_n 0, 1) := by decide +kernel
theorem dX5_dropLetter_40 : decode cX5_dropLetter 40 = .ok (.getfield 59, 3) := by decide +kernel
theorem dX5_dropLetter_43 : decode cX5_dropLetter 43 = .ok (.iload_n 2, 1) := by decide +kernel
theorem dX5_dropLetter_44 : decode cX5_dropLetter 44 = .ok (.iconst 1, 1) := by decide +kernel
theorem dX5_dropLetter_45 : decode cX5_dropLetter 45 = .ok (.iadd, 1) := by decide +kernel
theorem dX5_dropLetter_46 : decode cX5_dropLetter 46 = .ok (.iaload, 1) := by decide +kernel
theorem dX5_dropLetter_47 : decode cX5_dropLetter 47 = .ok (.iastore, 1) := by decide +kernel
theorem dX5_dropLetter_48 : decode cX5_dropLetter 48 = .ok (.aload_n 0, 1) := by decide +kernel
theorem dX5_dropLetter_49 : decode cX5_dropLetter 49 = .ok (.getfield 62, 3) := by decide +kernel
theorem dX5_dropLetter_52 : decode cX5_dropLetter 52 = .ok (.iload_n 2, 1) := by decide +kernel
theorem dX5_dropLetter_53 : decode cX5_dropLetter 53 = .ok (.aload_n 0, 1) := by decide +kernel
theorem dX5_dropLetter_54 : decode cX5_dropLetter 54 = .ok (.getfield 62, 3) := by decide +kernel
theorem dX5_dropLetter_57 : decode cX5_dropLetter 57 = .ok (.iload_n 2, 1) := by decide +kernel
theorem dX5_dropLetter_58 : decode cX5_dropLetter 58 = .ok (.iconst 1, 1) := by decide +kernel
theorem dX5_dropLetter_59 : decode cX5_dropLetter 59 = .ok (.iadd, 1) := by decide +kernel
theorem dX5_dropLetter_60 : decode cX5_dropLetter 60 = .ok (.iaload, 1) := by decide +kernel
theorem dX5_dropLetter_61 : decode cX5_dropLetter 61 = .ok (.iastore, 1) := by decide +kernel
theorem dX5_dropLetter_62 : decode cX5_dropLetter 62 = .ok (.aload_n 0, 1) := by decide +kernel
theorem dX5_dropLetter_63 : decode cX5_dropLetter 63 = .ok (.getfield 65, 3) := by decide +kernel
theorem dX5_dropLetter_66 : decode cX5_dropLetter 66 = .ok (.iload_n 2, 1) := by decide +kernel
theorem dX5_dropLetter_67 : decode cX5_dropLetter 67 = .ok (.aload_n 0, 1) := by decide +kernel
theorem dX5_dropLetter_68 : decode cX5_dropLetter 68 = .ok (.getfield 65, 3) := by decide +kernel
theorem dX5_dropLetter_71 : decode cX5_dropLetter 71 = .ok (.iload_n 2, 1) := by decide +kernel
theorem dX5_dropLetter_72 : decode cX5_dropLetter 72 = .ok (.iconst 1, 1) := by decide +kernel
theorem dX5_dropLetter_73 : decode cX5_dropLetter 73 = .ok (.iadd, 1) := by decide +kernel
theorem dX5_dropLetter_74 : decode cX5_dropLetter 74 = .ok (.iaload, 1) := by decide +kernel
theorem dX5_dropLetter_75 : decode cX5_dropLetter 75 = .ok (.iastore, 1) := by decide +kernel
theorem dX5_dropLetter_76 : decode cX5_dropLetter 76 = .ok (.iinc 2 1, 3) := by decide +kernel
theorem dX5_dropLetter_79 : decode cX5_dropLetter 79 = .ok (.goto (-67), 3) := by decide +kernel
theorem dX5_dropLetter_82 : decode cX5_dropLetter 82 = .ok (.return_, 1) := by decide +kernel
theorem dX5_dropCopy_0 : decode cX5_dropCopy 0 = .ok (.aload_n 0, 1) := by decide +kernel
theorem dX5_dropCopy_1 : decode cX5_dropCopy 1 = .ok (.dup, 1) := by decide +kernel
theorem dX5_dropCopy_2 : decode cX5_dropCopy 2 = .ok (.getfield 136, 3) := by decide +kernel
theorem dX5_dropCopy_5 : decode cX5_dropCopy 5 = .ok (.iconst 1, 1) := by decide +kernel
theorem dX5_dropCopy_6 : decode cX5_dropCopy 6 = .ok (.isub, 1) := by decide +kernel
theorem dX5_dropCopy_7 : decode cX5_dropCopy 7 = .ok (.putfield 136, 3) := by decide +kernel
theorem dX5_dropCopy_10 : decode cX5_dropCopy 10 = .ok (.iload_n 1, 1) := by decide +kernel
theorem dX5_dropCopy_11 : decode cX5_dropCopy 11 = .ok (.istore_n 2, 1) := by decide +kernel
theorem dX5_dropCopy_12 : decode cX5_dropCopy 12 = .ok (.iload_n 2, 1) := by decide +kernel
theorem dX5_dropCopy_13 : decode cX5_dropCopy 13 = .ok (.aload_n 0, 1) := by decide +kernel
theorem dX5_dropCopy_14 : decode cX5_dropCopy 14 = .ok (.getfield 136, 3) := by decide +kernel
theorem dX5_dropCopy_17 : decode cX5_dropCopy 17 = .ok (.if_icmp .ge 65, 3) := by decide +kernel
theorem dX5_dropCopy_20 : decode cX5_dropCopy 20 = .ok (.aload_n 0, 1) := by decide +kernel
theorem dX5_dropCopy_21 : decode cX5_dropCopy 21 = .ok (.getfield 68, 3) := by decide +kernel
theorem dX5_dropCopy_24 : decode cX5_dropCopy 24 = .ok (.iload_n 2, 1) := by decide +kernel
theorem dX5_dropCopy_25 : decode cX5_dropCopy 25 = .ok (.aload_n 0, 1) := by decide +kernel
theorem dX5_dropCopy_26 : decode cX5_dropCopy 26 = .ok (.getfield 68, 3) := by decide +kernel
theorem dX5_dropCopy_29 : decode cX5_dropCopy 29 = .ok (.iload_n 2, 1) := by decide +kernel
theorem dX5_dropCopy_30 : decode cX5_dropCopy 30 = .ok (.iconst 1, 1) := by decide +kernel
theorem dX5_dropCopy_31 : decode cX5_dropCopy 31 = .ok (.iadd, 1) := by decide +kernel
theorem dX5_dropCopy_32 : decode cX5_dropCopy 32 = .ok (.iaload, 1) := by decide +kernel
theorem dX5_dropCopy_33 : decode cX5_dropCopy 33 = .ok (.iastore, 1) := by decide +kernel
theorem dX5_dropCopy_34 : decode cX5_dropCopy 34 = .ok (.aload_n 0, 1) := by decide +kernel
theorem dX5_dropCopy_35 : decode cX5_dropCopy 35 = .ok (.getfield 71, 3) := by decide +kernel
theorem dX5_dropCopy_38 : decode cX5_dropCopy 38 = .ok (.iload_n 2, 1) := by decide +kernel
theorem dX5_dropCopy_39 : decode cX5_dropCopy 39 = .ok (.aload_n 0, 1) := by decide +kernel
theorem dX5_dropCopy_40 : decode cX5_dropCopy 40 = .ok (.getfield 71, 3) := by decide +kernel
theorem dX5_dropCopy_43 : decode cX5_dropCopy 43 = .ok (.iload_n 2, 1) := by decide +kernel
theorem dX5_dropCopy_44 : decode cX5_dropCopy 44 = .ok (.iconst 1, 1) := by decide +kernel
theorem dX5_dropCopy_45 : decode cX5_dropCopy 45 = .ok (.iadd, 1) := by decide +kernel
theorem dX5_dropCopy_46 : decode cX5_dropCopy 46 = .ok (.iaload, 1) := by decide +kernel
theorem dX5_dropCopy_47 : decode cX5_dropCopy 47 = .ok (.iastore, 1) := by decide +kernel
theorem dX5_dropCopy_48 : decode cX5_dropCopy 48 = .ok (.aload_n 0, 1) := by decide +kernel
theorem dX5_dropCopy_49 : decode cX5_dropCopy 49 = .ok (.getfield 74, 3) := by decide +kernel
theorem dX5_dropCopy_52 : decode cX5_dropCopy 52 = .ok (.iload_n 2, 1) := by decide +kernel
theorem dX5_dropCopy_53 : decode cX5_dropCopy 53 = .ok (.aload_n 0, 1) := by decide +kernel
theorem dX5_dropCopy_54 : decode cX5_dropCopy 54 = .ok (.getfield 74, 3) := by decide +kernel
theorem dX5_dropCopy_57 : decode cX5_dropCopy 57 = .ok (.iload_n 2, 1) := by decide +kernel
theorem dX5_dropCopy_58 : decode cX5_dropCopy 58 = .ok (.iconst 1, 1) := by decide +kernel
theorem dX5_dropCopy_59 : decode cX5_dropCopy 59 = .ok (.iadd, 1) := by decide +kernel
theorem dX5_dropCopy_60 : decode cX5_dropCopy 60 = .ok (.iaload, 1) := by decide +kernel
theorem dX5_dropCopy_61 : decode cX5_dropCopy 61 = .ok (.iastore, 1) := by decide +kernel
theorem dX5_dropCopy_62 : decode cX5_dropCopy 62 = .ok (.aload_n 0, 1) := by decide +kernel
theorem dX5_dropCopy_63 : decode cX5_dropCopy 63 = .ok (.getfield 77, 3) := by decide +kernel
theorem dX5_dropCopy_66 : decode cX5_dropCopy 66 = .ok (.iload_n 2, 1) := by decide +kernel
theorem dX5_dropCopy_67 : decode cX5_dropCopy 67 = .ok (.aload_n 0, 1) := by decide +kernel
theorem dX5_dropCopy_68 : decode cX5_dropCopy 68 = .ok (.getfield 77, 3) := by decide +kernel
theorem dX5_dropCopy_71 : decode cX5_dropCopy 71 = .ok (.iload_n 2, 1) := by decide +kernel
theorem dX5_dropCopy_72 : decode cX5_dropCopy 72 = .ok (.iconst 1, 1) := by decide +kernel
theorem dX5_dropCopy_73 : decode cX5_dropCopy 73 = .ok (.iadd, 1) := by decide +kernel
theorem dX5_dropCopy_74 : decode cX5_dropCopy 74 = .ok (.iaload, 1) := by decide +kernel
theorem dX5_dropCopy_75 : decode cX5_dropCopy 75 = .ok (.iastore, 1) := by decide +kernel
theorem dX5_dropCopy_76 : decode cX5_dropCopy 76 = .ok (.iinc 2 1, 3) := by decide +kernel
theorem dX5_dropCopy_79 : decode cX5_dropCopy 79 = .ok (.goto (-67), 3) := by decide +kernel
theorem dX5_dropCopy_82 : decode cX5_dropCopy 82 = .ok (.return_, 1) := by decide +kernel
set_option maxRecDepth 20000 in
theorem ggX5_want_X5_isUp : GoodIn wsX5_want wsX5_isUp := goodIn_r _ [8, 9, 10, 11, 12, 13, 7, 14, 15, 30, 31, 32, 33, 34, 35, 36, 37, 38, 39, 40, 41, 42, 43, 44, 45, 46, 47, 48, 49, 50, 51, 52, 53, 54, 55, 56, 57, 58, 59, 60, 61, 62] rfl (by decide +kernel)
set_option maxRecDepth 20000 in
theorem gX5_want_X5_isUp : GoodIn wsX5_want (wsV RX5 163 RX5 yX5_isUp wsX5_isUp) := goodIn_app (goodIn_of _ (by decide +kernel)) ggX5_want_X5_isUp
set_option maxRecDepth 20000 in
theorem ggX5_want_X5_placeOf : GoodIn wsX5_want wsX5_placeOf := goodIn_r _ [19, 3, 20, 21, 22, 23, 7, 24, 30, 31, 32, 33, 34, 35, 36, 37, 38, 39, 40, 41, 42, 43, 44, 45, 46, 47, 48, 49, 50, 51, 52, 53, 54, 55, 56, 57, 58, 59, 60, 61, 62] rfl (by decide +kernel)
set_option maxRecDepth 20000 in
theorem gX5_want_X5_placeOf : GoodIn wsX5_want (wsV RX5 142 RX5 yX5_placeOf wsX5_placeOf) := goodIn_app (goodIn_of _ (by decide +kernel)) ggX5_want_X5_placeOf
set_option maxRecDepth 20000 in
theorem ggX5_want_X5_come : GoodIn wsX5_want wsX5_come := goodIn_r _ [28, 3, 20, 29, 16, 17, 18, 7, 19, 21, 22, 23, 24, 30, 31, 32, 33, 34, 35, 36, 37, 38, 39, 40, 41, 42, 43, 44, 45, 46, 47, 48, 49, 50, 51, 52, 53, 54, 55, 56, 57, 58, 59, 60, 61, 62] rfl (by decide +kernel)
set_option maxRecDepth 20000 in
theorem gX5_want_X5_come : GoodIn wsX5_want (wsV RX5 166 RX5 yX5_come wsX5_come) := goodIn_app (goodIn_of _ (by decide +kernel)) ggX5_want_X5_come
theorem dX5_want_0 : decode cX5_want 0 = .ok (.aload_n 0, 1) := by decide +kernel
theorem dX5_want_1 : decode cX5_want 1 = .ok (.iload_n 1, 1) := by decide +kernel
theorem dX5_want_2 : decode cX5_want 2 = .ok (.invokevirtual 163, 3) := by decide +kernel
theorem dX5_want_5 : decode cX5_want 5 = .ok (.ifCond .eq 31, 3) := by decide +kernel
theorem dX5_want_8 : decode cX5_want 8 = .ok (.iload_n 2, 1) := by decide +kernel
theorem dX5_want_9 : decode cX5_want 9 = .ok (.ifCond .lt 27, 3) := by decide +kernel
theorem dX5_want_12 : decode cX5_want 12 = .ok (.iload_n 2, 1) := by decide +kernel
theorem dX5_want_13 : decode cX5_want 13 = .ok (.bipush 100, 2) := by decide +kernel
theorem dX5_want_15 : decode cX5_want 15 = .ok (.if_icmp .gt 21, 3) := by decide +kernel
theorem dX5_want_18 : decode cX5_want 18 = .ok (.aload_n 0, 1) := by decide +kernel
theorem dX5_want_19 : decode cX5_want 19 = .ok (.getfield 20, 3) := by decide +kernel
theorem dX5_want_22 : decode cX5_want 22 = .ok (.iload_n 1, 1) := by decide +kernel
theorem dX5_want_23 : decode cX5_want 23 = .ok (.baload, 1) := by decide +kernel
theorem dX5_want_24 : decode cX5_want 24 = .ok (.ifCond .ne 12, 3) := by decide +kernel
theorem dX5_want_27 : decode cX5_want 27 = .ok (.aload_n 0, 1) := by decide +kernel
theorem dX5_want_28 : decode cX5_want 28 = .ok (.iload_n 1, 1) := by decide +kernel
theorem dX5_want_29 : decode cX5_want 29 = .ok (.iload_n 1, 1) := by decide +kernel
theorem dX5_want_30 : decode cX5_want 30 = .ok (.invokevirtual 142, 3) := by decide +kernel
theorem dX5_want_33 : decode cX5_want 33 = .ok (.ifCond .lt 5, 3) := by decide +kernel
theorem dX5_want_36 : decode cX5_want 36 = .ok (.iconst (-1), 1) := by decide +kernel
theorem dX5_want_37 : decode cX5_want 37 = .ok (.ireturn, 1) := by decide +kernel
theorem dX5_want_38 : decode cX5_want 38 = .ok (.aload_n 0, 1) := by decide +kernel
theorem dX5_want_39 : decode cX5_want 39 = .ok (.iload_n 1, 1) := by decide +kernel
theorem dX5_want_40 : decode cX5_want 40 = .ok (.iload_n 1, 1) := by decide +kernel
theorem dX5_want_41 : decode cX5_want 41 = .ok (.iload_n 2, 1) := by decide +kernel
theorem dX5_want_42 : decode cX5_want 42 = .ok (.invokevirtual 166, 3) := by decide +kernel
theorem dX5_want_45 : decode cX5_want 45 = .ok (.aload_n 0, 1) := by decide +kernel
theorem dX5_want_46 : decode cX5_want 46 = .ok (.getfield 35, 3) := by decide +kernel
theorem dX5_want_49 : decode cX5_want 49 = .ok (.iload_n 1, 1) := by decide +kernel
theorem dX5_want_50 : decode cX5_want 50 = .ok (.iconst 0, 1) := by decide +kernel
theorem dX5_want_51 : decode cX5_want 51 = .ok (.iastore, 1) := by decide +kernel
theorem dX5_want_52 : decode cX5_want 52 = .ok (.aload_n 0, 1) := by decide +kernel
theorem dX5_want_53 : decode cX5_want 53 = .ok (.getfield 41, 3) := by decide +kernel
theorem dX5_want_56 : decode cX5_want 56 = .ok (.iload_n 1, 1) := by decide +kernel
theorem dX5_want_57 : decode cX5_want 57 = .ok (.iaload, 1) := by decide +kernel
theorem dX5_want_58 : decode cX5_want 58 = .ok (.ireturn, 1) := by decide +kernel
set_option maxRecDepth 20000 in
theorem ggX5_begin_X5_isUp : GoodIn wsX5_begin wsX5_isUp := goodIn_r _ [14, 15, 16, 17, 18, 19, 13, 20, 8, 40, 41, 42, 43, 44, 45, 46, 47, 48, 49, 50, 51, 52, 53, 54, 55, 56, 57, 58, 59, 60, 61, 62, 63, 64, 65, 66, 67, 68, 69, 70, 71, 72] rfl (by decide +kernel)
set_option maxRecDepth 20000 in
theorem gX5_begin_X5_isUp : GoodIn wsX5_begin (wsV RX5 163 RX5 yX5_isUp wsX5_isUp) := goodIn_app (goodIn_of _ (by decide +kernel)) ggX5_begin_X5_isUp
set_option maxRecDepth 20000 in
theorem ggX5_begin_X5_firstOf : GoodIn wsX5_begin wsX5_firstOf := goodIn_r _ [24, 25, 6, 26, 3, 27, 28, 29, 30, 13, 31, 4, 32, 33, 34, 35, 40, 41, 42, 43, 44, 45, 46, 47, 48, 49, 50, 51, 52, 53, 54, 55, 56, 57, 58, 59, 60, 61, 62, 63, 64, 65, 66, 67, 68, 69, 70, 71, 72] rfl (by decide +kernel)
set_option maxRecDepth 20000 in
theorem gX5_begin_X5_firstOf : GoodIn wsX5_begin (wsV RX5 169 RX5 yX5_firstOf wsX5_firstOf) := goodIn_app (goodIn_of _ (by decide +kernel)) ggX5_begin_X5_firstOf
set_option maxRecDepth 20000 in
theorem ggX5_begin_X5_entry : GoodIn wsX5_begin wsX5_entry := goodIn_r _ [35] rfl (by decide +kernel)
set_option maxRecDepth 20000 in
theorem gX5_begin_X5_entry : GoodIn wsX5_begin (wsV RX5 139 RX5 yX5_entry wsX5_entry) := goodIn_app (goodIn_of _ (by decide +kernel)) ggX5_begin_X5_entry
set_option maxRecDepth 20000 in
theorem ggX5_begin_X5_placeOf : GoodIn wsX5_begin wsX5_placeOf := goodIn_r _ [31, 3, 4, 32, 33, 34, 13, 35, 40, 41, 42, 43, 44, 45, 46, 47, 48, 49, 50, 51, 52, 53, 54, 55, 56, 57, 58, 59, 60, 61, 62, 63, 64, 65, 66, 67, 68, 69, 70, 71, 72] rfl (by decide +kernel)
set_option maxRecDepth 20000 in
theorem gX5_begin_X5_placeOf : GoodIn wsX5_begin (wsV RX5 142 RX5 yX5_placeOf wsX5_placeOf) := goodIn_app (goodIn_of _ (by decide +kernel)) ggX5_begin_X5_placeOf
set_option maxRecDepth 20000 in
theorem ggX5_begin_X5_leave : GoodIn wsX5_begin wsX5_leave := goodIn_r _ [39, 3, 4, 27, 32, 33, 34, 13, 35, 40, 41, 42, 43, 44, 45, 46, 47, 48, 49, 50, 51, 52, 53, 54, 55, 56, 57, 58, 59, 60, 61, 62, 63, 64, 65, 66, 67, 68, 69, 70, 71, 72] rfl (by decide +kernel)
set_option maxRecDepth 20000 in
theorem gX5_begin_X5_leave : GoodIn wsX5_begin (wsV RX5 172 RX5 yX5_leave wsX5_leave) := goodIn_app (goodIn_of _ (by decide +kernel)) ggX5_begin_X5_leave
