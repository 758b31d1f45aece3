/-! ===== the words of all methods in the tables, by their places ===== -/
theorem wx_0 : ∀ w ∈ wsX00, w ∈ lw_tbl := by decide +kernel
theorem wx_1 : ∀ w ∈ wsX10, w ∈ lw_tbl := by decide +kernel
theorem wx_2 : ∀ w ∈ wsX20, w ∈ lw_tbl := by decide +kernel
theorem wx_3 : ∀ w ∈ wsX30, w ∈ lw_tbl := by decide +kernel
theorem wx_4 : ∀ w ∈ wsX40, w ∈ lw_tbl := by decide +kernel
theorem wx_5 : ∀ w ∈ wsX50, w ∈ lw_tbl := by decide +kernel
set_option maxRecDepth 20000 in
theorem mw_0 : Cond.code yX4_init cX4_init 2 none ∈ lw_tbl := List.mem_of_getElem? (i := 55) rfl
set_option maxRecDepth 20000 in
theorem mw_1 : Cond.fieldLink RX0 9 "PumpHouse$Canals" "neighbours" "[I" ∈ lw_tbl := List.mem_of_getElem? (i := 65) rfl
set_option maxRecDepth 20000 in
theorem mw_2 : Cond.methodLink RX0 3 objectInit ∈ lw_tbl := List.mem_of_getElem? (i := 64) rfl
set_option maxRecDepth 20000 in
theorem mw_3 : Cond.code yX0_init cX0_init 1 none ∈ lw_tbl := List.mem_of_getElem? (i := 63) rfl
set_option maxRecDepth 20000 in
theorem mw_4 : Cond.instanceMethod yX0_init ∈ lw_tbl := List.mem_of_getElem? (i := 62) rfl
set_option maxRecDepth 20000 in
theorem mw_5 : Cond.initialized RX3 ∈ lw_tbl := List.mem_of_getElem? (i := 44) rfl
set_option maxRecDepth 20000 in
theorem mw_6 : Cond.instantiable RX3 12 ∈ lw_tbl := List.mem_of_getElem? (i := 113) rfl
set_option maxRecDepth 20000 in
theorem mw_7 : Cond.fieldLink RX4 39 "PumpHouse" "nextTaken" "[[I" ∈ lw_tbl := List.mem_of_getElem? (i := 248) rfl
set_option maxRecDepth 20000 in
theorem mw_8 : Cond.fieldLink RX4 36 "PumpHouse" "nextSent" "[[I" ∈ lw_tbl := List.mem_of_getElem? (i := 247) rfl
set_option maxRecDepth 20000 in
theorem mw_9 : Cond.arrayClass .int ∈ lw_tbl := List.mem_of_getElem? (i := 77) rfl
set_option maxRecDepth 20000 in
theorem mw_10 : Cond.classLink RX4 34 "[[I" ∈ lw_tbl := List.mem_of_getElem? (i := 111) rfl
set_option maxRecDepth 20000 in
theorem mw_11 : Cond.fieldLink RX4 31 "PumpHouse" "pool" "LPumpHouse$Letters;" ∈ lw_tbl := List.mem_of_getElem? (i := 246) rfl
set_option maxRecDepth 20000 in
theorem mw_12 : Cond.fieldLink RX4 27 "PumpHouse" "outboxes" "LPumpHouse$Letters;" ∈ lw_tbl := List.mem_of_getElem? (i := 245) rfl
set_option maxRecDepth 20000 in
theorem mw_13 : Cond.initialized RX1 ∈ lw_tbl := List.mem_of_getElem? (i := 43) rfl
set_option maxRecDepth 20000 in
theorem mw_14 : Cond.instantiable RX1 6 ∈ lw_tbl := List.mem_of_getElem? (i := 81) rfl
set_option maxRecDepth 20000 in
theorem mw_15 : Cond.classLink RX4 22 RX1 ∈ lw_tbl := List.mem_of_getElem? (i := 80) rfl
set_option maxRecDepth 20000 in
theorem mw_16 : Cond.fieldLink RX4 18 "PumpHouse" "stations" "[LPumpHouse$Station;" ∈ lw_tbl := List.mem_of_getElem? (i := 244) rfl
set_option maxRecDepth 20000 in
theorem mw_17 : Cond.classLink RX4 16 RX3 ∈ lw_tbl := List.mem_of_getElem? (i := 78) rfl
set_option maxRecDepth 20000 in
theorem mw_18 : Cond.fieldLink RX4 10 "PumpHouse" "canals" "LPumpHouse$Canals;" ∈ lw_tbl := List.mem_of_getElem? (i := 243) rfl
set_option maxRecDepth 20000 in
theorem mw_19 : Cond.initialized RX0 ∈ lw_tbl := List.mem_of_getElem? (i := 42) rfl
set_option maxRecDepth 20000 in
theorem mw_20 : Cond.instantiable RX0 3 ∈ lw_tbl := List.mem_of_getElem? (i := 60) rfl
set_option maxRecDepth 20000 in
theorem mw_21 : Cond.classLink RX4 7 RX0 ∈ lw_tbl := List.mem_of_getElem? (i := 59) rfl
set_option maxRecDepth 20000 in
theorem mw_22 : Cond.code objectInit ⟨#[0xb1]⟩ 1 none ∈ lw_tbl := List.mem_of_getElem? (i := 58) rfl
set_option maxRecDepth 20000 in
theorem mw_23 : Cond.instanceMethod objectInit ∈ lw_tbl := List.mem_of_getElem? (i := 57) rfl
set_option maxRecDepth 20000 in
theorem mw_24 : Cond.methodLink RX4 1 objectInit ∈ lw_tbl := List.mem_of_getElem? (i := 56) rfl
set_option maxRecDepth 20000 in
theorem mw_25 : Cond.methodLink RX4 43 yX4_canal ∈ lw_tbl := List.mem_of_getElem? (i := 187) rfl
set_option maxRecDepth 20000 in
theorem mw_26 : Cond.fieldLink RX2 15 "PumpHouse$Line" "ranks" "[I" ∈ lw_tbl := List.mem_of_getElem? (i := 126) rfl
set_option maxRecDepth 20000 in
theorem mw_27 : Cond.fieldLink RX2 9 "PumpHouse$Line" "who" "[I" ∈ lw_tbl := List.mem_of_getElem? (i := 124) rfl
set_option maxRecDepth 20000 in
theorem mw_28 : Cond.methodLink RX2 3 objectInit ∈ lw_tbl := List.mem_of_getElem? (i := 123) rfl
set_option maxRecDepth 20000 in
theorem mw_29 : Cond.code yX2_init cX2_init 1 none ∈ lw_tbl := List.mem_of_getElem? (i := 122) rfl
set_option maxRecDepth 20000 in
theorem mw_30 : Cond.instanceMethod yX2_init ∈ lw_tbl := List.mem_of_getElem? (i := 121) rfl
set_option maxRecDepth 20000 in
theorem mw_31 : Cond.fieldLink RX3 18 "PumpHouse$Station" "self" "I" ∈ lw_tbl := List.mem_of_getElem? (i := 138) rfl
set_option maxRecDepth 20000 in
theorem mw_32 : Cond.fieldLink RX3 12 "PumpHouse$Station" "line" "LPumpHouse$Line;" ∈ lw_tbl := List.mem_of_getElem? (i := 140) rfl
set_option maxRecDepth 20000 in
theorem mw_33 : Cond.initialized RX2 ∈ lw_tbl := List.mem_of_getElem? (i := 45) rfl
set_option maxRecDepth 20000 in
theorem mw_34 : Cond.instantiable RX2 3 ∈ lw_tbl := List.mem_of_getElem? (i := 119) rfl
set_option maxRecDepth 20000 in
theorem mw_35 : Cond.classLink RX3 9 RX2 ∈ lw_tbl := List.mem_of_getElem? (i := 118) rfl
set_option maxRecDepth 20000 in
theorem mw_36 : Cond.methodLink RX3 3 objectInit ∈ lw_tbl := List.mem_of_getElem? (i := 117) rfl
set_option maxRecDepth 20000 in
theorem mw_37 : Cond.code yX3_init cX3_init 2 none ∈ lw_tbl := List.mem_of_getElem? (i := 116) rfl
set_option maxRecDepth 20000 in
theorem mw_38 : Cond.instanceMethod yX3_init ∈ lw_tbl := List.mem_of_getElem? (i := 115) rfl
set_option maxRecDepth 20000 in
theorem mw_39 : Cond.methodLink RX4 42 yX3_init ∈ lw_tbl := List.mem_of_getElem? (i := 114) rfl
set_option maxRecDepth 20000 in
theorem mw_40 : Cond.fieldLink RX1 24 "PumpHouse$Letters" "ranks" "[I" ∈ lw_tbl := List.mem_of_getElem? (i := 94) rfl
set_option maxRecDepth 20000 in
theorem mw_41 : Cond.fieldLink RX1 21 "PumpHouse$Letters" "numbers" "[I" ∈ lw_tbl := List.mem_of_getElem? (i := 92) rfl
set_option maxRecDepth 20000 in
theorem mw_42 : Cond.fieldLink RX1 18 "PumpHouse$Letters" "receivers" "[I" ∈ lw_tbl := List.mem_of_getElem? (i := 90) rfl
set_option maxRecDepth 20000 in
theorem mw_43 : Cond.fieldLink RX1 15 "PumpHouse$Letters" "senders" "[I" ∈ lw_tbl := List.mem_of_getElem? (i := 88) rfl
set_option maxRecDepth 20000 in
theorem mw_44 : Cond.fieldLink RX1 9 "PumpHouse$Letters" "kinds" "[I" ∈ lw_tbl := List.mem_of_getElem? (i := 86) rfl
set_option maxRecDepth 20000 in
theorem mw_45 : Cond.methodLink RX1 3 objectInit ∈ lw_tbl := List.mem_of_getElem? (i := 85) rfl
set_option maxRecDepth 20000 in
theorem mw_46 : Cond.code yX1_init cX1_init 2 none ∈ lw_tbl := List.mem_of_getElem? (i := 84) rfl
set_option maxRecDepth 20000 in
theorem mw_47 : Cond.instanceMethod yX1_init ∈ lw_tbl := List.mem_of_getElem? (i := 83) rfl
set_option maxRecDepth 20000 in
theorem mw_48 : Cond.methodLink RX4 24 yX1_init ∈ lw_tbl := List.mem_of_getElem? (i := 82) rfl
set_option maxRecDepth 20000 in
theorem mw_49 : Cond.code yX0_has cX0_has 2 (some .boolean) ∈ lw_tbl := List.mem_of_getElem? (i := 205) rfl
set_option maxRecDepth 20000 in
theorem mw_50 : Cond.selects RX0 yX0_has yX0_has ∈ lw_tbl := List.mem_of_getElem? (i := 204) rfl
set_option maxRecDepth 20000 in
theorem mw_51 : Cond.instanceMethod yX0_has ∈ lw_tbl := List.mem_of_getElem? (i := 203) rfl
set_option maxRecDepth 20000 in
theorem mw_52 : Cond.methodLink RX4 62 yX0_has ∈ lw_tbl := List.mem_of_getElem? (i := 202) rfl
set_option maxRecDepth 20000 in
theorem mw_53 : Cond.fieldLink RX4 77 "PumpHouse$Canals" "links" "I" ∈ lw_tbl := List.mem_of_getElem? (i := 69) rfl
set_option maxRecDepth 20000 in
theorem mw_54 : Cond.code yX4_link cX4_link 3 (some .int) ∈ lw_tbl := List.mem_of_getElem? (i := 201) rfl
set_option maxRecDepth 20000 in
theorem mw_55 : Cond.selects RX4 yX4_link yX4_link ∈ lw_tbl := List.mem_of_getElem? (i := 200) rfl
set_option maxRecDepth 20000 in
theorem mw_56 : Cond.instanceMethod yX4_link ∈ lw_tbl := List.mem_of_getElem? (i := 199) rfl
set_option maxRecDepth 20000 in
theorem mw_57 : Cond.methodLink RX4 47 yX4_link ∈ lw_tbl := List.mem_of_getElem? (i := 198) rfl
set_option maxRecDepth 20000 in
theorem mw_58 : Cond.code yJ7_fill_53178 cJ7_fill_53178 4 none ∈ lw_tbl := List.mem_of_getElem? (i := 197) rfl
set_option maxRecDepth 20000 in
theorem mw_59 : Cond.initialized RJ7 ∈ lw_tbl := List.mem_of_getElem? (i := 46) rfl
set_option maxRecDepth 20000 in
theorem mw_60 : Cond.static yJ7_fill_53178 ∈ lw_tbl := List.mem_of_getElem? (i := 196) rfl
set_option maxRecDepth 20000 in
theorem mw_61 : Cond.methodLink RX0 15 yJ7_fill_53178 ∈ lw_tbl := List.mem_of_getElem? (i := 195) rfl
set_option maxRecDepth 20000 in
theorem mw_62 : Cond.fieldLink RX0 25 "PumpHouse$Canals" "links" "I" ∈ lw_tbl := List.mem_of_getElem? (i := 68) rfl
set_option maxRecDepth 20000 in
theorem mw_63 : Cond.fieldLink RX0 21 "PumpHouse$Canals" "stations" "I" ∈ lw_tbl := List.mem_of_getElem? (i := 66) rfl
set_option maxRecDepth 20000 in
theorem mw_64 : Cond.code yX0_clear cX0_clear 2 none ∈ lw_tbl := List.mem_of_getElem? (i := 194) rfl
set_option maxRecDepth 20000 in
theorem mw_65 : Cond.selects RX0 yX0_clear yX0_clear ∈ lw_tbl := List.mem_of_getElem? (i := 193) rfl
set_option maxRecDepth 20000 in
theorem mw_66 : Cond.instanceMethod yX0_clear ∈ lw_tbl := List.mem_of_getElem? (i := 192) rfl
set_option maxRecDepth 20000 in
theorem mw_67 : Cond.methodLink RX4 59 yX0_clear ∈ lw_tbl := List.mem_of_getElem? (i := 191) rfl
set_option maxRecDepth 20000 in
theorem mw_68 : Cond.fieldLink RX4 55 "PumpHouse" "opened" "Z" ∈ lw_tbl := List.mem_of_getElem? (i := 249) rfl
set_option maxRecDepth 20000 in
theorem mw_69 : Cond.code yX4_canal cX4_canal 2 (some .int) ∈ lw_tbl := List.mem_of_getElem? (i := 190) rfl
set_option maxRecDepth 20000 in
theorem mw_70 : Cond.initialized RX4 ∈ lw_tbl := List.mem_of_getElem? (i := 41) rfl
set_option maxRecDepth 20000 in
theorem mw_71 : Cond.selects RX4 yX4_canal yX4_canal ∈ lw_tbl := List.mem_of_getElem? (i := 189) rfl
set_option maxRecDepth 20000 in
theorem mw_72 : Cond.instanceMethod yX4_canal ∈ lw_tbl := List.mem_of_getElem? (i := 188) rfl
set_option maxRecDepth 20000 in
theorem mw_73 : Cond.methodLink RX4 97 yX3_clear ∈ lw_tbl := List.mem_of_getElem? (i := 226) rfl
set_option maxRecDepth 20000 in
theorem mw_74 : Cond.code yX0_parts cX0_parts 1 (some .int) ∈ lw_tbl := List.mem_of_getElem? (i := 225) rfl
set_option maxRecDepth 20000 in
theorem mw_75 : Cond.selects RX0 yX0_parts yX0_parts ∈ lw_tbl := List.mem_of_getElem? (i := 224) rfl
set_option maxRecDepth 20000 in
theorem mw_76 : Cond.instanceMethod yX0_parts ∈ lw_tbl := List.mem_of_getElem? (i := 223) rfl
set_option maxRecDepth 20000 in
theorem mw_77 : Cond.methodLink RX4 81 yX0_parts ∈ lw_tbl := List.mem_of_getElem? (i := 222) rfl
set_option maxRecDepth 20000 in
theorem mw_78 : Cond.fieldLink RX4 94 "PumpHouse$Letters" "size" "I" ∈ lw_tbl := List.mem_of_getElem? (i := 97) rfl
set_option maxRecDepth 20000 in
theorem mw_79 : Cond.fieldLink RX4 91 "PumpHouse" "begun" "I" ∈ lw_tbl := List.mem_of_getElem? (i := 252) rfl
set_option maxRecDepth 20000 in
theorem mw_80 : Cond.fieldLink RX4 88 "PumpHouse" "greed" "I" ∈ lw_tbl := List.mem_of_getElem? (i := 251) rfl
set_option maxRecDepth 20000 in
theorem mw_81 : Cond.fieldLink RX4 85 "PumpHouse" "rule" "I" ∈ lw_tbl := List.mem_of_getElem? (i := 250) rfl
set_option maxRecDepth 20000 in
theorem mw_82 : Cond.code yX4_open cX4_open 5 (some .int) ∈ lw_tbl := List.mem_of_getElem? (i := 221) rfl
set_option maxRecDepth 20000 in
theorem mw_83 : Cond.selects RX4 yX4_open yX4_open ∈ lw_tbl := List.mem_of_getElem? (i := 220) rfl
set_option maxRecDepth 20000 in
theorem mw_84 : Cond.instanceMethod yX4_open ∈ lw_tbl := List.mem_of_getElem? (i := 219) rfl
set_option maxRecDepth 20000 in
theorem mw_85 : Cond.methodLink RX4 51 yX4_open ∈ lw_tbl := List.mem_of_getElem? (i := 218) rfl
set_option maxRecDepth 20000 in
theorem mw_86 : Cond.code yX0_tie cX0_tie 3 none ∈ lw_tbl := List.mem_of_getElem? (i := 217) rfl
set_option maxRecDepth 20000 in
theorem mw_87 : Cond.selects RX0 yX0_tie yX0_tie ∈ lw_tbl := List.mem_of_getElem? (i := 216) rfl
set_option maxRecDepth 20000 in
theorem mw_88 : Cond.instanceMethod yX0_tie ∈ lw_tbl := List.mem_of_getElem? (i := 215) rfl
set_option maxRecDepth 20000 in
theorem mw_89 : Cond.methodLink RX4 73 yX0_tie ∈ lw_tbl := List.mem_of_getElem? (i := 214) rfl
set_option maxRecDepth 20000 in
theorem mw_90 : Cond.methodLink RX4 69 yX4_contains ∈ lw_tbl := List.mem_of_getElem? (i := 213) rfl
set_option maxRecDepth 20000 in
theorem mw_91 : Cond.code yX4_contains cX4_contains 2 (some .boolean) ∈ lw_tbl := List.mem_of_getElem? (i := 212) rfl
set_option maxRecDepth 20000 in
theorem mw_92 : Cond.static yX4_contains ∈ lw_tbl := List.mem_of_getElem? (i := 211) rfl
set_option maxRecDepth 20000 in
theorem mw_93 : Cond.code yX0_partOf cX0_partOf 5 (some .int) ∈ lw_tbl := List.mem_of_getElem? (i := 209) rfl
set_option maxRecDepth 20000 in
theorem mw_94 : Cond.selects RX0 yX0_partOf yX0_partOf ∈ lw_tbl := List.mem_of_getElem? (i := 208) rfl
set_option maxRecDepth 20000 in
theorem mw_95 : Cond.instanceMethod yX0_partOf ∈ lw_tbl := List.mem_of_getElem? (i := 207) rfl
set_option maxRecDepth 20000 in
theorem mw_96 : Cond.methodLink RX4 66 yX0_partOf ∈ lw_tbl := List.mem_of_getElem? (i := 206) rfl
set_option maxRecDepth 20000 in
theorem mw_97 : Cond.selects RX4 yX4_pointNeighboursTo yX4_pointNeighboursTo ∈ lw_tbl := List.mem_of_getElem? (i := 1) rfl
set_option maxRecDepth 20000 in
theorem mw_98 : Cond.instanceMethod yX4_pointNeighboursTo ∈ lw_tbl := List.mem_of_getElem? (i := 237) rfl
set_option maxRecDepth 20000 in
theorem mw_99 : Cond.methodLink RX4 271 yX4_pointNeighboursTo ∈ lw_tbl := List.mem_of_getElem? (i := 235) rfl
set_option maxRecDepth 20000 in
theorem mw_100 : Cond.fieldLink RX4 229 "PumpHouse$Canals" "stations" "I" ∈ lw_tbl := List.mem_of_getElem? (i := 67) rfl
set_option maxRecDepth 20000 in
theorem mw_101 : Cond.fieldLink RX4 258 "PumpHouse$Station" "pointer" "I" ∈ lw_tbl := List.mem_of_getElem? (i := 143) rfl
set_option maxRecDepth 20000 in
theorem mw_102 : Cond.code yX4_pointAllTo cX4_pointAllTo 4 none ∈ lw_tbl := List.mem_of_getElem? (i := 234) rfl
set_option maxRecDepth 20000 in
theorem mw_103 : Cond.selects RX4 yX4_pointAllTo yX4_pointAllTo ∈ lw_tbl := List.mem_of_getElem? (i := 0) rfl
set_option maxRecDepth 20000 in
theorem mw_104 : Cond.instanceMethod yX4_pointAllTo ∈ lw_tbl := List.mem_of_getElem? (i := 233) rfl
set_option maxRecDepth 20000 in
theorem mw_105 : Cond.methodLink RX4 105 yX4_pointAllTo ∈ lw_tbl := List.mem_of_getElem? (i := 231) rfl
set_option maxRecDepth 20000 in
theorem mw_106 : Cond.methodLink RX4 99 yJ7_fill_53178 ∈ lw_tbl := List.mem_of_getElem? (i := 230) rfl
set_option maxRecDepth 20000 in
theorem mw_107 : Cond.fieldLink RX3 53 "PumpHouse$Station" "overtook" "I" ∈ lw_tbl := List.mem_of_getElem? (i := 160) rfl
set_option maxRecDepth 20000 in
theorem mw_108 : Cond.fieldLink RX3 50 "PumpHouse$Station" "othersBegan" "I" ∈ lw_tbl := List.mem_of_getElem? (i := 158) rfl
set_option maxRecDepth 20000 in
theorem mw_109 : Cond.fieldLink RX3 47 "PumpHouse$Station" "everWanted" "Z" ∈ lw_tbl := List.mem_of_getElem? (i := 156) rfl
set_option maxRecDepth 20000 in
theorem mw_110 : Cond.fieldLink RX3 44 "PumpHouse$Station" "pumped" "I" ∈ lw_tbl := List.mem_of_getElem? (i := 154) rfl
set_option maxRecDepth 20000 in
theorem mw_111 : Cond.fieldLink RX3 41 "PumpHouse$Station" "row" "I" ∈ lw_tbl := List.mem_of_getElem? (i := 152) rfl
set_option maxRecDepth 20000 in
theorem mw_112 : Cond.fieldLink RX3 38 "PumpHouse$Station" "down" "Z" ∈ lw_tbl := List.mem_of_getElem? (i := 150) rfl
set_option maxRecDepth 20000 in
theorem mw_113 : Cond.fieldLink RX3 35 "PumpHouse$Station" "pumps" "Z" ∈ lw_tbl := List.mem_of_getElem? (i := 148) rfl
set_option maxRecDepth 20000 in
theorem mw_114 : Cond.fieldLink RX3 32 "PumpHouse$Station" "lastAskRank" "I" ∈ lw_tbl := List.mem_of_getElem? (i := 146) rfl
set_option maxRecDepth 20000 in
theorem mw_115 : Cond.fieldLink RX3 28 "PumpHouse$Station" "asked" "Z" ∈ lw_tbl := List.mem_of_getElem? (i := 144) rfl
set_option maxRecDepth 20000 in
theorem mw_116 : Cond.fieldLink RX3 25 "PumpHouse$Station" "pointer" "I" ∈ lw_tbl := List.mem_of_getElem? (i := 142) rfl
set_option maxRecDepth 20000 in
theorem mw_117 : Cond.fieldLink RX3 22 "PumpHouse$Line" "length" "I" ∈ lw_tbl := List.mem_of_getElem? (i := 129) rfl
set_option maxRecDepth 20000 in
theorem mw_118 : Cond.code yX3_clear cX3_clear 1 none ∈ lw_tbl := List.mem_of_getElem? (i := 229) rfl
set_option maxRecDepth 20000 in
theorem mw_119 : Cond.selects RX3 yX3_clear yX3_clear ∈ lw_tbl := List.mem_of_getElem? (i := 228) rfl
set_option maxRecDepth 20000 in
theorem mw_120 : Cond.instanceMethod yX3_clear ∈ lw_tbl := List.mem_of_getElem? (i := 227) rfl
set_option maxRecDepth 20000 in
theorem mw_121 : Cond.code yX0_linked cX0_linked 3 (some .boolean) ∈ lw_tbl := List.mem_of_getElem? (i := 242) rfl
set_option maxRecDepth 20000 in
theorem mw_122 : Cond.selects RX0 yX0_linked yX0_linked ∈ lw_tbl := List.mem_of_getElem? (i := 241) rfl
set_option maxRecDepth 20000 in
theorem mw_123 : Cond.instanceMethod yX0_linked ∈ lw_tbl := List.mem_of_getElem? (i := 240) rfl
set_option maxRecDepth 20000 in
theorem mw_124 : Cond.methodLink RX4 234 yX0_linked ∈ lw_tbl := List.mem_of_getElem? (i := 239) rfl
set_option maxRecDepth 20000 in
theorem mw_125 : Cond.code yX4_pointNeighboursTo cX4_pointNeighboursTo 3 none ∈ lw_tbl := List.mem_of_getElem? (i := 238) rfl
set_option maxRecDepth 20000 in
theorem mw_126 : Cond.code yX5_init cX5_init 1 none ∈ lw_tbl := List.mem_of_getElem? (i := 530) rfl
set_option maxRecDepth 20000 in
theorem mw_127 : Cond.fieldLink RX5 65 "PumpHouseModel" "numbers" "[I" ∈ lw_tbl := List.mem_of_getElem? (i := 585) rfl
set_option maxRecDepth 20000 in
theorem mw_128 : Cond.fieldLink RX5 62 "PumpHouseModel" "letterRanks" "[I" ∈ lw_tbl := List.mem_of_getElem? (i := 584) rfl
set_option maxRecDepth 20000 in
theorem mw_129 : Cond.fieldLink RX5 59 "PumpHouseModel" "kinds" "[I" ∈ lw_tbl := List.mem_of_getElem? (i := 583) rfl
set_option maxRecDepth 20000 in
theorem mw_130 : Cond.fieldLink RX5 56 "PumpHouseModel" "ways" "[I" ∈ lw_tbl := List.mem_of_getElem? (i := 582) rfl
set_option maxRecDepth 20000 in
theorem mw_131 : Cond.fieldLink RX5 53 "PumpHouseModel" "taken" "[I" ∈ lw_tbl := List.mem_of_getElem? (i := 580) rfl
set_option maxRecDepth 20000 in
theorem mw_132 : Cond.fieldLink RX5 50 "PumpHouseModel" "written" "[I" ∈ lw_tbl := List.mem_of_getElem? (i := 579) rfl
set_option maxRecDepth 20000 in
theorem mw_133 : Cond.fieldLink RX5 47 "PumpHouseModel" "ranks" "[I" ∈ lw_tbl := List.mem_of_getElem? (i := 578) rfl
set_option maxRecDepth 20000 in
theorem mw_134 : Cond.fieldLink RX5 44 "PumpHouseModel" "who" "[I" ∈ lw_tbl := List.mem_of_getElem? (i := 577) rfl
set_option maxRecDepth 20000 in
theorem mw_135 : Cond.fieldLink RX5 41 "PumpHouseModel" "lengths" "[I" ∈ lw_tbl := List.mem_of_getElem? (i := 576) rfl
set_option maxRecDepth 20000 in
theorem mw_136 : Cond.fieldLink RX5 38 "PumpHouseModel" "overtook" "[I" ∈ lw_tbl := List.mem_of_getElem? (i := 574) rfl
set_option maxRecDepth 20000 in
theorem mw_137 : Cond.fieldLink RX5 35 "PumpHouseModel" "others" "[I" ∈ lw_tbl := List.mem_of_getElem? (i := 573) rfl
set_option maxRecDepth 20000 in
theorem mw_138 : Cond.fieldLink RX5 32 "PumpHouseModel" "pumped" "[I" ∈ lw_tbl := List.mem_of_getElem? (i := 572) rfl
set_option maxRecDepth 20000 in
theorem mw_139 : Cond.fieldLink RX5 29 "PumpHouseModel" "lastRank" "[I" ∈ lw_tbl := List.mem_of_getElem? (i := 571) rfl
set_option maxRecDepth 20000 in
theorem mw_140 : Cond.fieldLink RX5 26 "PumpHouseModel" "rows" "[I" ∈ lw_tbl := List.mem_of_getElem? (i := 570) rfl
set_option maxRecDepth 20000 in
theorem mw_141 : Cond.fieldLink RX5 23 "PumpHouseModel" "down" "[Z" ∈ lw_tbl := List.mem_of_getElem? (i := 569) rfl
set_option maxRecDepth 20000 in
theorem mw_142 : Cond.fieldLink RX5 20 "PumpHouseModel" "pumps" "[Z" ∈ lw_tbl := List.mem_of_getElem? (i := 568) rfl
set_option maxRecDepth 20000 in
theorem mw_143 : Cond.fieldLink RX5 17 "PumpHouseModel" "asked" "[Z" ∈ lw_tbl := List.mem_of_getElem? (i := 567) rfl
set_option maxRecDepth 20000 in
theorem mw_144 : Cond.fieldLink RX5 13 "PumpHouseModel" "pointers" "[I" ∈ lw_tbl := List.mem_of_getElem? (i := 566) rfl
set_option maxRecDepth 20000 in
theorem mw_145 : Cond.fieldLink RX5 7 "PumpHouseModel" "linked" "[Z" ∈ lw_tbl := List.mem_of_getElem? (i := 565) rfl
set_option maxRecDepth 20000 in
theorem mw_146 : Cond.arrayClass .boolean ∈ lw_tbl := List.mem_of_getElem? (i := 660) rfl
set_option maxRecDepth 20000 in
theorem mw_147 : Cond.methodLink RX5 1 objectInit ∈ lw_tbl := List.mem_of_getElem? (i := 531) rfl
set_option maxRecDepth 20000 in
theorem mw_148 : Cond.instanceMethod yX5_part ∈ lw_tbl := List.mem_of_getElem? (i := 546) rfl
set_option maxRecDepth 20000 in
theorem mw_149 : Cond.methodLink RX5 116 yX5_part ∈ lw_tbl := List.mem_of_getElem? (i := 544) rfl
set_option maxRecDepth 20000 in
theorem mw_150 : Cond.code yX5_link cX5_link 4 (some .int) ∈ lw_tbl := List.mem_of_getElem? (i := 543) rfl
set_option maxRecDepth 20000 in
theorem mw_151 : Cond.selects RX5 yX5_link yX5_link ∈ lw_tbl := List.mem_of_getElem? (i := 542) rfl
set_option maxRecDepth 20000 in
theorem mw_152 : Cond.instanceMethod yX5_link ∈ lw_tbl := List.mem_of_getElem? (i := 541) rfl
set_option maxRecDepth 20000 in
theorem mw_153 : Cond.methodLink RX5 93 yX5_link ∈ lw_tbl := List.mem_of_getElem? (i := 540) rfl
set_option maxRecDepth 20000 in
theorem mw_154 : Cond.fieldLink RX5 113 "PumpHouseModel" "links" "I" ∈ lw_tbl := List.mem_of_getElem? (i := 564) rfl
set_option maxRecDepth 20000 in
theorem mw_155 : Cond.fieldLink RX5 105 "PumpHouseModel" "isOpen" "Z" ∈ lw_tbl := List.mem_of_getElem? (i := 561) rfl
set_option maxRecDepth 20000 in
theorem mw_156 : Cond.fieldLink RX5 101 "PumpHouseModel" "stations" "I" ∈ lw_tbl := List.mem_of_getElem? (i := 560) rfl
set_option maxRecDepth 20000 in
theorem mw_157 : Cond.code yX5_canal cX5_canal 3 (some .int) ∈ lw_tbl := List.mem_of_getElem? (i := 539) rfl
set_option maxRecDepth 20000 in
theorem mw_158 : Cond.selects RX5 yX5_canal yX5_canal ∈ lw_tbl := List.mem_of_getElem? (i := 538) rfl
set_option maxRecDepth 20000 in
theorem mw_159 : Cond.instanceMethod yX5_canal ∈ lw_tbl := List.mem_of_getElem? (i := 537) rfl
set_option maxRecDepth 20000 in
theorem mw_160 : Cond.methodLink RX5 89 yX5_canal ∈ lw_tbl := List.mem_of_getElem? (i := 536) rfl
set_option maxRecDepth 20000 in
theorem mw_161 : Cond.code yX5_begin2 cX5_begin2 2 none ∈ lw_tbl := List.mem_of_getElem? (i := 535) rfl
set_option maxRecDepth 20000 in
theorem mw_162 : Cond.initialized RX5 ∈ lw_tbl := List.mem_of_getElem? (i := 47) rfl
set_option maxRecDepth 20000 in
theorem mw_163 : Cond.selects RX5 yX5_begin2 yX5_begin2 ∈ lw_tbl := List.mem_of_getElem? (i := 20) rfl
set_option maxRecDepth 20000 in
theorem mw_164 : Cond.instanceMethod yX5_begin2 ∈ lw_tbl := List.mem_of_getElem? (i := 534) rfl
set_option maxRecDepth 20000 in
theorem mw_165 : Cond.methodLink RX5 86 yX5_begin2 ∈ lw_tbl := List.mem_of_getElem? (i := 532) rfl
set_option maxRecDepth 20000 in
theorem mw_166 : Cond.fieldLink RX5 83 "PumpHouseModel" "path" "[I" ∈ lw_tbl := List.mem_of_getElem? (i := 592) rfl
set_option maxRecDepth 20000 in
theorem mw_167 : Cond.fieldLink RX5 80 "PumpHouseModel" "parts" "[I" ∈ lw_tbl := List.mem_of_getElem? (i := 591) rfl
set_option maxRecDepth 20000 in
theorem mw_168 : Cond.fieldLink RX5 77 "PumpHouseModel" "copyNumbers" "[I" ∈ lw_tbl := List.mem_of_getElem? (i := 590) rfl
set_option maxRecDepth 20000 in
theorem mw_169 : Cond.fieldLink RX5 74 "PumpHouseModel" "copyRanks" "[I" ∈ lw_tbl := List.mem_of_getElem? (i := 589) rfl
set_option maxRecDepth 20000 in
theorem mw_170 : Cond.fieldLink RX5 71 "PumpHouseModel" "copyKinds" "[I" ∈ lw_tbl := List.mem_of_getElem? (i := 588) rfl
set_option maxRecDepth 20000 in
theorem mw_171 : Cond.fieldLink RX5 68 "PumpHouseModel" "copyWays" "[I" ∈ lw_tbl := List.mem_of_getElem? (i := 587) rfl
set_option maxRecDepth 20000 in
theorem mw_172 : Cond.fieldLink RX5 136 "PumpHouseModel" "copies" "I" ∈ lw_tbl := List.mem_of_getElem? (i := 586) rfl
set_option maxRecDepth 20000 in
theorem mw_173 : Cond.fieldLink RX5 133 "PumpHouseModel" "letters" "I" ∈ lw_tbl := List.mem_of_getElem? (i := 581) rfl
set_option maxRecDepth 20000 in
theorem mw_174 : Cond.fieldLink RX5 130 "PumpHouseModel" "begun" "I" ∈ lw_tbl := List.mem_of_getElem? (i := 575) rfl
set_option maxRecDepth 20000 in
theorem mw_175 : Cond.fieldLink RX5 127 "PumpHouseModel" "greed" "I" ∈ lw_tbl := List.mem_of_getElem? (i := 563) rfl
set_option maxRecDepth 20000 in
theorem mw_176 : Cond.fieldLink RX5 124 "PumpHouseModel" "rule" "I" ∈ lw_tbl := List.mem_of_getElem? (i := 562) rfl
set_option maxRecDepth 20000 in
theorem mw_177 : Cond.code yX5_open cX5_open 7 (some .int) ∈ lw_tbl := List.mem_of_getElem? (i := 559) rfl
set_option maxRecDepth 20000 in
theorem mw_178 : Cond.selects RX5 yX5_open yX5_open ∈ lw_tbl := List.mem_of_getElem? (i := 558) rfl
set_option maxRecDepth 20000 in
theorem mw_179 : Cond.instanceMethod yX5_open ∈ lw_tbl := List.mem_of_getElem? (i := 557) rfl
set_option maxRecDepth 20000 in
theorem mw_180 : Cond.methodLink RX5 97 yX5_open ∈ lw_tbl := List.mem_of_getElem? (i := 556) rfl
set_option maxRecDepth 20000 in
theorem mw_181 : Cond.code yX5_join2 cX5_join2 4 none ∈ lw_tbl := List.mem_of_getElem? (i := 555) rfl
set_option maxRecDepth 20000 in
theorem mw_182 : Cond.selects RX5 yX5_join2 yX5_join2 ∈ lw_tbl := List.mem_of_getElem? (i := 23) rfl
set_option maxRecDepth 20000 in
theorem mw_183 : Cond.instanceMethod yX5_join2 ∈ lw_tbl := List.mem_of_getElem? (i := 554) rfl
set_option maxRecDepth 20000 in
theorem mw_184 : Cond.methodLink RX5 120 yX5_join2 ∈ lw_tbl := List.mem_of_getElem? (i := 552) rfl
set_option maxRecDepth 20000 in
theorem mw_185 : Cond.code yX5_isStation cX5_isStation 2 (some .boolean) ∈ lw_tbl := List.mem_of_getElem? (i := 551) rfl
set_option maxRecDepth 20000 in
theorem mw_186 : Cond.selects RX5 yX5_isStation yX5_isStation ∈ lw_tbl := List.mem_of_getElem? (i := 22) rfl
set_option maxRecDepth 20000 in
theorem mw_187 : Cond.instanceMethod yX5_isStation ∈ lw_tbl := List.mem_of_getElem? (i := 550) rfl
set_option maxRecDepth 20000 in
theorem mw_188 : Cond.methodLink RX5 109 yX5_isStation ∈ lw_tbl := List.mem_of_getElem? (i := 548) rfl
set_option maxRecDepth 20000 in
theorem mw_189 : Cond.code yX5_part cX5_part 4 (some .int) ∈ lw_tbl := List.mem_of_getElem? (i := 547) rfl
set_option maxRecDepth 20000 in
theorem mw_190 : Cond.selects RX5 yX5_part yX5_part ∈ lw_tbl := List.mem_of_getElem? (i := 21) rfl
set_option maxRecDepth 20000 in
theorem mw_191 : Cond.code yX4_canal cX4_canal 2 (some .int) ∈ lw_tbl := List.mem_of_getElem? (i := 190) rfl
set_option maxRecDepth 20000 in
theorem mw_192 : Cond.code yJ7_fill_53178 cJ7_fill_53178 4 none ∈ lw_tbl := List.mem_of_getElem? (i := 197) rfl
set_option maxRecDepth 20000 in
theorem mw_193 : Cond.initialized RJ7 ∈ lw_tbl := List.mem_of_getElem? (i := 46) rfl
set_option maxRecDepth 20000 in
theorem mw_194 : Cond.static yJ7_fill_53178 ∈ lw_tbl := List.mem_of_getElem? (i := 196) rfl
set_option maxRecDepth 20000 in
theorem mw_195 : Cond.methodLink RX0 15 yJ7_fill_53178 ∈ lw_tbl := List.mem_of_getElem? (i := 195) rfl
set_option maxRecDepth 20000 in
theorem mw_196 : Cond.fieldLink RX0 25 "PumpHouse$Canals" "links" "I" ∈ lw_tbl := List.mem_of_getElem? (i := 68) rfl
set_option maxRecDepth 20000 in
theorem mw_197 : Cond.fieldLink RX0 21 "PumpHouse$Canals" "stations" "I" ∈ lw_tbl := List.mem_of_getElem? (i := 66) rfl
set_option maxRecDepth 20000 in
theorem mw_198 : Cond.fieldLink RX0 9 "PumpHouse$Canals" "neighbours" "[I" ∈ lw_tbl := List.mem_of_getElem? (i := 65) rfl
set_option maxRecDepth 20000 in
theorem mw_199 : Cond.code yX0_clear cX0_clear 2 none ∈ lw_tbl := List.mem_of_getElem? (i := 194) rfl
set_option maxRecDepth 20000 in
theorem mw_200 : Cond.initialized RX0 ∈ lw_tbl := List.mem_of_getElem? (i := 42) rfl
set_option maxRecDepth 20000 in
theorem mw_201 : Cond.selects RX0 yX0_clear yX0_clear ∈ lw_tbl := List.mem_of_getElem? (i := 193) rfl
set_option maxRecDepth 20000 in
theorem mw_202 : Cond.instanceMethod yX0_clear ∈ lw_tbl := List.mem_of_getElem? (i := 192) rfl
set_option maxRecDepth 20000 in
theorem mw_203 : Cond.methodLink RX4 59 yX0_clear ∈ lw_tbl := List.mem_of_getElem? (i := 191) rfl
set_option maxRecDepth 20000 in
theorem mw_204 : Cond.fieldLink RX4 10 "PumpHouse" "canals" "LPumpHouse$Canals;" ∈ lw_tbl := List.mem_of_getElem? (i := 243) rfl
set_option maxRecDepth 20000 in
theorem mw_205 : Cond.fieldLink RX4 55 "PumpHouse" "opened" "Z" ∈ lw_tbl := List.mem_of_getElem? (i := 249) rfl
set_option maxRecDepth 20000 in
theorem mw_206 : Cond.initialized RX4 ∈ lw_tbl := List.mem_of_getElem? (i := 41) rfl
set_option maxRecDepth 20000 in
theorem mw_207 : Cond.selects RX4 yX4_canal yX4_canal ∈ lw_tbl := List.mem_of_getElem? (i := 189) rfl
set_option maxRecDepth 20000 in
theorem mw_208 : Cond.instanceMethod yX4_canal ∈ lw_tbl := List.mem_of_getElem? (i := 188) rfl
set_option maxRecDepth 20000 in
theorem mw_209 : Cond.methodLink RL 13 yX4_canal ∈ lw_tbl := List.mem_of_getElem? (i := 274) rfl
set_option maxRecDepth 20000 in
theorem mw_210 : Cond.code yX5_canal cX5_canal 3 (some .int) ∈ lw_tbl := List.mem_of_getElem? (i := 539) rfl
set_option maxRecDepth 20000 in
theorem mw_211 : Cond.fieldLink RX5 7 "PumpHouseModel" "linked" "[Z" ∈ lw_tbl := List.mem_of_getElem? (i := 565) rfl
set_option maxRecDepth 20000 in
theorem mw_212 : Cond.fieldLink RX5 113 "PumpHouseModel" "links" "I" ∈ lw_tbl := List.mem_of_getElem? (i := 564) rfl
set_option maxRecDepth 20000 in
theorem mw_213 : Cond.fieldLink RX5 105 "PumpHouseModel" "isOpen" "Z" ∈ lw_tbl := List.mem_of_getElem? (i := 561) rfl
set_option maxRecDepth 20000 in
theorem mw_214 : Cond.fieldLink RX5 101 "PumpHouseModel" "stations" "I" ∈ lw_tbl := List.mem_of_getElem? (i := 560) rfl
set_option maxRecDepth 20000 in
theorem mw_215 : Cond.initialized RX5 ∈ lw_tbl := List.mem_of_getElem? (i := 47) rfl
set_option maxRecDepth 20000 in
theorem mw_216 : Cond.selects RX5 yX5_canal yX5_canal ∈ lw_tbl := List.mem_of_getElem? (i := 538) rfl
set_option maxRecDepth 20000 in
theorem mw_217 : Cond.instanceMethod yX5_canal ∈ lw_tbl := List.mem_of_getElem? (i := 537) rfl
set_option maxRecDepth 20000 in
theorem mw_218 : Cond.methodLink RL 17 yX5_canal ∈ lw_tbl := List.mem_of_getElem? (i := 661) rfl
set_option maxRecDepth 20000 in
theorem mw_219 : Cond.code yX4_link cX4_link 3 (some .int) ∈ lw_tbl := List.mem_of_getElem? (i := 201) rfl
set_option maxRecDepth 20000 in
theorem mw_220 : Cond.code yX0_tie cX0_tie 3 none ∈ lw_tbl := List.mem_of_getElem? (i := 217) rfl
set_option maxRecDepth 20000 in
theorem mw_221 : Cond.selects RX0 yX0_tie yX0_tie ∈ lw_tbl := List.mem_of_getElem? (i := 216) rfl
set_option maxRecDepth 20000 in
theorem mw_222 : Cond.instanceMethod yX0_tie ∈ lw_tbl := List.mem_of_getElem? (i := 215) rfl
set_option maxRecDepth 20000 in
theorem mw_223 : Cond.methodLink RX4 73 yX0_tie ∈ lw_tbl := List.mem_of_getElem? (i := 214) rfl
set_option maxRecDepth 20000 in
theorem mw_224 : Cond.methodLink RX4 69 yX4_contains ∈ lw_tbl := List.mem_of_getElem? (i := 213) rfl
set_option maxRecDepth 20000 in
theorem mw_225 : Cond.code yX4_contains cX4_contains 2 (some .boolean) ∈ lw_tbl := List.mem_of_getElem? (i := 212) rfl
set_option maxRecDepth 20000 in
theorem mw_226 : Cond.static yX4_contains ∈ lw_tbl := List.mem_of_getElem? (i := 211) rfl
set_option maxRecDepth 20000 in
theorem mw_227 : Cond.code yX0_partOf cX0_partOf 5 (some .int) ∈ lw_tbl := List.mem_of_getElem? (i := 209) rfl
set_option maxRecDepth 20000 in
theorem mw_228 : Cond.selects RX0 yX0_partOf yX0_partOf ∈ lw_tbl := List.mem_of_getElem? (i := 208) rfl
set_option maxRecDepth 20000 in
theorem mw_229 : Cond.instanceMethod yX0_partOf ∈ lw_tbl := List.mem_of_getElem? (i := 207) rfl
set_option maxRecDepth 20000 in
theorem mw_230 : Cond.methodLink RX4 66 yX0_partOf ∈ lw_tbl := List.mem_of_getElem? (i := 206) rfl
set_option maxRecDepth 20000 in
theorem mw_231 : Cond.code yX0_has cX0_has 2 (some .boolean) ∈ lw_tbl := List.mem_of_getElem? (i := 205) rfl
set_option maxRecDepth 20000 in
theorem mw_232 : Cond.selects RX0 yX0_has yX0_has ∈ lw_tbl := List.mem_of_getElem? (i := 204) rfl
set_option maxRecDepth 20000 in
theorem mw_233 : Cond.instanceMethod yX0_has ∈ lw_tbl := List.mem_of_getElem? (i := 203) rfl
set_option maxRecDepth 20000 in
theorem mw_234 : Cond.methodLink RX4 62 yX0_has ∈ lw_tbl := List.mem_of_getElem? (i := 202) rfl
set_option maxRecDepth 20000 in
theorem mw_235 : Cond.fieldLink RX4 77 "PumpHouse$Canals" "links" "I" ∈ lw_tbl := List.mem_of_getElem? (i := 69) rfl
set_option maxRecDepth 20000 in
theorem mw_236 : Cond.selects RX4 yX4_link yX4_link ∈ lw_tbl := List.mem_of_getElem? (i := 200) rfl
set_option maxRecDepth 20000 in
theorem mw_237 : Cond.instanceMethod yX4_link ∈ lw_tbl := List.mem_of_getElem? (i := 199) rfl
set_option maxRecDepth 20000 in
theorem mw_238 : Cond.methodLink RL 18 yX4_link ∈ lw_tbl := List.mem_of_getElem? (i := 275) rfl
set_option maxRecDepth 20000 in
theorem mw_239 : Cond.code yX5_link cX5_link 4 (some .int) ∈ lw_tbl := List.mem_of_getElem? (i := 543) rfl
set_option maxRecDepth 20000 in
theorem mw_240 : Cond.code yX5_join2 cX5_join2 4 none ∈ lw_tbl := List.mem_of_getElem? (i := 555) rfl
set_option maxRecDepth 20000 in
theorem mw_241 : Cond.selects RX5 yX5_join2 yX5_join2 ∈ lw_tbl := List.mem_of_getElem? (i := 23) rfl
set_option maxRecDepth 20000 in
theorem mw_242 : Cond.instanceMethod yX5_join2 ∈ lw_tbl := List.mem_of_getElem? (i := 554) rfl
set_option maxRecDepth 20000 in
theorem mw_243 : Cond.methodLink RX5 120 yX5_join2 ∈ lw_tbl := List.mem_of_getElem? (i := 552) rfl
set_option maxRecDepth 20000 in
theorem mw_244 : Cond.code yX5_isStation cX5_isStation 2 (some .boolean) ∈ lw_tbl := List.mem_of_getElem? (i := 551) rfl
set_option maxRecDepth 20000 in
theorem mw_245 : Cond.selects RX5 yX5_isStation yX5_isStation ∈ lw_tbl := List.mem_of_getElem? (i := 22) rfl
set_option maxRecDepth 20000 in
theorem mw_246 : Cond.instanceMethod yX5_isStation ∈ lw_tbl := List.mem_of_getElem? (i := 550) rfl
set_option maxRecDepth 20000 in
theorem mw_247 : Cond.methodLink RX5 109 yX5_isStation ∈ lw_tbl := List.mem_of_getElem? (i := 548) rfl
set_option maxRecDepth 20000 in
theorem mw_248 : Cond.code yX5_part cX5_part 4 (some .int) ∈ lw_tbl := List.mem_of_getElem? (i := 547) rfl
set_option maxRecDepth 20000 in
theorem mw_249 : Cond.selects RX5 yX5_part yX5_part ∈ lw_tbl := List.mem_of_getElem? (i := 21) rfl
set_option maxRecDepth 20000 in
theorem mw_250 : Cond.instanceMethod yX5_part ∈ lw_tbl := List.mem_of_getElem? (i := 546) rfl
set_option maxRecDepth 20000 in
theorem mw_251 : Cond.methodLink RX5 116 yX5_part ∈ lw_tbl := List.mem_of_getElem? (i := 544) rfl
set_option maxRecDepth 20000 in
theorem mw_252 : Cond.fieldLink RX5 80 "PumpHouseModel" "parts" "[I" ∈ lw_tbl := List.mem_of_getElem? (i := 591) rfl
set_option maxRecDepth 20000 in
theorem mw_253 : Cond.selects RX5 yX5_link yX5_link ∈ lw_tbl := List.mem_of_getElem? (i := 542) rfl
set_option maxRecDepth 20000 in
theorem mw_254 : Cond.instanceMethod yX5_link ∈ lw_tbl := List.mem_of_getElem? (i := 541) rfl
set_option maxRecDepth 20000 in
theorem mw_255 : Cond.methodLink RL 22 yX5_link ∈ lw_tbl := List.mem_of_getElem? (i := 662) rfl
set_option maxRecDepth 20000 in
theorem mw_256 : Cond.code yX4_open cX4_open 5 (some .int) ∈ lw_tbl := List.mem_of_getElem? (i := 221) rfl
set_option maxRecDepth 20000 in
theorem mw_257 : Cond.selects RX4 yX4_open yX4_open ∈ lw_tbl := List.mem_of_getElem? (i := 220) rfl
set_option maxRecDepth 20000 in
theorem mw_258 : Cond.instanceMethod yX4_open ∈ lw_tbl := List.mem_of_getElem? (i := 219) rfl
set_option maxRecDepth 20000 in
theorem mw_259 : Cond.methodLink RL 23 yX4_open ∈ lw_tbl := List.mem_of_getElem? (i := 276) rfl
set_option maxRecDepth 20000 in
theorem mw_260 : Cond.code yX5_open cX5_open 7 (some .int) ∈ lw_tbl := List.mem_of_getElem? (i := 559) rfl
set_option maxRecDepth 20000 in
theorem mw_261 : Cond.selects RX5 yX5_open yX5_open ∈ lw_tbl := List.mem_of_getElem? (i := 558) rfl
set_option maxRecDepth 20000 in
theorem mw_262 : Cond.instanceMethod yX5_open ∈ lw_tbl := List.mem_of_getElem? (i := 557) rfl
set_option maxRecDepth 20000 in
theorem mw_263 : Cond.methodLink RL 27 yX5_open ∈ lw_tbl := List.mem_of_getElem? (i := 663) rfl
set_option maxRecDepth 20000 in
theorem mw_264 : Cond.code yX4_want cX4_want 4 (some .int) ∈ lw_tbl := List.mem_of_getElem? (i := 280) rfl
set_option maxRecDepth 20000 in
theorem mw_265 : Cond.code yX4_isStation cX4_isStation 2 (some .boolean) ∈ lw_tbl := List.mem_of_getElem? (i := 288) rfl
set_option maxRecDepth 20000 in
theorem mw_266 : Cond.selects RX4 yX4_isStation yX4_isStation ∈ lw_tbl := List.mem_of_getElem? (i := 3) rfl
set_option maxRecDepth 20000 in
theorem mw_267 : Cond.instanceMethod yX4_isStation ∈ lw_tbl := List.mem_of_getElem? (i := 287) rfl
set_option maxRecDepth 20000 in
theorem mw_268 : Cond.methodLink RX4 158 yX4_isStation ∈ lw_tbl := List.mem_of_getElem? (i := 285) rfl
set_option maxRecDepth 20000 in
theorem mw_269 : Cond.fieldLink RX4 211 "PumpHouse$Station" "down" "Z" ∈ lw_tbl := List.mem_of_getElem? (i := 151) rfl
set_option maxRecDepth 20000 in
theorem mw_270 : Cond.code yX4_isUp cX4_isUp 2 (some .boolean) ∈ lw_tbl := List.mem_of_getElem? (i := 284) rfl
set_option maxRecDepth 20000 in
theorem mw_271 : Cond.selects RX4 yX4_isUp yX4_isUp ∈ lw_tbl := List.mem_of_getElem? (i := 2) rfl
set_option maxRecDepth 20000 in
theorem mw_272 : Cond.instanceMethod yX4_isUp ∈ lw_tbl := List.mem_of_getElem? (i := 283) rfl
set_option maxRecDepth 20000 in
theorem mw_273 : Cond.methodLink RX4 108 yX4_isUp ∈ lw_tbl := List.mem_of_getElem? (i := 281) rfl
set_option maxRecDepth 20000 in
theorem mw_274 : Cond.fieldLink RX4 133 "PumpHouse$Line" "length" "I" ∈ lw_tbl := List.mem_of_getElem? (i := 130) rfl
set_option maxRecDepth 20000 in
theorem mw_275 : Cond.fieldLink RX4 130 "PumpHouse$Station" "othersBegan" "I" ∈ lw_tbl := List.mem_of_getElem? (i := 159) rfl
set_option maxRecDepth 20000 in
theorem mw_276 : Cond.fieldLink RX4 127 "PumpHouse$Station" "everWanted" "Z" ∈ lw_tbl := List.mem_of_getElem? (i := 157) rfl
set_option maxRecDepth 20000 in
theorem mw_277 : Cond.fieldLink RX4 118 "PumpHouse$Station" "line" "LPumpHouse$Line;" ∈ lw_tbl := List.mem_of_getElem? (i := 141) rfl
set_option maxRecDepth 20000 in
theorem mw_278 : Cond.fieldLink RX4 111 "PumpHouse$Station" "pumps" "Z" ∈ lw_tbl := List.mem_of_getElem? (i := 149) rfl
set_option maxRecDepth 20000 in
theorem mw_279 : Cond.code yX2_add cX2_add 3 none ∈ lw_tbl := List.mem_of_getElem? (i := 300) rfl
set_option maxRecDepth 20000 in
theorem mw_280 : Cond.selects RX2 yX2_add yX2_add ∈ lw_tbl := List.mem_of_getElem? (i := 299) rfl
set_option maxRecDepth 20000 in
theorem mw_281 : Cond.instanceMethod yX2_add ∈ lw_tbl := List.mem_of_getElem? (i := 298) rfl
set_option maxRecDepth 20000 in
theorem mw_282 : Cond.methodLink RX4 122 yX2_add ∈ lw_tbl := List.mem_of_getElem? (i := 297) rfl
set_option maxRecDepth 20000 in
theorem mw_283 : Cond.fieldLink RX2 18 "PumpHouse$Line" "length" "I" ∈ lw_tbl := List.mem_of_getElem? (i := 128) rfl
set_option maxRecDepth 20000 in
theorem mw_284 : Cond.code yX2_placeOf cX2_placeOf 3 (some .int) ∈ lw_tbl := List.mem_of_getElem? (i := 296) rfl
set_option maxRecDepth 20000 in
theorem mw_285 : Cond.selects RX2 yX2_placeOf yX2_placeOf ∈ lw_tbl := List.mem_of_getElem? (i := 295) rfl
set_option maxRecDepth 20000 in
theorem mw_286 : Cond.instanceMethod yX2_placeOf ∈ lw_tbl := List.mem_of_getElem? (i := 294) rfl
set_option maxRecDepth 20000 in
theorem mw_287 : Cond.methodLink RX3 56 yX2_placeOf ∈ lw_tbl := List.mem_of_getElem? (i := 293) rfl
set_option maxRecDepth 20000 in
theorem mw_288 : Cond.code yX3_wants cX3_wants 1 (some .boolean) ∈ lw_tbl := List.mem_of_getElem? (i := 292) rfl
set_option maxRecDepth 20000 in
theorem mw_289 : Cond.selects RX3 yX3_wants yX3_wants ∈ lw_tbl := List.mem_of_getElem? (i := 291) rfl
set_option maxRecDepth 20000 in
theorem mw_290 : Cond.instanceMethod yX3_wants ∈ lw_tbl := List.mem_of_getElem? (i := 290) rfl
set_option maxRecDepth 20000 in
theorem mw_291 : Cond.methodLink RX4 114 yX3_wants ∈ lw_tbl := List.mem_of_getElem? (i := 289) rfl
set_option maxRecDepth 20000 in
theorem mw_292 : Cond.selects RX4 yX4_want yX4_want ∈ lw_tbl := List.mem_of_getElem? (i := 279) rfl
set_option maxRecDepth 20000 in
theorem mw_293 : Cond.instanceMethod yX4_want ∈ lw_tbl := List.mem_of_getElem? (i := 278) rfl
set_option maxRecDepth 20000 in
theorem mw_294 : Cond.methodLink RL 28 yX4_want ∈ lw_tbl := List.mem_of_getElem? (i := 277) rfl
set_option maxRecDepth 20000 in
theorem mw_295 : Cond.code yX5_want cX5_want 3 (some .int) ∈ lw_tbl := List.mem_of_getElem? (i := 667) rfl
set_option maxRecDepth 20000 in
theorem mw_296 : Cond.code yX5_entry cX5_entry 3 (some .int) ∈ lw_tbl := List.mem_of_getElem? (i := 679) rfl
set_option maxRecDepth 20000 in
theorem mw_297 : Cond.selects RX5 yX5_entry yX5_entry ∈ lw_tbl := List.mem_of_getElem? (i := 26) rfl
set_option maxRecDepth 20000 in
theorem mw_298 : Cond.instanceMethod yX5_entry ∈ lw_tbl := List.mem_of_getElem? (i := 678) rfl
set_option maxRecDepth 20000 in
theorem mw_299 : Cond.methodLink RX5 139 yX5_entry ∈ lw_tbl := List.mem_of_getElem? (i := 676) rfl
set_option maxRecDepth 20000 in
theorem mw_300 : Cond.code yX5_placeOf cX5_placeOf 5 (some .int) ∈ lw_tbl := List.mem_of_getElem? (i := 675) rfl
set_option maxRecDepth 20000 in
theorem mw_301 : Cond.selects RX5 yX5_placeOf yX5_placeOf ∈ lw_tbl := List.mem_of_getElem? (i := 25) rfl
set_option maxRecDepth 20000 in
theorem mw_302 : Cond.instanceMethod yX5_placeOf ∈ lw_tbl := List.mem_of_getElem? (i := 674) rfl
set_option maxRecDepth 20000 in
theorem mw_303 : Cond.methodLink RX5 142 yX5_placeOf ∈ lw_tbl := List.mem_of_getElem? (i := 672) rfl
set_option maxRecDepth 20000 in
theorem mw_304 : Cond.code yX5_isUp cX5_isUp 2 (some .boolean) ∈ lw_tbl := List.mem_of_getElem? (i := 671) rfl
set_option maxRecDepth 20000 in
theorem mw_305 : Cond.selects RX5 yX5_isUp yX5_isUp ∈ lw_tbl := List.mem_of_getElem? (i := 24) rfl
set_option maxRecDepth 20000 in
theorem mw_306 : Cond.instanceMethod yX5_isUp ∈ lw_tbl := List.mem_of_getElem? (i := 670) rfl
set_option maxRecDepth 20000 in
theorem mw_307 : Cond.methodLink RX5 163 yX5_isUp ∈ lw_tbl := List.mem_of_getElem? (i := 668) rfl
set_option maxRecDepth 20000 in
theorem mw_308 : Cond.code yX5_come cX5_come 5 none ∈ lw_tbl := List.mem_of_getElem? (i := 683) rfl
set_option maxRecDepth 20000 in
theorem mw_309 : Cond.selects RX5 yX5_come yX5_come ∈ lw_tbl := List.mem_of_getElem? (i := 27) rfl
set_option maxRecDepth 20000 in
theorem mw_310 : Cond.instanceMethod yX5_come ∈ lw_tbl := List.mem_of_getElem? (i := 682) rfl
set_option maxRecDepth 20000 in
theorem mw_311 : Cond.methodLink RX5 166 yX5_come ∈ lw_tbl := List.mem_of_getElem? (i := 680) rfl
set_option maxRecDepth 20000 in
theorem mw_312 : Cond.selects RX5 yX5_want yX5_want ∈ lw_tbl := List.mem_of_getElem? (i := 666) rfl
set_option maxRecDepth 20000 in
theorem mw_313 : Cond.instanceMethod yX5_want ∈ lw_tbl := List.mem_of_getElem? (i := 665) rfl
set_option maxRecDepth 20000 in
theorem mw_314 : Cond.methodLink RL 31 yX5_want ∈ lw_tbl := List.mem_of_getElem? (i := 664) rfl
set_option maxRecDepth 20000 in
theorem mw_315 : Cond.code yX4_begin cX4_begin 4 (some .int) ∈ lw_tbl := List.mem_of_getElem? (i := 304) rfl
set_option maxRecDepth 20000 in
theorem mw_316 : Cond.fieldLink RX4 152 "PumpHouse$Station" "row" "I" ∈ lw_tbl := List.mem_of_getElem? (i := 153) rfl
set_option maxRecDepth 20000 in
theorem mw_317 : Cond.fieldLink RX4 146 "PumpHouse$Station" "overtook" "I" ∈ lw_tbl := List.mem_of_getElem? (i := 161) rfl
set_option maxRecDepth 20000 in
theorem mw_318 : Cond.fieldLink RX4 142 "PumpHouse$Line" "who" "[I" ∈ lw_tbl := List.mem_of_getElem? (i := 125) rfl
set_option maxRecDepth 20000 in
theorem mw_319 : Cond.code yX3_greedyPlace cX3_greedyPlace 3 (some .int) ∈ lw_tbl := List.mem_of_getElem? (i := 312) rfl
set_option maxRecDepth 20000 in
theorem mw_320 : Cond.selects RX3 yX3_greedyPlace yX3_greedyPlace ∈ lw_tbl := List.mem_of_getElem? (i := 4) rfl
set_option maxRecDepth 20000 in
theorem mw_321 : Cond.instanceMethod yX3_greedyPlace ∈ lw_tbl := List.mem_of_getElem? (i := 311) rfl
set_option maxRecDepth 20000 in
theorem mw_322 : Cond.methodLink RX3 60 yX3_greedyPlace ∈ lw_tbl := List.mem_of_getElem? (i := 309) rfl
set_option maxRecDepth 20000 in
theorem mw_323 : Cond.code yX3_firstPlace cX3_firstPlace 3 (some .int) ∈ lw_tbl := List.mem_of_getElem? (i := 308) rfl
set_option maxRecDepth 20000 in
theorem mw_324 : Cond.selects RX3 yX3_firstPlace yX3_firstPlace ∈ lw_tbl := List.mem_of_getElem? (i := 307) rfl
set_option maxRecDepth 20000 in
theorem mw_325 : Cond.instanceMethod yX3_firstPlace ∈ lw_tbl := List.mem_of_getElem? (i := 306) rfl
set_option maxRecDepth 20000 in
theorem mw_326 : Cond.methodLink RX4 136 yX3_firstPlace ∈ lw_tbl := List.mem_of_getElem? (i := 305) rfl
set_option maxRecDepth 20000 in
theorem mw_327 : Cond.initialized "java/lang/System" ∈ lw_tbl := List.mem_of_getElem? (i := 48) rfl
set_option maxRecDepth 20000 in
theorem mw_328 : Cond.static arraycopyName ∈ lw_tbl := List.mem_of_getElem? (i := 329) rfl
set_option maxRecDepth 20000 in
theorem mw_329 : Cond.native arraycopyName ∈ lw_tbl := List.mem_of_getElem? (i := 330) rfl
set_option maxRecDepth 20000 in
theorem mw_330 : Cond.methodLink RX4 292 arraycopyName ∈ lw_tbl := List.mem_of_getElem? (i := 328) rfl
set_option maxRecDepth 20000 in
theorem mw_331 : Cond.code yX4_closeGap cX4_closeGap 3 none ∈ lw_tbl := List.mem_of_getElem? (i := 327) rfl
set_option maxRecDepth 20000 in
theorem mw_332 : Cond.static yX4_closeGap ∈ lw_tbl := List.mem_of_getElem? (i := 326) rfl
set_option maxRecDepth 20000 in
theorem mw_333 : Cond.code Lib.Math.min.name Lib.Math.min.code 2 (some .int) ∈ lw_tbl := List.mem_of_getElem? (i := 333) rfl
set_option maxRecDepth 20000 in
theorem mw_334 : Cond.initialized "java/lang/Math" ∈ lw_tbl := List.mem_of_getElem? (i := 49) rfl
set_option maxRecDepth 20000 in
theorem mw_335 : Cond.static Lib.Math.min.name ∈ lw_tbl := List.mem_of_getElem? (i := 332) rfl
set_option maxRecDepth 20000 in
theorem mw_336 : Cond.methodLink RX2 40 Lib.Math.min.name ∈ lw_tbl := List.mem_of_getElem? (i := 331) rfl
set_option maxRecDepth 20000 in
theorem mw_337 : Cond.code yX2_serve cX2_serve 3 none ∈ lw_tbl := List.mem_of_getElem? (i := 324) rfl
set_option maxRecDepth 20000 in
theorem mw_338 : Cond.selects RX2 yX2_serve yX2_serve ∈ lw_tbl := List.mem_of_getElem? (i := 323) rfl
set_option maxRecDepth 20000 in
theorem mw_339 : Cond.instanceMethod yX2_serve ∈ lw_tbl := List.mem_of_getElem? (i := 322) rfl
set_option maxRecDepth 20000 in
theorem mw_340 : Cond.methodLink RX4 149 yX2_serve ∈ lw_tbl := List.mem_of_getElem? (i := 321) rfl
set_option maxRecDepth 20000 in
theorem mw_341 : Cond.code yX3_holds cX3_holds 1 (some .boolean) ∈ lw_tbl := List.mem_of_getElem? (i := 320) rfl
set_option maxRecDepth 20000 in
theorem mw_342 : Cond.selects RX3 yX3_holds yX3_holds ∈ lw_tbl := List.mem_of_getElem? (i := 319) rfl
set_option maxRecDepth 20000 in
theorem mw_343 : Cond.instanceMethod yX3_holds ∈ lw_tbl := List.mem_of_getElem? (i := 318) rfl
set_option maxRecDepth 20000 in
theorem mw_344 : Cond.methodLink RX4 139 yX3_holds ∈ lw_tbl := List.mem_of_getElem? (i := 317) rfl
set_option maxRecDepth 20000 in
theorem mw_345 : Cond.code yX2_greatestPlace cX2_greatestPlace 3 (some .int) ∈ lw_tbl := List.mem_of_getElem? (i := 316) rfl
set_option maxRecDepth 20000 in
theorem mw_346 : Cond.selects RX2 yX2_greatestPlace yX2_greatestPlace ∈ lw_tbl := List.mem_of_getElem? (i := 315) rfl
set_option maxRecDepth 20000 in
theorem mw_347 : Cond.instanceMethod yX2_greatestPlace ∈ lw_tbl := List.mem_of_getElem? (i := 314) rfl
set_option maxRecDepth 20000 in
theorem mw_348 : Cond.methodLink RX3 63 yX2_greatestPlace ∈ lw_tbl := List.mem_of_getElem? (i := 313) rfl
set_option maxRecDepth 20000 in
theorem mw_349 : Cond.code yX4_tellOthersOfBegin cX4_tellOthersOfBegin 3 none ∈ lw_tbl := List.mem_of_getElem? (i := 337) rfl
set_option maxRecDepth 20000 in
theorem mw_350 : Cond.selects RX4 yX4_tellOthersOfBegin yX4_tellOthersOfBegin ∈ lw_tbl := List.mem_of_getElem? (i := 5) rfl
set_option maxRecDepth 20000 in
theorem mw_351 : Cond.instanceMethod yX4_tellOthersOfBegin ∈ lw_tbl := List.mem_of_getElem? (i := 336) rfl
set_option maxRecDepth 20000 in
theorem mw_352 : Cond.methodLink RX4 155 yX4_tellOthersOfBegin ∈ lw_tbl := List.mem_of_getElem? (i := 334) rfl
set_option maxRecDepth 20000 in
theorem mw_353 : Cond.selects RX4 yX4_begin yX4_begin ∈ lw_tbl := List.mem_of_getElem? (i := 303) rfl
set_option maxRecDepth 20000 in
theorem mw_354 : Cond.instanceMethod yX4_begin ∈ lw_tbl := List.mem_of_getElem? (i := 302) rfl
set_option maxRecDepth 20000 in
theorem mw_355 : Cond.methodLink RL 32 yX4_begin ∈ lw_tbl := List.mem_of_getElem? (i := 301) rfl
set_option maxRecDepth 20000 in
theorem mw_356 : Cond.code yX5_begin cX5_begin 4 (some .int) ∈ lw_tbl := List.mem_of_getElem? (i := 687) rfl
set_option maxRecDepth 20000 in
theorem mw_357 : Cond.code yX5_firstOf cX5_firstOf 5 (some .int) ∈ lw_tbl := List.mem_of_getElem? (i := 691) rfl
set_option maxRecDepth 20000 in
theorem mw_358 : Cond.selects RX5 yX5_firstOf yX5_firstOf ∈ lw_tbl := List.mem_of_getElem? (i := 28) rfl
set_option maxRecDepth 20000 in
theorem mw_359 : Cond.instanceMethod yX5_firstOf ∈ lw_tbl := List.mem_of_getElem? (i := 690) rfl
set_option maxRecDepth 20000 in
theorem mw_360 : Cond.methodLink RX5 169 yX5_firstOf ∈ lw_tbl := List.mem_of_getElem? (i := 688) rfl
set_option maxRecDepth 20000 in
theorem mw_361 : Cond.code yX5_leave cX5_leave 4 none ∈ lw_tbl := List.mem_of_getElem? (i := 695) rfl
set_option maxRecDepth 20000 in
theorem mw_362 : Cond.selects RX5 yX5_leave yX5_leave ∈ lw_tbl := List.mem_of_getElem? (i := 29) rfl
set_option maxRecDepth 20000 in
theorem mw_363 : Cond.instanceMethod yX5_leave ∈ lw_tbl := List.mem_of_getElem? (i := 694) rfl
set_option maxRecDepth 20000 in
theorem mw_364 : Cond.methodLink RX5 172 yX5_leave ∈ lw_tbl := List.mem_of_getElem? (i := 692) rfl
set_option maxRecDepth 20000 in
theorem mw_365 : Cond.selects RX5 yX5_begin yX5_begin ∈ lw_tbl := List.mem_of_getElem? (i := 686) rfl
set_option maxRecDepth 20000 in
theorem mw_366 : Cond.instanceMethod yX5_begin ∈ lw_tbl := List.mem_of_getElem? (i := 685) rfl
set_option maxRecDepth 20000 in
theorem mw_367 : Cond.methodLink RL 35 yX5_begin ∈ lw_tbl := List.mem_of_getElem? (i := 684) rfl
set_option maxRecDepth 20000 in
theorem mw_368 : Cond.code yX4_end cX4_end 2 (some .int) ∈ lw_tbl := List.mem_of_getElem? (i := 341) rfl
set_option maxRecDepth 20000 in
theorem mw_369 : Cond.fieldLink RX3 44 "PumpHouse$Station" "pumped" "I" ∈ lw_tbl := List.mem_of_getElem? (i := 154) rfl
set_option maxRecDepth 20000 in
theorem mw_370 : Cond.fieldLink RX3 35 "PumpHouse$Station" "pumps" "Z" ∈ lw_tbl := List.mem_of_getElem? (i := 148) rfl
set_option maxRecDepth 20000 in
theorem mw_371 : Cond.code yX3_stopPumping cX3_stopPumping 1 none ∈ lw_tbl := List.mem_of_getElem? (i := 345) rfl
set_option maxRecDepth 20000 in
theorem mw_372 : Cond.initialized RX3 ∈ lw_tbl := List.mem_of_getElem? (i := 44) rfl
set_option maxRecDepth 20000 in
theorem mw_373 : Cond.selects RX3 yX3_stopPumping yX3_stopPumping ∈ lw_tbl := List.mem_of_getElem? (i := 344) rfl
set_option maxRecDepth 20000 in
theorem mw_374 : Cond.instanceMethod yX3_stopPumping ∈ lw_tbl := List.mem_of_getElem? (i := 343) rfl
set_option maxRecDepth 20000 in
theorem mw_375 : Cond.methodLink RX4 161 yX3_stopPumping ∈ lw_tbl := List.mem_of_getElem? (i := 342) rfl
set_option maxRecDepth 20000 in
theorem mw_376 : Cond.code yX4_isStation cX4_isStation 2 (some .boolean) ∈ lw_tbl := List.mem_of_getElem? (i := 288) rfl
set_option maxRecDepth 20000 in
theorem mw_377 : Cond.selects RX4 yX4_isStation yX4_isStation ∈ lw_tbl := List.mem_of_getElem? (i := 3) rfl
set_option maxRecDepth 20000 in
theorem mw_378 : Cond.instanceMethod yX4_isStation ∈ lw_tbl := List.mem_of_getElem? (i := 287) rfl
set_option maxRecDepth 20000 in
theorem mw_379 : Cond.methodLink RX4 158 yX4_isStation ∈ lw_tbl := List.mem_of_getElem? (i := 285) rfl
set_option maxRecDepth 20000 in
theorem mw_380 : Cond.fieldLink RX4 164 "PumpHouse$Station" "pumped" "I" ∈ lw_tbl := List.mem_of_getElem? (i := 155) rfl
set_option maxRecDepth 20000 in
theorem mw_381 : Cond.fieldLink RX4 111 "PumpHouse$Station" "pumps" "Z" ∈ lw_tbl := List.mem_of_getElem? (i := 149) rfl
set_option maxRecDepth 20000 in
theorem mw_382 : Cond.fieldLink RX4 18 "PumpHouse" "stations" "[LPumpHouse$Station;" ∈ lw_tbl := List.mem_of_getElem? (i := 244) rfl
set_option maxRecDepth 20000 in
theorem mw_383 : Cond.selects RX4 yX4_end yX4_end ∈ lw_tbl := List.mem_of_getElem? (i := 340) rfl
set_option maxRecDepth 20000 in
theorem mw_384 : Cond.instanceMethod yX4_end ∈ lw_tbl := List.mem_of_getElem? (i := 339) rfl
set_option maxRecDepth 20000 in
theorem mw_385 : Cond.methodLink RL 36 yX4_end ∈ lw_tbl := List.mem_of_getElem? (i := 338) rfl
set_option maxRecDepth 20000 in
theorem mw_386 : Cond.code yX5_end cX5_end 2 (some .int) ∈ lw_tbl := List.mem_of_getElem? (i := 699) rfl
set_option maxRecDepth 20000 in
theorem mw_387 : Cond.code yX5_stop cX5_stop 2 none ∈ lw_tbl := List.mem_of_getElem? (i := 703) rfl
set_option maxRecDepth 20000 in
theorem mw_388 : Cond.selects RX5 yX5_stop yX5_stop ∈ lw_tbl := List.mem_of_getElem? (i := 30) rfl
set_option maxRecDepth 20000 in
theorem mw_389 : Cond.instanceMethod yX5_stop ∈ lw_tbl := List.mem_of_getElem? (i := 702) rfl
set_option maxRecDepth 20000 in
theorem mw_390 : Cond.methodLink RX5 176 yX5_stop ∈ lw_tbl := List.mem_of_getElem? (i := 700) rfl
set_option maxRecDepth 20000 in
theorem mw_391 : Cond.fieldLink RX5 32 "PumpHouseModel" "pumped" "[I" ∈ lw_tbl := List.mem_of_getElem? (i := 572) rfl
set_option maxRecDepth 20000 in
theorem mw_392 : Cond.fieldLink RX5 20 "PumpHouseModel" "pumps" "[Z" ∈ lw_tbl := List.mem_of_getElem? (i := 568) rfl
set_option maxRecDepth 20000 in
theorem mw_393 : Cond.selects RX5 yX5_end yX5_end ∈ lw_tbl := List.mem_of_getElem? (i := 698) rfl
set_option maxRecDepth 20000 in
theorem mw_394 : Cond.instanceMethod yX5_end ∈ lw_tbl := List.mem_of_getElem? (i := 697) rfl
set_option maxRecDepth 20000 in
theorem mw_395 : Cond.methodLink RL 39 yX5_end ∈ lw_tbl := List.mem_of_getElem? (i := 696) rfl
set_option maxRecDepth 20000 in
theorem mw_396 : Cond.code yX4_step cX4_step 3 (some .int) ∈ lw_tbl := List.mem_of_getElem? (i := 349) rfl
set_option maxRecDepth 20000 in
theorem mw_397 : Cond.fieldLink RX4 187 "PumpHouse$Station" "lastAskRank" "I" ∈ lw_tbl := List.mem_of_getElem? (i := 147) rfl
set_option maxRecDepth 20000 in
theorem mw_398 : Cond.fieldLink RX4 178 "PumpHouse$Station" "asked" "Z" ∈ lw_tbl := List.mem_of_getElem? (i := 145) rfl
set_option maxRecDepth 20000 in
theorem mw_399 : Cond.fieldLink RX4 274 "PumpHouse$Station" "self" "I" ∈ lw_tbl := List.mem_of_getElem? (i := 139) rfl
set_option maxRecDepth 20000 in
theorem mw_400 : Cond.code yX4_canPassOn cX4_canPassOn 3 (some .boolean) ∈ lw_tbl := List.mem_of_getElem? (i := 353) rfl
set_option maxRecDepth 20000 in
theorem mw_401 : Cond.selects RX4 yX4_canPassOn yX4_canPassOn ∈ lw_tbl := List.mem_of_getElem? (i := 6) rfl
set_option maxRecDepth 20000 in
theorem mw_402 : Cond.instanceMethod yX4_canPassOn ∈ lw_tbl := List.mem_of_getElem? (i := 352) rfl
set_option maxRecDepth 20000 in
theorem mw_403 : Cond.methodLink RX4 167 yX4_canPassOn ∈ lw_tbl := List.mem_of_getElem? (i := 350) rfl
set_option maxRecDepth 20000 in
theorem mw_404 : Cond.code yX4_passOn cX4_passOn 3 none ∈ lw_tbl := List.mem_of_getElem? (i := 357) rfl
set_option maxRecDepth 20000 in
theorem mw_405 : Cond.selects RX4 yX4_passOn yX4_passOn ∈ lw_tbl := List.mem_of_getElem? (i := 7) rfl
set_option maxRecDepth 20000 in
theorem mw_406 : Cond.instanceMethod yX4_passOn ∈ lw_tbl := List.mem_of_getElem? (i := 356) rfl
set_option maxRecDepth 20000 in
theorem mw_407 : Cond.methodLink RX4 171 yX4_passOn ∈ lw_tbl := List.mem_of_getElem? (i := 354) rfl
set_option maxRecDepth 20000 in
theorem mw_408 : Cond.fieldLink RX1 27 "PumpHouse$Letters" "size" "I" ∈ lw_tbl := List.mem_of_getElem? (i := 96) rfl
set_option maxRecDepth 20000 in
theorem mw_409 : Cond.code yX1_firstBetween cX1_firstBetween 4 (some .int) ∈ lw_tbl := List.mem_of_getElem? (i := 365) rfl
set_option maxRecDepth 20000 in
theorem mw_410 : Cond.selects RX1 yX1_firstBetween yX1_firstBetween ∈ lw_tbl := List.mem_of_getElem? (i := 364) rfl
set_option maxRecDepth 20000 in
theorem mw_411 : Cond.instanceMethod yX1_firstBetween ∈ lw_tbl := List.mem_of_getElem? (i := 363) rfl
set_option maxRecDepth 20000 in
theorem mw_412 : Cond.methodLink RX4 280 yX1_firstBetween ∈ lw_tbl := List.mem_of_getElem? (i := 362) rfl
set_option maxRecDepth 20000 in
theorem mw_413 : Cond.code yX4_send cX4_send 6 none ∈ lw_tbl := List.mem_of_getElem? (i := 361) rfl
set_option maxRecDepth 20000 in
theorem mw_414 : Cond.selects RX4 yX4_send yX4_send ∈ lw_tbl := List.mem_of_getElem? (i := 8) rfl
set_option maxRecDepth 20000 in
theorem mw_415 : Cond.instanceMethod yX4_send ∈ lw_tbl := List.mem_of_getElem? (i := 360) rfl
set_option maxRecDepth 20000 in
theorem mw_416 : Cond.methodLink RX4 277 yX4_send ∈ lw_tbl := List.mem_of_getElem? (i := 358) rfl
set_option maxRecDepth 20000 in
theorem mw_417 : Cond.selects RX2 yX2_greatestRank yX2_greatestRank ∈ lw_tbl := List.mem_of_getElem? (i := 385) rfl
set_option maxRecDepth 20000 in
theorem mw_418 : Cond.instanceMethod yX2_greatestRank ∈ lw_tbl := List.mem_of_getElem? (i := 384) rfl
set_option maxRecDepth 20000 in
theorem mw_419 : Cond.methodLink RX4 184 yX2_greatestRank ∈ lw_tbl := List.mem_of_getElem? (i := 383) rfl
set_option maxRecDepth 20000 in
theorem mw_420 : Cond.code yX4_ask cX4_ask 2 none ∈ lw_tbl := List.mem_of_getElem? (i := 382) rfl
set_option maxRecDepth 20000 in
theorem mw_421 : Cond.selects RX4 yX4_ask yX4_ask ∈ lw_tbl := List.mem_of_getElem? (i := 10) rfl
set_option maxRecDepth 20000 in
theorem mw_422 : Cond.instanceMethod yX4_ask ∈ lw_tbl := List.mem_of_getElem? (i := 381) rfl
set_option maxRecDepth 20000 in
theorem mw_423 : Cond.methodLink RX4 181 yX4_ask ∈ lw_tbl := List.mem_of_getElem? (i := 379) rfl
set_option maxRecDepth 20000 in
theorem mw_424 : Cond.methodLink RX1 31 yX1_add ∈ lw_tbl := List.mem_of_getElem? (i := 378) rfl
set_option maxRecDepth 20000 in
theorem mw_425 : Cond.code yX1_addCopy cX1_addCopy 3 none ∈ lw_tbl := List.mem_of_getElem? (i := 377) rfl
set_option maxRecDepth 20000 in
theorem mw_426 : Cond.selects RX1 yX1_addCopy yX1_addCopy ∈ lw_tbl := List.mem_of_getElem? (i := 376) rfl
set_option maxRecDepth 20000 in
theorem mw_427 : Cond.instanceMethod yX1_addCopy ∈ lw_tbl := List.mem_of_getElem? (i := 375) rfl
set_option maxRecDepth 20000 in
theorem mw_428 : Cond.methodLink RX4 225 yX1_addCopy ∈ lw_tbl := List.mem_of_getElem? (i := 374) rfl
set_option maxRecDepth 20000 in
theorem mw_429 : Cond.code yX4_copyFirst cX4_copyFirst 4 none ∈ lw_tbl := List.mem_of_getElem? (i := 373) rfl
set_option maxRecDepth 20000 in
theorem mw_430 : Cond.selects RX4 yX4_copyFirst yX4_copyFirst ∈ lw_tbl := List.mem_of_getElem? (i := 9) rfl
set_option maxRecDepth 20000 in
theorem mw_431 : Cond.instanceMethod yX4_copyFirst ∈ lw_tbl := List.mem_of_getElem? (i := 372) rfl
set_option maxRecDepth 20000 in
theorem mw_432 : Cond.methodLink RX4 231 yX4_copyFirst ∈ lw_tbl := List.mem_of_getElem? (i := 370) rfl
set_option maxRecDepth 20000 in
theorem mw_433 : Cond.code yX1_add cX1_add 6 none ∈ lw_tbl := List.mem_of_getElem? (i := 369) rfl
set_option maxRecDepth 20000 in
theorem mw_434 : Cond.selects RX1 yX1_add yX1_add ∈ lw_tbl := List.mem_of_getElem? (i := 368) rfl
set_option maxRecDepth 20000 in
theorem mw_435 : Cond.instanceMethod yX1_add ∈ lw_tbl := List.mem_of_getElem? (i := 367) rfl
set_option maxRecDepth 20000 in
theorem mw_436 : Cond.methodLink RX4 222 yX1_add ∈ lw_tbl := List.mem_of_getElem? (i := 366) rfl
set_option maxRecDepth 20000 in
theorem mw_437 : Cond.code yX3_pointsAway cX3_pointsAway 1 (some .boolean) ∈ lw_tbl := List.mem_of_getElem? (i := 391) rfl
set_option maxRecDepth 20000 in
theorem mw_438 : Cond.selects RX3 yX3_pointsAway yX3_pointsAway ∈ lw_tbl := List.mem_of_getElem? (i := 390) rfl
set_option maxRecDepth 20000 in
theorem mw_439 : Cond.instanceMethod yX3_pointsAway ∈ lw_tbl := List.mem_of_getElem? (i := 389) rfl
set_option maxRecDepth 20000 in
theorem mw_440 : Cond.methodLink RX4 175 yX3_pointsAway ∈ lw_tbl := List.mem_of_getElem? (i := 388) rfl
set_option maxRecDepth 20000 in
theorem mw_441 : Cond.methodLink RX2 43 yX2_greatestPlace ∈ lw_tbl := List.mem_of_getElem? (i := 387) rfl
set_option maxRecDepth 20000 in
theorem mw_442 : Cond.code yX2_greatestRank cX2_greatestRank 1 (some .int) ∈ lw_tbl := List.mem_of_getElem? (i := 386) rfl
set_option maxRecDepth 20000 in
theorem mw_443 : Cond.selects RX4 yX4_step yX4_step ∈ lw_tbl := List.mem_of_getElem? (i := 348) rfl
set_option maxRecDepth 20000 in
theorem mw_444 : Cond.instanceMethod yX4_step ∈ lw_tbl := List.mem_of_getElem? (i := 347) rfl
set_option maxRecDepth 20000 in
theorem mw_445 : Cond.methodLink RL 40 yX4_step ∈ lw_tbl := List.mem_of_getElem? (i := 346) rfl
set_option maxRecDepth 20000 in
theorem mw_446 : Cond.code yX5_step cX5_step 5 (some .int) ∈ lw_tbl := List.mem_of_getElem? (i := 707) rfl
set_option maxRecDepth 20000 in
theorem mw_447 : Cond.code yX5_write cX5_write 5 none ∈ lw_tbl := List.mem_of_getElem? (i := 711) rfl
set_option maxRecDepth 20000 in
theorem mw_448 : Cond.selects RX5 yX5_write yX5_write ∈ lw_tbl := List.mem_of_getElem? (i := 31) rfl
set_option maxRecDepth 20000 in
theorem mw_449 : Cond.instanceMethod yX5_write ∈ lw_tbl := List.mem_of_getElem? (i := 710) rfl
set_option maxRecDepth 20000 in
theorem mw_450 : Cond.methodLink RX5 159 yX5_write ∈ lw_tbl := List.mem_of_getElem? (i := 708) rfl
set_option maxRecDepth 20000 in
theorem mw_451 : Cond.selects RX5 yX5_greatest yX5_greatest ∈ lw_tbl := List.mem_of_getElem? (i := 36) rfl
set_option maxRecDepth 20000 in
theorem mw_452 : Cond.instanceMethod yX5_greatest ∈ lw_tbl := List.mem_of_getElem? (i := 730) rfl
set_option maxRecDepth 20000 in
theorem mw_453 : Cond.methodLink RX5 156 yX5_greatest ∈ lw_tbl := List.mem_of_getElem? (i := 728) rfl
set_option maxRecDepth 20000 in
theorem mw_454 : Cond.code yX5_writeAsk cX5_writeAsk 3 none ∈ lw_tbl := List.mem_of_getElem? (i := 727) rfl
set_option maxRecDepth 20000 in
theorem mw_455 : Cond.selects RX5 yX5_writeAsk yX5_writeAsk ∈ lw_tbl := List.mem_of_getElem? (i := 35) rfl
set_option maxRecDepth 20000 in
theorem mw_456 : Cond.instanceMethod yX5_writeAsk ∈ lw_tbl := List.mem_of_getElem? (i := 726) rfl
set_option maxRecDepth 20000 in
theorem mw_457 : Cond.methodLink RX5 179 yX5_writeAsk ∈ lw_tbl := List.mem_of_getElem? (i := 724) rfl
set_option maxRecDepth 20000 in
theorem mw_458 : Cond.code yX5_send cX5_send 5 none ∈ lw_tbl := List.mem_of_getElem? (i := 723) rfl
set_option maxRecDepth 20000 in
theorem mw_459 : Cond.selects RX5 yX5_send yX5_send ∈ lw_tbl := List.mem_of_getElem? (i := 34) rfl
set_option maxRecDepth 20000 in
theorem mw_460 : Cond.instanceMethod yX5_send ∈ lw_tbl := List.mem_of_getElem? (i := 722) rfl
set_option maxRecDepth 20000 in
theorem mw_461 : Cond.methodLink RX5 148 yX5_send ∈ lw_tbl := List.mem_of_getElem? (i := 720) rfl
set_option maxRecDepth 20000 in
theorem mw_462 : Cond.code yX5_sendFirst cX5_sendFirst 3 none ∈ lw_tbl := List.mem_of_getElem? (i := 719) rfl
set_option maxRecDepth 20000 in
theorem mw_463 : Cond.selects RX5 yX5_sendFirst yX5_sendFirst ∈ lw_tbl := List.mem_of_getElem? (i := 33) rfl
set_option maxRecDepth 20000 in
theorem mw_464 : Cond.instanceMethod yX5_sendFirst ∈ lw_tbl := List.mem_of_getElem? (i := 718) rfl
set_option maxRecDepth 20000 in
theorem mw_465 : Cond.methodLink RX5 152 yX5_sendFirst ∈ lw_tbl := List.mem_of_getElem? (i := 716) rfl
set_option maxRecDepth 20000 in
theorem mw_466 : Cond.code yX5_firstLetter cX5_firstLetter 4 (some .int) ∈ lw_tbl := List.mem_of_getElem? (i := 715) rfl
set_option maxRecDepth 20000 in
theorem mw_467 : Cond.selects RX5 yX5_firstLetter yX5_firstLetter ∈ lw_tbl := List.mem_of_getElem? (i := 32) rfl
set_option maxRecDepth 20000 in
theorem mw_468 : Cond.instanceMethod yX5_firstLetter ∈ lw_tbl := List.mem_of_getElem? (i := 714) rfl
set_option maxRecDepth 20000 in
theorem mw_469 : Cond.methodLink RX5 145 yX5_firstLetter ∈ lw_tbl := List.mem_of_getElem? (i := 712) rfl
set_option maxRecDepth 20000 in
theorem mw_470 : Cond.code yX5_greatest cX5_greatest 4 (some .int) ∈ lw_tbl := List.mem_of_getElem? (i := 731) rfl
set_option maxRecDepth 20000 in
theorem mw_471 : Cond.selects RX5 yX5_step yX5_step ∈ lw_tbl := List.mem_of_getElem? (i := 706) rfl
set_option maxRecDepth 20000 in
theorem mw_472 : Cond.instanceMethod yX5_step ∈ lw_tbl := List.mem_of_getElem? (i := 705) rfl
set_option maxRecDepth 20000 in
theorem mw_473 : Cond.methodLink RL 43 yX5_step ∈ lw_tbl := List.mem_of_getElem? (i := 704) rfl
set_option maxRecDepth 20000 in
theorem mw_474 : Cond.code yX4_deliver cX4_deliver 8 (some .int) ∈ lw_tbl := List.mem_of_getElem? (i := 395) rfl
set_option maxRecDepth 20000 in
theorem mw_475 : Cond.code yX1_remove cX1_remove 2 none ∈ lw_tbl := List.mem_of_getElem? (i := 403) rfl
set_option maxRecDepth 20000 in
theorem mw_476 : Cond.selects RX1 yX1_remove yX1_remove ∈ lw_tbl := List.mem_of_getElem? (i := 402) rfl
set_option maxRecDepth 20000 in
theorem mw_477 : Cond.instanceMethod yX1_remove ∈ lw_tbl := List.mem_of_getElem? (i := 401) rfl
set_option maxRecDepth 20000 in
theorem mw_478 : Cond.methodLink RX4 208 yX1_remove ∈ lw_tbl := List.mem_of_getElem? (i := 400) rfl
set_option maxRecDepth 20000 in
theorem mw_479 : Cond.code yX4_isCopy cX4_isCopy 2 (some .boolean) ∈ lw_tbl := List.mem_of_getElem? (i := 399) rfl
set_option maxRecDepth 20000 in
theorem mw_480 : Cond.selects RX4 yX4_isCopy yX4_isCopy ∈ lw_tbl := List.mem_of_getElem? (i := 11) rfl
set_option maxRecDepth 20000 in
theorem mw_481 : Cond.instanceMethod yX4_isCopy ∈ lw_tbl := List.mem_of_getElem? (i := 398) rfl
set_option maxRecDepth 20000 in
theorem mw_482 : Cond.methodLink RX4 190 yX4_isCopy ∈ lw_tbl := List.mem_of_getElem? (i := 396) rfl
set_option maxRecDepth 20000 in
theorem mw_483 : Cond.fieldLink RX4 205 "PumpHouse$Letters" "ranks" "[I" ∈ lw_tbl := List.mem_of_getElem? (i := 95) rfl
set_option maxRecDepth 20000 in
theorem mw_484 : Cond.fieldLink RX4 202 "PumpHouse$Letters" "numbers" "[I" ∈ lw_tbl := List.mem_of_getElem? (i := 93) rfl
set_option maxRecDepth 20000 in
theorem mw_485 : Cond.fieldLink RX4 199 "PumpHouse$Letters" "receivers" "[I" ∈ lw_tbl := List.mem_of_getElem? (i := 91) rfl
set_option maxRecDepth 20000 in
theorem mw_486 : Cond.fieldLink RX4 196 "PumpHouse$Letters" "senders" "[I" ∈ lw_tbl := List.mem_of_getElem? (i := 89) rfl
set_option maxRecDepth 20000 in
theorem mw_487 : Cond.fieldLink RX4 193 "PumpHouse$Letters" "kinds" "[I" ∈ lw_tbl := List.mem_of_getElem? (i := 87) rfl
set_option maxRecDepth 20000 in
theorem mw_488 : Cond.code yX4_takeOut cX4_takeOut 5 (some .boolean) ∈ lw_tbl := List.mem_of_getElem? (i := 408) rfl
set_option maxRecDepth 20000 in
theorem mw_489 : Cond.selects RX4 yX4_takeOut yX4_takeOut ∈ lw_tbl := List.mem_of_getElem? (i := 12) rfl
set_option maxRecDepth 20000 in
theorem mw_490 : Cond.instanceMethod yX4_takeOut ∈ lw_tbl := List.mem_of_getElem? (i := 407) rfl
set_option maxRecDepth 20000 in
theorem mw_491 : Cond.methodLink RX4 214 yX4_takeOut ∈ lw_tbl := List.mem_of_getElem? (i := 405) rfl
set_option maxRecDepth 20000 in
theorem mw_492 : Cond.methodLink RX2 22 yX2_placeOf ∈ lw_tbl := List.mem_of_getElem? (i := 417) rfl
set_option maxRecDepth 20000 in
theorem mw_493 : Cond.code Lib.Math.max.name Lib.Math.max.code 2 (some .int) ∈ lw_tbl := List.mem_of_getElem? (i := 421) rfl
set_option maxRecDepth 20000 in
theorem mw_494 : Cond.static Lib.Math.max.name ∈ lw_tbl := List.mem_of_getElem? (i := 420) rfl
set_option maxRecDepth 20000 in
theorem mw_495 : Cond.methodLink RX2 30 Lib.Math.max.name ∈ lw_tbl := List.mem_of_getElem? (i := 419) rfl
set_option maxRecDepth 20000 in
theorem mw_496 : Cond.code yX2_admit cX2_admit 4 none ∈ lw_tbl := List.mem_of_getElem? (i := 416) rfl
set_option maxRecDepth 20000 in
theorem mw_497 : Cond.selects RX2 yX2_admit yX2_admit ∈ lw_tbl := List.mem_of_getElem? (i := 415) rfl
set_option maxRecDepth 20000 in
theorem mw_498 : Cond.instanceMethod yX2_admit ∈ lw_tbl := List.mem_of_getElem? (i := 414) rfl
set_option maxRecDepth 20000 in
theorem mw_499 : Cond.methodLink RX4 283 yX2_admit ∈ lw_tbl := List.mem_of_getElem? (i := 413) rfl
set_option maxRecDepth 20000 in
theorem mw_500 : Cond.code yX4_read cX4_read 5 none ∈ lw_tbl := List.mem_of_getElem? (i := 412) rfl
set_option maxRecDepth 20000 in
theorem mw_501 : Cond.selects RX4 yX4_read yX4_read ∈ lw_tbl := List.mem_of_getElem? (i := 13) rfl
set_option maxRecDepth 20000 in
theorem mw_502 : Cond.instanceMethod yX4_read ∈ lw_tbl := List.mem_of_getElem? (i := 411) rfl
set_option maxRecDepth 20000 in
theorem mw_503 : Cond.methodLink RX4 218 yX4_read ∈ lw_tbl := List.mem_of_getElem? (i := 409) rfl
set_option maxRecDepth 20000 in
theorem mw_504 : Cond.methodLink RX2 26 yX2_add ∈ lw_tbl := List.mem_of_getElem? (i := 418) rfl
set_option maxRecDepth 20000 in
theorem mw_505 : Cond.selects RX4 yX4_deliver yX4_deliver ∈ lw_tbl := List.mem_of_getElem? (i := 394) rfl
set_option maxRecDepth 20000 in
theorem mw_506 : Cond.instanceMethod yX4_deliver ∈ lw_tbl := List.mem_of_getElem? (i := 393) rfl
set_option maxRecDepth 20000 in
theorem mw_507 : Cond.methodLink RL 44 yX4_deliver ∈ lw_tbl := List.mem_of_getElem? (i := 392) rfl
set_option maxRecDepth 20000 in
theorem mw_508 : Cond.code yX5_deliver cX5_deliver 10 (some .int) ∈ lw_tbl := List.mem_of_getElem? (i := 735) rfl
set_option maxRecDepth 20000 in
theorem mw_509 : Cond.instanceMethod yX5_dropLetter ∈ lw_tbl := List.mem_of_getElem? (i := 742) rfl
set_option maxRecDepth 20000 in
theorem mw_510 : Cond.methodLink RX5 185 yX5_dropLetter ∈ lw_tbl := List.mem_of_getElem? (i := 740) rfl
set_option maxRecDepth 20000 in
theorem mw_511 : Cond.code yX5_dropCopy cX5_dropCopy 3 none ∈ lw_tbl := List.mem_of_getElem? (i := 739) rfl
set_option maxRecDepth 20000 in
theorem mw_512 : Cond.selects RX5 yX5_dropCopy yX5_dropCopy ∈ lw_tbl := List.mem_of_getElem? (i := 37) rfl
set_option maxRecDepth 20000 in
theorem mw_513 : Cond.instanceMethod yX5_dropCopy ∈ lw_tbl := List.mem_of_getElem? (i := 738) rfl
set_option maxRecDepth 20000 in
theorem mw_514 : Cond.methodLink RX5 182 yX5_dropCopy ∈ lw_tbl := List.mem_of_getElem? (i := 736) rfl
set_option maxRecDepth 20000 in
theorem mw_515 : Cond.code yX5_dropLetter cX5_dropLetter 3 none ∈ lw_tbl := List.mem_of_getElem? (i := 743) rfl
set_option maxRecDepth 20000 in
theorem mw_516 : Cond.selects RX5 yX5_dropLetter yX5_dropLetter ∈ lw_tbl := List.mem_of_getElem? (i := 38) rfl
set_option maxRecDepth 20000 in
theorem mw_517 : Cond.selects RX5 yX5_deliver yX5_deliver ∈ lw_tbl := List.mem_of_getElem? (i := 734) rfl
set_option maxRecDepth 20000 in
theorem mw_518 : Cond.instanceMethod yX5_deliver ∈ lw_tbl := List.mem_of_getElem? (i := 733) rfl
set_option maxRecDepth 20000 in
theorem mw_519 : Cond.methodLink RL 47 yX5_deliver ∈ lw_tbl := List.mem_of_getElem? (i := 732) rfl
set_option maxRecDepth 20000 in
theorem mw_520 : Cond.code yX4_lose cX4_lose 2 (some .int) ∈ lw_tbl := List.mem_of_getElem? (i := 425) rfl
set_option maxRecDepth 20000 in
theorem mw_521 : Cond.selects RX4 yX4_lose yX4_lose ∈ lw_tbl := List.mem_of_getElem? (i := 424) rfl
set_option maxRecDepth 20000 in
theorem mw_522 : Cond.instanceMethod yX4_lose ∈ lw_tbl := List.mem_of_getElem? (i := 423) rfl
set_option maxRecDepth 20000 in
theorem mw_523 : Cond.methodLink RL 48 yX4_lose ∈ lw_tbl := List.mem_of_getElem? (i := 422) rfl
set_option maxRecDepth 20000 in
theorem mw_524 : Cond.code yX5_lose cX5_lose 2 (some .int) ∈ lw_tbl := List.mem_of_getElem? (i := 747) rfl
set_option maxRecDepth 20000 in
theorem mw_525 : Cond.fieldLink RX5 77 "PumpHouseModel" "copyNumbers" "[I" ∈ lw_tbl := List.mem_of_getElem? (i := 590) rfl
set_option maxRecDepth 20000 in
theorem mw_526 : Cond.fieldLink RX5 74 "PumpHouseModel" "copyRanks" "[I" ∈ lw_tbl := List.mem_of_getElem? (i := 589) rfl
set_option maxRecDepth 20000 in
theorem mw_527 : Cond.fieldLink RX5 71 "PumpHouseModel" "copyKinds" "[I" ∈ lw_tbl := List.mem_of_getElem? (i := 588) rfl
set_option maxRecDepth 20000 in
theorem mw_528 : Cond.fieldLink RX5 68 "PumpHouseModel" "copyWays" "[I" ∈ lw_tbl := List.mem_of_getElem? (i := 587) rfl
set_option maxRecDepth 20000 in
theorem mw_529 : Cond.code yX5_dropCopy cX5_dropCopy 3 none ∈ lw_tbl := List.mem_of_getElem? (i := 739) rfl
set_option maxRecDepth 20000 in
theorem mw_530 : Cond.selects RX5 yX5_dropCopy yX5_dropCopy ∈ lw_tbl := List.mem_of_getElem? (i := 37) rfl
set_option maxRecDepth 20000 in
theorem mw_531 : Cond.instanceMethod yX5_dropCopy ∈ lw_tbl := List.mem_of_getElem? (i := 738) rfl
set_option maxRecDepth 20000 in
theorem mw_532 : Cond.methodLink RX5 182 yX5_dropCopy ∈ lw_tbl := List.mem_of_getElem? (i := 736) rfl
set_option maxRecDepth 20000 in
theorem mw_533 : Cond.fieldLink RX5 136 "PumpHouseModel" "copies" "I" ∈ lw_tbl := List.mem_of_getElem? (i := 586) rfl
set_option maxRecDepth 20000 in
theorem mw_534 : Cond.selects RX5 yX5_lose yX5_lose ∈ lw_tbl := List.mem_of_getElem? (i := 746) rfl
set_option maxRecDepth 20000 in
theorem mw_535 : Cond.instanceMethod yX5_lose ∈ lw_tbl := List.mem_of_getElem? (i := 745) rfl
set_option maxRecDepth 20000 in
theorem mw_536 : Cond.methodLink RL 51 yX5_lose ∈ lw_tbl := List.mem_of_getElem? (i := 744) rfl
set_option maxRecDepth 20000 in
theorem mw_537 : Cond.code yX4_twin cX4_twin 2 (some .int) ∈ lw_tbl := List.mem_of_getElem? (i := 429) rfl
set_option maxRecDepth 20000 in
theorem mw_538 : Cond.fieldLink RX1 27 "PumpHouse$Letters" "size" "I" ∈ lw_tbl := List.mem_of_getElem? (i := 96) rfl
set_option maxRecDepth 20000 in
theorem mw_539 : Cond.code yX1_add cX1_add 6 none ∈ lw_tbl := List.mem_of_getElem? (i := 369) rfl
set_option maxRecDepth 20000 in
theorem mw_540 : Cond.selects RX1 yX1_add yX1_add ∈ lw_tbl := List.mem_of_getElem? (i := 368) rfl
set_option maxRecDepth 20000 in
theorem mw_541 : Cond.instanceMethod yX1_add ∈ lw_tbl := List.mem_of_getElem? (i := 367) rfl
set_option maxRecDepth 20000 in
theorem mw_542 : Cond.methodLink RX1 31 yX1_add ∈ lw_tbl := List.mem_of_getElem? (i := 378) rfl
set_option maxRecDepth 20000 in
theorem mw_543 : Cond.fieldLink RX1 24 "PumpHouse$Letters" "ranks" "[I" ∈ lw_tbl := List.mem_of_getElem? (i := 94) rfl
set_option maxRecDepth 20000 in
theorem mw_544 : Cond.fieldLink RX1 21 "PumpHouse$Letters" "numbers" "[I" ∈ lw_tbl := List.mem_of_getElem? (i := 92) rfl
set_option maxRecDepth 20000 in
theorem mw_545 : Cond.fieldLink RX1 18 "PumpHouse$Letters" "receivers" "[I" ∈ lw_tbl := List.mem_of_getElem? (i := 90) rfl
set_option maxRecDepth 20000 in
theorem mw_546 : Cond.fieldLink RX1 15 "PumpHouse$Letters" "senders" "[I" ∈ lw_tbl := List.mem_of_getElem? (i := 88) rfl
set_option maxRecDepth 20000 in
theorem mw_547 : Cond.fieldLink RX1 9 "PumpHouse$Letters" "kinds" "[I" ∈ lw_tbl := List.mem_of_getElem? (i := 86) rfl
set_option maxRecDepth 20000 in
theorem mw_548 : Cond.code yX1_addCopy cX1_addCopy 3 none ∈ lw_tbl := List.mem_of_getElem? (i := 377) rfl
set_option maxRecDepth 20000 in
theorem mw_549 : Cond.initialized RX1 ∈ lw_tbl := List.mem_of_getElem? (i := 43) rfl
set_option maxRecDepth 20000 in
theorem mw_550 : Cond.selects RX1 yX1_addCopy yX1_addCopy ∈ lw_tbl := List.mem_of_getElem? (i := 376) rfl
set_option maxRecDepth 20000 in
theorem mw_551 : Cond.instanceMethod yX1_addCopy ∈ lw_tbl := List.mem_of_getElem? (i := 375) rfl
set_option maxRecDepth 20000 in
theorem mw_552 : Cond.methodLink RX4 225 yX1_addCopy ∈ lw_tbl := List.mem_of_getElem? (i := 374) rfl
set_option maxRecDepth 20000 in
theorem mw_553 : Cond.code yX4_isCopy cX4_isCopy 2 (some .boolean) ∈ lw_tbl := List.mem_of_getElem? (i := 399) rfl
set_option maxRecDepth 20000 in
theorem mw_554 : Cond.selects RX4 yX4_isCopy yX4_isCopy ∈ lw_tbl := List.mem_of_getElem? (i := 11) rfl
set_option maxRecDepth 20000 in
theorem mw_555 : Cond.instanceMethod yX4_isCopy ∈ lw_tbl := List.mem_of_getElem? (i := 398) rfl
set_option maxRecDepth 20000 in
theorem mw_556 : Cond.methodLink RX4 190 yX4_isCopy ∈ lw_tbl := List.mem_of_getElem? (i := 396) rfl
set_option maxRecDepth 20000 in
theorem mw_557 : Cond.fieldLink RX4 94 "PumpHouse$Letters" "size" "I" ∈ lw_tbl := List.mem_of_getElem? (i := 97) rfl
set_option maxRecDepth 20000 in
theorem mw_558 : Cond.fieldLink RX4 31 "PumpHouse" "pool" "LPumpHouse$Letters;" ∈ lw_tbl := List.mem_of_getElem? (i := 246) rfl
set_option maxRecDepth 20000 in
theorem mw_559 : Cond.selects RX4 yX4_twin yX4_twin ∈ lw_tbl := List.mem_of_getElem? (i := 428) rfl
set_option maxRecDepth 20000 in
theorem mw_560 : Cond.instanceMethod yX4_twin ∈ lw_tbl := List.mem_of_getElem? (i := 427) rfl
set_option maxRecDepth 20000 in
theorem mw_561 : Cond.methodLink RL 52 yX4_twin ∈ lw_tbl := List.mem_of_getElem? (i := 426) rfl
set_option maxRecDepth 20000 in
theorem mw_562 : Cond.code yX5_twin cX5_twin 2 (some .int) ∈ lw_tbl := List.mem_of_getElem? (i := 751) rfl
set_option maxRecDepth 20000 in
theorem mw_563 : Cond.code yX5_send cX5_send 5 none ∈ lw_tbl := List.mem_of_getElem? (i := 723) rfl
set_option maxRecDepth 20000 in
theorem mw_564 : Cond.selects RX5 yX5_send yX5_send ∈ lw_tbl := List.mem_of_getElem? (i := 34) rfl
set_option maxRecDepth 20000 in
theorem mw_565 : Cond.instanceMethod yX5_send ∈ lw_tbl := List.mem_of_getElem? (i := 722) rfl
set_option maxRecDepth 20000 in
theorem mw_566 : Cond.methodLink RX5 148 yX5_send ∈ lw_tbl := List.mem_of_getElem? (i := 720) rfl
set_option maxRecDepth 20000 in
theorem mw_567 : Cond.selects RX5 yX5_twin yX5_twin ∈ lw_tbl := List.mem_of_getElem? (i := 750) rfl
set_option maxRecDepth 20000 in
theorem mw_568 : Cond.instanceMethod yX5_twin ∈ lw_tbl := List.mem_of_getElem? (i := 749) rfl
set_option maxRecDepth 20000 in
theorem mw_569 : Cond.methodLink RL 55 yX5_twin ∈ lw_tbl := List.mem_of_getElem? (i := 748) rfl
set_option maxRecDepth 20000 in
theorem mw_570 : Cond.code yX4_resend cX4_resend 3 (some .int) ∈ lw_tbl := List.mem_of_getElem? (i := 433) rfl
set_option maxRecDepth 20000 in
theorem mw_571 : Cond.selects RX4 yX4_resend yX4_resend ∈ lw_tbl := List.mem_of_getElem? (i := 432) rfl
set_option maxRecDepth 20000 in
theorem mw_572 : Cond.instanceMethod yX4_resend ∈ lw_tbl := List.mem_of_getElem? (i := 431) rfl
set_option maxRecDepth 20000 in
theorem mw_573 : Cond.methodLink RL 56 yX4_resend ∈ lw_tbl := List.mem_of_getElem? (i := 430) rfl
set_option maxRecDepth 20000 in
theorem mw_574 : Cond.code yX5_resend cX5_resend 3 (some .int) ∈ lw_tbl := List.mem_of_getElem? (i := 755) rfl
set_option maxRecDepth 20000 in
theorem mw_575 : Cond.selects RX5 yX5_resend yX5_resend ∈ lw_tbl := List.mem_of_getElem? (i := 754) rfl
set_option maxRecDepth 20000 in
theorem mw_576 : Cond.instanceMethod yX5_resend ∈ lw_tbl := List.mem_of_getElem? (i := 753) rfl
set_option maxRecDepth 20000 in
theorem mw_577 : Cond.methodLink RL 59 yX5_resend ∈ lw_tbl := List.mem_of_getElem? (i := 752) rfl
set_option maxRecDepth 20000 in
theorem mw_578 : Cond.code yX4_crash cX4_crash 3 (some .int) ∈ lw_tbl := List.mem_of_getElem? (i := 437) rfl
set_option maxRecDepth 20000 in
theorem mw_579 : Cond.selects RX3 yX3_stopPumping yX3_stopPumping ∈ lw_tbl := List.mem_of_getElem? (i := 344) rfl
set_option maxRecDepth 20000 in
theorem mw_580 : Cond.instanceMethod yX3_stopPumping ∈ lw_tbl := List.mem_of_getElem? (i := 343) rfl
set_option maxRecDepth 20000 in
theorem mw_581 : Cond.methodLink RX4 161 yX3_stopPumping ∈ lw_tbl := List.mem_of_getElem? (i := 342) rfl
set_option maxRecDepth 20000 in
theorem mw_582 : Cond.code yX3_stopPumping cX3_stopPumping 1 none ∈ lw_tbl := List.mem_of_getElem? (i := 345) rfl
set_option maxRecDepth 20000 in
theorem mw_583 : Cond.selects RX4 yX4_crash yX4_crash ∈ lw_tbl := List.mem_of_getElem? (i := 436) rfl
set_option maxRecDepth 20000 in
theorem mw_584 : Cond.instanceMethod yX4_crash ∈ lw_tbl := List.mem_of_getElem? (i := 435) rfl
set_option maxRecDepth 20000 in
theorem mw_585 : Cond.methodLink RL 60 yX4_crash ∈ lw_tbl := List.mem_of_getElem? (i := 434) rfl
set_option maxRecDepth 20000 in
theorem mw_586 : Cond.code yX5_crash cX5_crash 2 (some .int) ∈ lw_tbl := List.mem_of_getElem? (i := 759) rfl
set_option maxRecDepth 20000 in
theorem mw_587 : Cond.code yX5_isUp cX5_isUp 2 (some .boolean) ∈ lw_tbl := List.mem_of_getElem? (i := 671) rfl
set_option maxRecDepth 20000 in
theorem mw_588 : Cond.selects RX5 yX5_isUp yX5_isUp ∈ lw_tbl := List.mem_of_getElem? (i := 24) rfl
set_option maxRecDepth 20000 in
theorem mw_589 : Cond.instanceMethod yX5_isUp ∈ lw_tbl := List.mem_of_getElem? (i := 670) rfl
set_option maxRecDepth 20000 in
theorem mw_590 : Cond.methodLink RX5 163 yX5_isUp ∈ lw_tbl := List.mem_of_getElem? (i := 668) rfl
set_option maxRecDepth 20000 in
theorem mw_591 : Cond.fieldLink RX5 23 "PumpHouseModel" "down" "[Z" ∈ lw_tbl := List.mem_of_getElem? (i := 569) rfl
set_option maxRecDepth 20000 in
theorem mw_592 : Cond.selects RX5 yX5_crash yX5_crash ∈ lw_tbl := List.mem_of_getElem? (i := 758) rfl
set_option maxRecDepth 20000 in
theorem mw_593 : Cond.instanceMethod yX5_crash ∈ lw_tbl := List.mem_of_getElem? (i := 757) rfl
set_option maxRecDepth 20000 in
theorem mw_594 : Cond.methodLink RL 63 yX5_crash ∈ lw_tbl := List.mem_of_getElem? (i := 756) rfl
set_option maxRecDepth 20000 in
theorem mw_595 : Cond.code yX4_restart cX4_restart 2 (some .int) ∈ lw_tbl := List.mem_of_getElem? (i := 441) rfl
set_option maxRecDepth 20000 in
theorem mw_596 : Cond.fieldLink RX4 211 "PumpHouse$Station" "down" "Z" ∈ lw_tbl := List.mem_of_getElem? (i := 151) rfl
set_option maxRecDepth 20000 in
theorem mw_597 : Cond.selects RX4 yX4_restart yX4_restart ∈ lw_tbl := List.mem_of_getElem? (i := 440) rfl
set_option maxRecDepth 20000 in
theorem mw_598 : Cond.instanceMethod yX4_restart ∈ lw_tbl := List.mem_of_getElem? (i := 439) rfl
set_option maxRecDepth 20000 in
theorem mw_599 : Cond.methodLink RL 64 yX4_restart ∈ lw_tbl := List.mem_of_getElem? (i := 438) rfl
set_option maxRecDepth 20000 in
theorem mw_600 : Cond.code yX5_restart cX5_restart 2 (some .int) ∈ lw_tbl := List.mem_of_getElem? (i := 763) rfl
set_option maxRecDepth 20000 in
theorem mw_601 : Cond.selects RX5 yX5_restart yX5_restart ∈ lw_tbl := List.mem_of_getElem? (i := 762) rfl
set_option maxRecDepth 20000 in
theorem mw_602 : Cond.instanceMethod yX5_restart ∈ lw_tbl := List.mem_of_getElem? (i := 761) rfl
set_option maxRecDepth 20000 in
theorem mw_603 : Cond.methodLink RL 67 yX5_restart ∈ lw_tbl := List.mem_of_getElem? (i := 760) rfl
set_option maxRecDepth 20000 in
theorem mw_604 : Cond.code yX4_cut cX4_cut 3 (some .int) ∈ lw_tbl := List.mem_of_getElem? (i := 445) rfl
set_option maxRecDepth 20000 in
theorem mw_605 : Cond.code yX0_untie cX0_untie 3 none ∈ lw_tbl := List.mem_of_getElem? (i := 455) rfl
set_option maxRecDepth 20000 in
theorem mw_606 : Cond.selects RX0 yX0_untie yX0_untie ∈ lw_tbl := List.mem_of_getElem? (i := 454) rfl
set_option maxRecDepth 20000 in
theorem mw_607 : Cond.instanceMethod yX0_untie ∈ lw_tbl := List.mem_of_getElem? (i := 453) rfl
set_option maxRecDepth 20000 in
theorem mw_608 : Cond.methodLink RX4 243 yX0_untie ∈ lw_tbl := List.mem_of_getElem? (i := 452) rfl
set_option maxRecDepth 20000 in
theorem mw_609 : Cond.methodLink RX4 240 yX2_placeOf ∈ lw_tbl := List.mem_of_getElem? (i := 451) rfl
set_option maxRecDepth 20000 in
theorem mw_610 : Cond.methodLink RX1 39 yX1_firstBetween ∈ lw_tbl := List.mem_of_getElem? (i := 450) rfl
set_option maxRecDepth 20000 in
theorem mw_611 : Cond.code yX1_hasBetween cX1_hasBetween 3 (some .boolean) ∈ lw_tbl := List.mem_of_getElem? (i := 449) rfl
set_option maxRecDepth 20000 in
theorem mw_612 : Cond.selects RX1 yX1_hasBetween yX1_hasBetween ∈ lw_tbl := List.mem_of_getElem? (i := 448) rfl
set_option maxRecDepth 20000 in
theorem mw_613 : Cond.instanceMethod yX1_hasBetween ∈ lw_tbl := List.mem_of_getElem? (i := 447) rfl
set_option maxRecDepth 20000 in
theorem mw_614 : Cond.methodLink RX4 237 yX1_hasBetween ∈ lw_tbl := List.mem_of_getElem? (i := 446) rfl
set_option maxRecDepth 20000 in
theorem mw_615 : Cond.code yX3_forget cX3_forget 2 none ∈ lw_tbl := List.mem_of_getElem? (i := 459) rfl
set_option maxRecDepth 20000 in
theorem mw_616 : Cond.selects RX3 yX3_forget yX3_forget ∈ lw_tbl := List.mem_of_getElem? (i := 458) rfl
set_option maxRecDepth 20000 in
theorem mw_617 : Cond.instanceMethod yX3_forget ∈ lw_tbl := List.mem_of_getElem? (i := 457) rfl
set_option maxRecDepth 20000 in
theorem mw_618 : Cond.methodLink RX4 246 yX3_forget ∈ lw_tbl := List.mem_of_getElem? (i := 456) rfl
set_option maxRecDepth 20000 in
theorem mw_619 : Cond.selects RX4 yX4_cut yX4_cut ∈ lw_tbl := List.mem_of_getElem? (i := 444) rfl
set_option maxRecDepth 20000 in
theorem mw_620 : Cond.instanceMethod yX4_cut ∈ lw_tbl := List.mem_of_getElem? (i := 443) rfl
set_option maxRecDepth 20000 in
theorem mw_621 : Cond.methodLink RL 68 yX4_cut ∈ lw_tbl := List.mem_of_getElem? (i := 442) rfl
set_option maxRecDepth 20000 in
theorem mw_622 : Cond.code yX5_cut cX5_cut 7 (some .int) ∈ lw_tbl := List.mem_of_getElem? (i := 767) rfl
set_option maxRecDepth 20000 in
theorem mw_623 : Cond.selects RX5 yX5_cut yX5_cut ∈ lw_tbl := List.mem_of_getElem? (i := 766) rfl
set_option maxRecDepth 20000 in
theorem mw_624 : Cond.instanceMethod yX5_cut ∈ lw_tbl := List.mem_of_getElem? (i := 765) rfl
set_option maxRecDepth 20000 in
theorem mw_625 : Cond.methodLink RL 71 yX5_cut ∈ lw_tbl := List.mem_of_getElem? (i := 764) rfl
set_option maxRecDepth 20000 in
theorem mw_626 : Cond.code yX4_join cX4_join 5 (some .int) ∈ lw_tbl := List.mem_of_getElem? (i := 463) rfl
set_option maxRecDepth 20000 in
theorem mw_627 : Cond.code yX4_placeOfRight cX4_placeOfRight 4 (some .int) ∈ lw_tbl := List.mem_of_getElem? (i := 467) rfl
set_option maxRecDepth 20000 in
theorem mw_628 : Cond.selects RX4 yX4_placeOfRight yX4_placeOfRight ∈ lw_tbl := List.mem_of_getElem? (i := 14) rfl
set_option maxRecDepth 20000 in
theorem mw_629 : Cond.instanceMethod yX4_placeOfRight ∈ lw_tbl := List.mem_of_getElem? (i := 466) rfl
set_option maxRecDepth 20000 in
theorem mw_630 : Cond.methodLink RX4 249 yX4_placeOfRight ∈ lw_tbl := List.mem_of_getElem? (i := 464) rfl
set_option maxRecDepth 20000 in
theorem mw_631 : Cond.selects RX4 yX4_hang yX4_hang ∈ lw_tbl := List.mem_of_getElem? (i := 16) rfl
set_option maxRecDepth 20000 in
theorem mw_632 : Cond.instanceMethod yX4_hang ∈ lw_tbl := List.mem_of_getElem? (i := 474) rfl
set_option maxRecDepth 20000 in
theorem mw_633 : Cond.methodLink RX4 252 yX4_hang ∈ lw_tbl := List.mem_of_getElem? (i := 472) rfl
set_option maxRecDepth 20000 in
theorem mw_634 : Cond.code yX4_whoHolds cX4_whoHolds 2 (some .int) ∈ lw_tbl := List.mem_of_getElem? (i := 471) rfl
set_option maxRecDepth 20000 in
theorem mw_635 : Cond.selects RX4 yX4_whoHolds yX4_whoHolds ∈ lw_tbl := List.mem_of_getElem? (i := 15) rfl
set_option maxRecDepth 20000 in
theorem mw_636 : Cond.instanceMethod yX4_whoHolds ∈ lw_tbl := List.mem_of_getElem? (i := 470) rfl
set_option maxRecDepth 20000 in
theorem mw_637 : Cond.methodLink RX4 255 yX4_whoHolds ∈ lw_tbl := List.mem_of_getElem? (i := 468) rfl
set_option maxRecDepth 20000 in
theorem mw_638 : Cond.code yX4_turnPointers cX4_turnPointers 7 none ∈ lw_tbl := List.mem_of_getElem? (i := 483) rfl
set_option maxRecDepth 20000 in
theorem mw_639 : Cond.selects RX4 yX4_turnPointers yX4_turnPointers ∈ lw_tbl := List.mem_of_getElem? (i := 18) rfl
set_option maxRecDepth 20000 in
theorem mw_640 : Cond.instanceMethod yX4_turnPointers ∈ lw_tbl := List.mem_of_getElem? (i := 482) rfl
set_option maxRecDepth 20000 in
theorem mw_641 : Cond.methodLink RX4 289 yX4_turnPointers ∈ lw_tbl := List.mem_of_getElem? (i := 480) rfl
set_option maxRecDepth 20000 in
theorem mw_642 : Cond.code yX4_hasMarkFrom cX4_hasMarkFrom 4 (some .boolean) ∈ lw_tbl := List.mem_of_getElem? (i := 479) rfl
set_option maxRecDepth 20000 in
theorem mw_643 : Cond.selects RX4 yX4_hasMarkFrom yX4_hasMarkFrom ∈ lw_tbl := List.mem_of_getElem? (i := 17) rfl
set_option maxRecDepth 20000 in
theorem mw_644 : Cond.instanceMethod yX4_hasMarkFrom ∈ lw_tbl := List.mem_of_getElem? (i := 478) rfl
set_option maxRecDepth 20000 in
theorem mw_645 : Cond.methodLink RX4 286 yX4_hasMarkFrom ∈ lw_tbl := List.mem_of_getElem? (i := 476) rfl
set_option maxRecDepth 20000 in
theorem mw_646 : Cond.code yX4_hang cX4_hang 3 (some .int) ∈ lw_tbl := List.mem_of_getElem? (i := 475) rfl
set_option maxRecDepth 20000 in
theorem mw_647 : Cond.selects RX4 yX4_join yX4_join ∈ lw_tbl := List.mem_of_getElem? (i := 462) rfl
set_option maxRecDepth 20000 in
theorem mw_648 : Cond.instanceMethod yX4_join ∈ lw_tbl := List.mem_of_getElem? (i := 461) rfl
set_option maxRecDepth 20000 in
theorem mw_649 : Cond.methodLink RL 72 yX4_join ∈ lw_tbl := List.mem_of_getElem? (i := 460) rfl
set_option maxRecDepth 20000 in
theorem mw_650 : Cond.code yX5_join cX5_join 9 (some .int) ∈ lw_tbl := List.mem_of_getElem? (i := 771) rfl
set_option maxRecDepth 20000 in
theorem mw_651 : Cond.code yX5_rightAt cX5_rightAt 3 (some .int) ∈ lw_tbl := List.mem_of_getElem? (i := 775) rfl
set_option maxRecDepth 20000 in
theorem mw_652 : Cond.selects RX5 yX5_rightAt yX5_rightAt ∈ lw_tbl := List.mem_of_getElem? (i := 39) rfl
set_option maxRecDepth 20000 in
theorem mw_653 : Cond.instanceMethod yX5_rightAt ∈ lw_tbl := List.mem_of_getElem? (i := 774) rfl
set_option maxRecDepth 20000 in
theorem mw_654 : Cond.methodLink RX5 188 yX5_rightAt ∈ lw_tbl := List.mem_of_getElem? (i := 772) rfl
set_option maxRecDepth 20000 in
theorem mw_655 : Cond.selects RX5 yX5_join yX5_join ∈ lw_tbl := List.mem_of_getElem? (i := 770) rfl
set_option maxRecDepth 20000 in
theorem mw_656 : Cond.instanceMethod yX5_join ∈ lw_tbl := List.mem_of_getElem? (i := 769) rfl
set_option maxRecDepth 20000 in
theorem mw_657 : Cond.methodLink RL 75 yX5_join ∈ lw_tbl := List.mem_of_getElem? (i := 768) rfl
set_option maxRecDepth 20000 in
theorem mw_658 : Cond.code yX4_holder cX4_holder 1 (some .int) ∈ lw_tbl := List.mem_of_getElem? (i := 487) rfl
set_option maxRecDepth 20000 in
theorem mw_659 : Cond.fieldLink RX3 18 "PumpHouse$Station" "self" "I" ∈ lw_tbl := List.mem_of_getElem? (i := 138) rfl
set_option maxRecDepth 20000 in
theorem mw_660 : Cond.fieldLink RX3 25 "PumpHouse$Station" "pointer" "I" ∈ lw_tbl := List.mem_of_getElem? (i := 142) rfl
set_option maxRecDepth 20000 in
theorem mw_661 : Cond.code yX3_holds cX3_holds 1 (some .boolean) ∈ lw_tbl := List.mem_of_getElem? (i := 320) rfl
set_option maxRecDepth 20000 in
theorem mw_662 : Cond.selects RX3 yX3_holds yX3_holds ∈ lw_tbl := List.mem_of_getElem? (i := 319) rfl
set_option maxRecDepth 20000 in
theorem mw_663 : Cond.instanceMethod yX3_holds ∈ lw_tbl := List.mem_of_getElem? (i := 318) rfl
set_option maxRecDepth 20000 in
theorem mw_664 : Cond.methodLink RX4 139 yX3_holds ∈ lw_tbl := List.mem_of_getElem? (i := 317) rfl
set_option maxRecDepth 20000 in
theorem mw_665 : Cond.fieldLink RX4 229 "PumpHouse$Canals" "stations" "I" ∈ lw_tbl := List.mem_of_getElem? (i := 67) rfl
set_option maxRecDepth 20000 in
theorem mw_666 : Cond.code yX4_whoHolds cX4_whoHolds 2 (some .int) ∈ lw_tbl := List.mem_of_getElem? (i := 471) rfl
set_option maxRecDepth 20000 in
theorem mw_667 : Cond.selects RX4 yX4_whoHolds yX4_whoHolds ∈ lw_tbl := List.mem_of_getElem? (i := 15) rfl
set_option maxRecDepth 20000 in
theorem mw_668 : Cond.instanceMethod yX4_whoHolds ∈ lw_tbl := List.mem_of_getElem? (i := 470) rfl
set_option maxRecDepth 20000 in
theorem mw_669 : Cond.methodLink RX4 255 yX4_whoHolds ∈ lw_tbl := List.mem_of_getElem? (i := 468) rfl
set_option maxRecDepth 20000 in
theorem mw_670 : Cond.selects RX4 yX4_holder yX4_holder ∈ lw_tbl := List.mem_of_getElem? (i := 486) rfl
set_option maxRecDepth 20000 in
theorem mw_671 : Cond.instanceMethod yX4_holder ∈ lw_tbl := List.mem_of_getElem? (i := 485) rfl
set_option maxRecDepth 20000 in
theorem mw_672 : Cond.methodLink RL 76 yX4_holder ∈ lw_tbl := List.mem_of_getElem? (i := 484) rfl
set_option maxRecDepth 20000 in
theorem mw_673 : Cond.code yX5_holder cX5_holder 3 (some .int) ∈ lw_tbl := List.mem_of_getElem? (i := 779) rfl
set_option maxRecDepth 20000 in
theorem mw_674 : Cond.fieldLink RX5 13 "PumpHouseModel" "pointers" "[I" ∈ lw_tbl := List.mem_of_getElem? (i := 566) rfl
set_option maxRecDepth 20000 in
theorem mw_675 : Cond.selects RX5 yX5_holder yX5_holder ∈ lw_tbl := List.mem_of_getElem? (i := 778) rfl
set_option maxRecDepth 20000 in
theorem mw_676 : Cond.instanceMethod yX5_holder ∈ lw_tbl := List.mem_of_getElem? (i := 777) rfl
set_option maxRecDepth 20000 in
theorem mw_677 : Cond.methodLink RL 80 yX5_holder ∈ lw_tbl := List.mem_of_getElem? (i := 776) rfl
set_option maxRecDepth 20000 in
theorem mw_678 : Cond.code yX4_pointer cX4_pointer 2 (some .int) ∈ lw_tbl := List.mem_of_getElem? (i := 491) rfl
set_option maxRecDepth 20000 in
theorem mw_679 : Cond.fieldLink RX4 258 "PumpHouse$Station" "pointer" "I" ∈ lw_tbl := List.mem_of_getElem? (i := 143) rfl
set_option maxRecDepth 20000 in
theorem mw_680 : Cond.selects RX4 yX4_pointer yX4_pointer ∈ lw_tbl := List.mem_of_getElem? (i := 490) rfl
set_option maxRecDepth 20000 in
theorem mw_681 : Cond.instanceMethod yX4_pointer ∈ lw_tbl := List.mem_of_getElem? (i := 489) rfl
set_option maxRecDepth 20000 in
theorem mw_682 : Cond.methodLink RL 81 yX4_pointer ∈ lw_tbl := List.mem_of_getElem? (i := 488) rfl
set_option maxRecDepth 20000 in
theorem mw_683 : Cond.code yX5_pointer cX5_pointer 2 (some .int) ∈ lw_tbl := List.mem_of_getElem? (i := 783) rfl
set_option maxRecDepth 20000 in
theorem mw_684 : Cond.selects RX5 yX5_pointer yX5_pointer ∈ lw_tbl := List.mem_of_getElem? (i := 782) rfl
set_option maxRecDepth 20000 in
theorem mw_685 : Cond.instanceMethod yX5_pointer ∈ lw_tbl := List.mem_of_getElem? (i := 781) rfl
set_option maxRecDepth 20000 in
theorem mw_686 : Cond.methodLink RL 84 yX5_pointer ∈ lw_tbl := List.mem_of_getElem? (i := 780) rfl
set_option maxRecDepth 20000 in
theorem mw_687 : Cond.code yX4_queue cX4_queue 4 (some .int) ∈ lw_tbl := List.mem_of_getElem? (i := 495) rfl
set_option maxRecDepth 20000 in
theorem mw_688 : Cond.fieldLink RX4 142 "PumpHouse$Line" "who" "[I" ∈ lw_tbl := List.mem_of_getElem? (i := 125) rfl
set_option maxRecDepth 20000 in
theorem mw_689 : Cond.fieldLink RX4 261 "PumpHouse$Line" "ranks" "[I" ∈ lw_tbl := List.mem_of_getElem? (i := 127) rfl
set_option maxRecDepth 20000 in
theorem mw_690 : Cond.fieldLink RX4 133 "PumpHouse$Line" "length" "I" ∈ lw_tbl := List.mem_of_getElem? (i := 130) rfl
set_option maxRecDepth 20000 in
theorem mw_691 : Cond.fieldLink RX4 118 "PumpHouse$Station" "line" "LPumpHouse$Line;" ∈ lw_tbl := List.mem_of_getElem? (i := 141) rfl
set_option maxRecDepth 20000 in
theorem mw_692 : Cond.selects RX4 yX4_queue yX4_queue ∈ lw_tbl := List.mem_of_getElem? (i := 494) rfl
set_option maxRecDepth 20000 in
theorem mw_693 : Cond.instanceMethod yX4_queue ∈ lw_tbl := List.mem_of_getElem? (i := 493) rfl
set_option maxRecDepth 20000 in
theorem mw_694 : Cond.methodLink RL 85 yX4_queue ∈ lw_tbl := List.mem_of_getElem? (i := 492) rfl
set_option maxRecDepth 20000 in
theorem mw_695 : Cond.code yX5_queue cX5_queue 4 (some .int) ∈ lw_tbl := List.mem_of_getElem? (i := 787) rfl
set_option maxRecDepth 20000 in
theorem mw_696 : Cond.code yX5_entry cX5_entry 3 (some .int) ∈ lw_tbl := List.mem_of_getElem? (i := 679) rfl
set_option maxRecDepth 20000 in
theorem mw_697 : Cond.selects RX5 yX5_entry yX5_entry ∈ lw_tbl := List.mem_of_getElem? (i := 26) rfl
set_option maxRecDepth 20000 in
theorem mw_698 : Cond.instanceMethod yX5_entry ∈ lw_tbl := List.mem_of_getElem? (i := 678) rfl
set_option maxRecDepth 20000 in
theorem mw_699 : Cond.methodLink RX5 139 yX5_entry ∈ lw_tbl := List.mem_of_getElem? (i := 676) rfl
set_option maxRecDepth 20000 in
theorem mw_700 : Cond.fieldLink RX5 44 "PumpHouseModel" "who" "[I" ∈ lw_tbl := List.mem_of_getElem? (i := 577) rfl
set_option maxRecDepth 20000 in
theorem mw_701 : Cond.fieldLink RX5 47 "PumpHouseModel" "ranks" "[I" ∈ lw_tbl := List.mem_of_getElem? (i := 578) rfl
set_option maxRecDepth 20000 in
theorem mw_702 : Cond.fieldLink RX5 41 "PumpHouseModel" "lengths" "[I" ∈ lw_tbl := List.mem_of_getElem? (i := 576) rfl
set_option maxRecDepth 20000 in
theorem mw_703 : Cond.selects RX5 yX5_queue yX5_queue ∈ lw_tbl := List.mem_of_getElem? (i := 786) rfl
set_option maxRecDepth 20000 in
theorem mw_704 : Cond.instanceMethod yX5_queue ∈ lw_tbl := List.mem_of_getElem? (i := 785) rfl
set_option maxRecDepth 20000 in
theorem mw_705 : Cond.methodLink RL 89 yX5_queue ∈ lw_tbl := List.mem_of_getElem? (i := 784) rfl
set_option maxRecDepth 20000 in
theorem mw_706 : Cond.code yX4_letter cX4_letter 3 (some .int) ∈ lw_tbl := List.mem_of_getElem? (i := 499) rfl
set_option maxRecDepth 20000 in
theorem mw_707 : Cond.fieldLink RX4 205 "PumpHouse$Letters" "ranks" "[I" ∈ lw_tbl := List.mem_of_getElem? (i := 95) rfl
set_option maxRecDepth 20000 in
theorem mw_708 : Cond.fieldLink RX4 202 "PumpHouse$Letters" "numbers" "[I" ∈ lw_tbl := List.mem_of_getElem? (i := 93) rfl
set_option maxRecDepth 20000 in
theorem mw_709 : Cond.fieldLink RX4 199 "PumpHouse$Letters" "receivers" "[I" ∈ lw_tbl := List.mem_of_getElem? (i := 91) rfl
set_option maxRecDepth 20000 in
theorem mw_710 : Cond.fieldLink RX4 196 "PumpHouse$Letters" "senders" "[I" ∈ lw_tbl := List.mem_of_getElem? (i := 89) rfl
set_option maxRecDepth 20000 in
theorem mw_711 : Cond.fieldLink RX4 193 "PumpHouse$Letters" "kinds" "[I" ∈ lw_tbl := List.mem_of_getElem? (i := 87) rfl
set_option maxRecDepth 20000 in
theorem mw_712 : Cond.selects RX4 yX4_letter yX4_letter ∈ lw_tbl := List.mem_of_getElem? (i := 498) rfl
set_option maxRecDepth 20000 in
theorem mw_713 : Cond.instanceMethod yX4_letter ∈ lw_tbl := List.mem_of_getElem? (i := 497) rfl
set_option maxRecDepth 20000 in
theorem mw_714 : Cond.methodLink RL 90 yX4_letter ∈ lw_tbl := List.mem_of_getElem? (i := 496) rfl
set_option maxRecDepth 20000 in
theorem mw_715 : Cond.code yX5_letter cX5_letter 3 (some .int) ∈ lw_tbl := List.mem_of_getElem? (i := 791) rfl
set_option maxRecDepth 20000 in
theorem mw_716 : Cond.selects RX5 yX5_letter yX5_letter ∈ lw_tbl := List.mem_of_getElem? (i := 790) rfl
set_option maxRecDepth 20000 in
theorem mw_717 : Cond.instanceMethod yX5_letter ∈ lw_tbl := List.mem_of_getElem? (i := 789) rfl
set_option maxRecDepth 20000 in
theorem mw_718 : Cond.methodLink RL 93 yX5_letter ∈ lw_tbl := List.mem_of_getElem? (i := 788) rfl
set_option maxRecDepth 20000 in
theorem mw_719 : Cond.code yX4_told cX4_told 4 (some .int) ∈ lw_tbl := List.mem_of_getElem? (i := 503) rfl
set_option maxRecDepth 20000 in
theorem mw_720 : Cond.fieldLink RX4 164 "PumpHouse$Station" "pumped" "I" ∈ lw_tbl := List.mem_of_getElem? (i := 155) rfl
set_option maxRecDepth 20000 in
theorem mw_721 : Cond.constant RJ6 267 (252645135) ∈ lw_tbl := List.mem_of_getElem? (i := 517) rfl
set_option maxRecDepth 20000 in
theorem mw_722 : Cond.constant RJ6 266 (858993459) ∈ lw_tbl := List.mem_of_getElem? (i := 516) rfl
set_option maxRecDepth 20000 in
theorem mw_723 : Cond.constant RJ6 265 (1431655765) ∈ lw_tbl := List.mem_of_getElem? (i := 515) rfl
set_option maxRecDepth 20000 in
theorem mw_724 : Cond.code yJ6_bitCount_0f7a4 cJ6_bitCount_0f7a4 1 (some .int) ∈ lw_tbl := List.mem_of_getElem? (i := 514) rfl
set_option maxRecDepth 20000 in
theorem mw_725 : Cond.initialized RJ6 ∈ lw_tbl := List.mem_of_getElem? (i := 50) rfl
set_option maxRecDepth 20000 in
theorem mw_726 : Cond.static yJ6_bitCount_0f7a4 ∈ lw_tbl := List.mem_of_getElem? (i := 513) rfl
set_option maxRecDepth 20000 in
theorem mw_727 : Cond.methodLink RX0 32 yJ6_bitCount_0f7a4 ∈ lw_tbl := List.mem_of_getElem? (i := 512) rfl
set_option maxRecDepth 20000 in
theorem mw_728 : Cond.code yX0_neighboursOf cX0_neighboursOf 2 (some .int) ∈ lw_tbl := List.mem_of_getElem? (i := 511) rfl
set_option maxRecDepth 20000 in
theorem mw_729 : Cond.selects RX0 yX0_neighboursOf yX0_neighboursOf ∈ lw_tbl := List.mem_of_getElem? (i := 510) rfl
set_option maxRecDepth 20000 in
theorem mw_730 : Cond.instanceMethod yX0_neighboursOf ∈ lw_tbl := List.mem_of_getElem? (i := 509) rfl
set_option maxRecDepth 20000 in
theorem mw_731 : Cond.methodLink RX4 265 yX0_neighboursOf ∈ lw_tbl := List.mem_of_getElem? (i := 508) rfl
set_option maxRecDepth 20000 in
theorem mw_732 : Cond.code yX1_sentBy cX1_sentBy 4 (some .int) ∈ lw_tbl := List.mem_of_getElem? (i := 507) rfl
set_option maxRecDepth 20000 in
theorem mw_733 : Cond.selects RX1 yX1_sentBy yX1_sentBy ∈ lw_tbl := List.mem_of_getElem? (i := 506) rfl
set_option maxRecDepth 20000 in
theorem mw_734 : Cond.instanceMethod yX1_sentBy ∈ lw_tbl := List.mem_of_getElem? (i := 505) rfl
set_option maxRecDepth 20000 in
theorem mw_735 : Cond.methodLink RX4 262 yX1_sentBy ∈ lw_tbl := List.mem_of_getElem? (i := 504) rfl
set_option maxRecDepth 20000 in
theorem mw_736 : Cond.selects RX4 yX4_told yX4_told ∈ lw_tbl := List.mem_of_getElem? (i := 502) rfl
set_option maxRecDepth 20000 in
theorem mw_737 : Cond.instanceMethod yX4_told ∈ lw_tbl := List.mem_of_getElem? (i := 501) rfl
set_option maxRecDepth 20000 in
theorem mw_738 : Cond.methodLink RL 94 yX4_told ∈ lw_tbl := List.mem_of_getElem? (i := 500) rfl
set_option maxRecDepth 20000 in
theorem mw_739 : Cond.code yX5_told cX5_told 5 (some .int) ∈ lw_tbl := List.mem_of_getElem? (i := 795) rfl
set_option maxRecDepth 20000 in
theorem mw_740 : Cond.fieldLink RX5 56 "PumpHouseModel" "ways" "[I" ∈ lw_tbl := List.mem_of_getElem? (i := 582) rfl
set_option maxRecDepth 20000 in
theorem mw_741 : Cond.fieldLink RX5 133 "PumpHouseModel" "letters" "I" ∈ lw_tbl := List.mem_of_getElem? (i := 581) rfl
set_option maxRecDepth 20000 in
theorem mw_742 : Cond.fieldLink RX5 38 "PumpHouseModel" "overtook" "[I" ∈ lw_tbl := List.mem_of_getElem? (i := 574) rfl
set_option maxRecDepth 20000 in
theorem mw_743 : Cond.fieldLink RX5 35 "PumpHouseModel" "others" "[I" ∈ lw_tbl := List.mem_of_getElem? (i := 573) rfl
set_option maxRecDepth 20000 in
theorem mw_744 : Cond.fieldLink RX5 26 "PumpHouseModel" "rows" "[I" ∈ lw_tbl := List.mem_of_getElem? (i := 570) rfl
set_option maxRecDepth 20000 in
theorem mw_745 : Cond.fieldLink RX5 17 "PumpHouseModel" "asked" "[Z" ∈ lw_tbl := List.mem_of_getElem? (i := 567) rfl
set_option maxRecDepth 20000 in
theorem mw_746 : Cond.selects RX5 yX5_told yX5_told ∈ lw_tbl := List.mem_of_getElem? (i := 794) rfl
set_option maxRecDepth 20000 in
theorem mw_747 : Cond.instanceMethod yX5_told ∈ lw_tbl := List.mem_of_getElem? (i := 793) rfl
set_option maxRecDepth 20000 in
theorem mw_748 : Cond.methodLink RL 97 yX5_told ∈ lw_tbl := List.mem_of_getElem? (i := 792) rfl
set_option maxRecDepth 20000 in
theorem mw_749 : Cond.code yX4_count cX4_count 2 (some .int) ∈ lw_tbl := List.mem_of_getElem? (i := 521) rfl
set_option maxRecDepth 20000 in
theorem mw_750 : Cond.code yX4_whoPumps cX4_whoPumps 2 (some .int) ∈ lw_tbl := List.mem_of_getElem? (i := 525) rfl
set_option maxRecDepth 20000 in
theorem mw_751 : Cond.selects RX4 yX4_whoPumps yX4_whoPumps ∈ lw_tbl := List.mem_of_getElem? (i := 19) rfl
set_option maxRecDepth 20000 in
theorem mw_752 : Cond.instanceMethod yX4_whoPumps ∈ lw_tbl := List.mem_of_getElem? (i := 524) rfl
set_option maxRecDepth 20000 in
theorem mw_753 : Cond.methodLink RX4 268 yX4_whoPumps ∈ lw_tbl := List.mem_of_getElem? (i := 522) rfl
set_option maxRecDepth 20000 in
theorem mw_754 : Cond.selects RX4 yX4_count yX4_count ∈ lw_tbl := List.mem_of_getElem? (i := 520) rfl
set_option maxRecDepth 20000 in
theorem mw_755 : Cond.instanceMethod yX4_count ∈ lw_tbl := List.mem_of_getElem? (i := 519) rfl
set_option maxRecDepth 20000 in
theorem mw_756 : Cond.methodLink RL 98 yX4_count ∈ lw_tbl := List.mem_of_getElem? (i := 518) rfl
set_option maxRecDepth 20000 in
theorem mw_757 : Cond.code yX5_count cX5_count 4 (some .int) ∈ lw_tbl := List.mem_of_getElem? (i := 799) rfl
set_option maxRecDepth 20000 in
theorem mw_758 : Cond.fieldLink RX5 53 "PumpHouseModel" "taken" "[I" ∈ lw_tbl := List.mem_of_getElem? (i := 580) rfl
set_option maxRecDepth 20000 in
theorem mw_759 : Cond.fieldLink RX5 65 "PumpHouseModel" "numbers" "[I" ∈ lw_tbl := List.mem_of_getElem? (i := 585) rfl
set_option maxRecDepth 20000 in
theorem mw_760 : Cond.fieldLink RX5 59 "PumpHouseModel" "kinds" "[I" ∈ lw_tbl := List.mem_of_getElem? (i := 583) rfl
set_option maxRecDepth 20000 in
theorem mw_761 : Cond.code yX5_rightAt cX5_rightAt 3 (some .int) ∈ lw_tbl := List.mem_of_getElem? (i := 775) rfl
set_option maxRecDepth 20000 in
theorem mw_762 : Cond.selects RX5 yX5_rightAt yX5_rightAt ∈ lw_tbl := List.mem_of_getElem? (i := 39) rfl
set_option maxRecDepth 20000 in
theorem mw_763 : Cond.instanceMethod yX5_rightAt ∈ lw_tbl := List.mem_of_getElem? (i := 774) rfl
set_option maxRecDepth 20000 in
theorem mw_764 : Cond.methodLink RX5 188 yX5_rightAt ∈ lw_tbl := List.mem_of_getElem? (i := 772) rfl
set_option maxRecDepth 20000 in
theorem mw_765 : Cond.fieldLink RX5 130 "PumpHouseModel" "begun" "I" ∈ lw_tbl := List.mem_of_getElem? (i := 575) rfl
set_option maxRecDepth 20000 in
theorem mw_766 : Cond.selects RX5 yX5_count yX5_count ∈ lw_tbl := List.mem_of_getElem? (i := 798) rfl
set_option maxRecDepth 20000 in
theorem mw_767 : Cond.instanceMethod yX5_count ∈ lw_tbl := List.mem_of_getElem? (i := 797) rfl
set_option maxRecDepth 20000 in
theorem mw_768 : Cond.methodLink RL 101 yX5_count ∈ lw_tbl := List.mem_of_getElem? (i := 796) rfl
theorem hm_wsX4_init_r1 : ∀ w ∈ wsX4_init_r1, w ∈ lw_tbl := (List.forall_mem_cons.mpr ⟨mw_24, (List.forall_mem_cons.mpr ⟨mw_23, (List.forall_mem_cons.mpr ⟨mw_22, (List.forall_mem_cons.mpr ⟨mw_21, (List.forall_mem_cons.mpr ⟨mw_20, (List.forall_mem_cons.mpr ⟨mw_19, (List.forall_mem_cons.mpr ⟨mw_18, (List.forall_mem_cons.mpr ⟨mw_17, (List.forall_mem_cons.mpr ⟨mw_16, (List.forall_mem_cons.mpr ⟨mw_15, (List.forall_mem_cons.mpr ⟨mw_14, (List.forall_mem_cons.mpr ⟨mw_13, (List.forall_mem_cons.mpr ⟨mw_12, (List.forall_mem_cons.mpr ⟨mw_11, (List.forall_mem_cons.mpr ⟨mw_10, (List.forall_mem_cons.mpr ⟨mw_9, (List.forall_mem_cons.mpr ⟨mw_8, (List.forall_mem_cons.mpr ⟨mw_7, (List.forall_mem_cons.mpr ⟨mw_6, (List.forall_mem_cons.mpr ⟨mw_5, (List.forall_mem_cons.mpr ⟨mw_4, (List.forall_mem_cons.mpr ⟨mw_3, (List.forall_mem_cons.mpr ⟨mw_2, (List.forall_mem_cons.mpr ⟨mw_1, (fun _ h => nomatch h)⟩)⟩)⟩)⟩)⟩)⟩)⟩)⟩)⟩)⟩)⟩)⟩)⟩)⟩)⟩)⟩)⟩)⟩)⟩)⟩)⟩)⟩)⟩)⟩)
theorem hm_wsX4_init_r2 : ∀ w ∈ wsX4_init_r2, w ∈ lw_tbl := (List.forall_mem_cons.mpr ⟨mw_48, (List.forall_mem_cons.mpr ⟨mw_47, (List.forall_mem_cons.mpr ⟨mw_46, (List.forall_mem_cons.mpr ⟨mw_45, (List.forall_mem_cons.mpr ⟨mw_44, (List.forall_mem_cons.mpr ⟨mw_43, (List.forall_mem_cons.mpr ⟨mw_42, (List.forall_mem_cons.mpr ⟨mw_41, (List.forall_mem_cons.mpr ⟨mw_40, (List.forall_mem_cons.mpr ⟨mw_39, (List.forall_mem_cons.mpr ⟨mw_38, (List.forall_mem_cons.mpr ⟨mw_37, (List.forall_mem_cons.mpr ⟨mw_36, (List.forall_mem_cons.mpr ⟨mw_35, (List.forall_mem_cons.mpr ⟨mw_34, (List.forall_mem_cons.mpr ⟨mw_33, (List.forall_mem_cons.mpr ⟨mw_32, (List.forall_mem_cons.mpr ⟨mw_31, (List.forall_mem_cons.mpr ⟨mw_30, (List.forall_mem_cons.mpr ⟨mw_29, (List.forall_mem_cons.mpr ⟨mw_28, (List.forall_mem_cons.mpr ⟨mw_27, (List.forall_mem_cons.mpr ⟨mw_26, (List.forall_mem_cons.mpr ⟨mw_25, (fun _ h => nomatch h)⟩)⟩)⟩)⟩)⟩)⟩)⟩)⟩)⟩)⟩)⟩)⟩)⟩)⟩)⟩)⟩)⟩)⟩)⟩)⟩)⟩)⟩)⟩)⟩)
theorem hm_wsX4_init_r3 : ∀ w ∈ wsX4_init_r3, w ∈ lw_tbl := (List.forall_mem_cons.mpr ⟨mw_72, (List.forall_mem_cons.mpr ⟨mw_71, (List.forall_mem_cons.mpr ⟨mw_70, (List.forall_mem_cons.mpr ⟨mw_69, (List.forall_mem_cons.mpr ⟨mw_68, (List.forall_mem_cons.mpr ⟨mw_67, (List.forall_mem_cons.mpr ⟨mw_66, (List.forall_mem_cons.mpr ⟨mw_65, (List.forall_mem_cons.mpr ⟨mw_64, (List.forall_mem_cons.mpr ⟨mw_63, (List.forall_mem_cons.mpr ⟨mw_62, (List.forall_mem_cons.mpr ⟨mw_61, (List.forall_mem_cons.mpr ⟨mw_60, (List.forall_mem_cons.mpr ⟨mw_59, (List.forall_mem_cons.mpr ⟨mw_58, (List.forall_mem_cons.mpr ⟨mw_57, (List.forall_mem_cons.mpr ⟨mw_56, (List.forall_mem_cons.mpr ⟨mw_55, (List.forall_mem_cons.mpr ⟨mw_54, (List.forall_mem_cons.mpr ⟨mw_53, (List.forall_mem_cons.mpr ⟨mw_52, (List.forall_mem_cons.mpr ⟨mw_51, (List.forall_mem_cons.mpr ⟨mw_50, (List.forall_mem_cons.mpr ⟨mw_49, (fun _ h => nomatch h)⟩)⟩)⟩)⟩)⟩)⟩)⟩)⟩)⟩)⟩)⟩)⟩)⟩)⟩)⟩)⟩)⟩)⟩)⟩)⟩)⟩)⟩)⟩)⟩)
theorem hm_wsX4_init_r4 : ∀ w ∈ wsX4_init_r4, w ∈ lw_tbl := (List.forall_mem_cons.mpr ⟨mw_96, (List.forall_mem_cons.mpr ⟨mw_95, (List.forall_mem_cons.mpr ⟨mw_94, (List.forall_mem_cons.mpr ⟨mw_93, (List.forall_mem_cons.mpr ⟨mw_92, (List.forall_mem_cons.mpr ⟨mw_91, (List.forall_mem_cons.mpr ⟨mw_90, (List.forall_mem_cons.mpr ⟨mw_89, (List.forall_mem_cons.mpr ⟨mw_88, (List.forall_mem_cons.mpr ⟨mw_87, (List.forall_mem_cons.mpr ⟨mw_86, (List.forall_mem_cons.mpr ⟨mw_85, (List.forall_mem_cons.mpr ⟨mw_84, (List.forall_mem_cons.mpr ⟨mw_83, (List.forall_mem_cons.mpr ⟨mw_82, (List.forall_mem_cons.mpr ⟨mw_81, (List.forall_mem_cons.mpr ⟨mw_80, (List.forall_mem_cons.mpr ⟨mw_79, (List.forall_mem_cons.mpr ⟨mw_78, (List.forall_mem_cons.mpr ⟨mw_77, (List.forall_mem_cons.mpr ⟨mw_76, (List.forall_mem_cons.mpr ⟨mw_75, (List.forall_mem_cons.mpr ⟨mw_74, (List.forall_mem_cons.mpr ⟨mw_73, (fun _ h => nomatch h)⟩)⟩)⟩)⟩)⟩)⟩)⟩)⟩)⟩)⟩)⟩)⟩)⟩)⟩)⟩)⟩)⟩)⟩)⟩)⟩)⟩)⟩)⟩)⟩)
theorem hm_wsX4_init_r5 : ∀ w ∈ wsX4_init_r5, w ∈ lw_tbl := (List.forall_mem_cons.mpr ⟨mw_120, (List.forall_mem_cons.mpr ⟨mw_119, (List.forall_mem_cons.mpr ⟨mw_118, (List.forall_mem_cons.mpr ⟨mw_117, (List.forall_mem_cons.mpr ⟨mw_116, (List.forall_mem_cons.mpr ⟨mw_115, (List.forall_mem_cons.mpr ⟨mw_114, (List.forall_mem_cons.mpr ⟨mw_113, (List.forall_mem_cons.mpr ⟨mw_112, (List.forall_mem_cons.mpr ⟨mw_111, (List.forall_mem_cons.mpr ⟨mw_110, (List.forall_mem_cons.mpr ⟨mw_109, (List.forall_mem_cons.mpr ⟨mw_108, (List.forall_mem_cons.mpr ⟨mw_107, (List.forall_mem_cons.mpr ⟨mw_106, (List.forall_mem_cons.mpr ⟨mw_105, (List.forall_mem_cons.mpr ⟨mw_104, (List.forall_mem_cons.mpr ⟨mw_103, (List.forall_mem_cons.mpr ⟨mw_102, (List.forall_mem_cons.mpr ⟨mw_101, (List.forall_mem_cons.mpr ⟨mw_100, (List.forall_mem_cons.mpr ⟨mw_99, (List.forall_mem_cons.mpr ⟨mw_98, (List.forall_mem_cons.mpr ⟨mw_97, (fun _ h => nomatch h)⟩)⟩)⟩)⟩)⟩)⟩)⟩)⟩)⟩)⟩)⟩)⟩)⟩)⟩)⟩)⟩)⟩)⟩)⟩)⟩)⟩)⟩)⟩)⟩)
theorem hm_wsX4_init_r6 : ∀ w ∈ wsX4_init_r6, w ∈ lw_tbl := (List.forall_mem_cons.mpr ⟨mw_125, (List.forall_mem_cons.mpr ⟨mw_124, (List.forall_mem_cons.mpr ⟨mw_123, (List.forall_mem_cons.mpr ⟨mw_122, (List.forall_mem_cons.mpr ⟨mw_121, (fun _ h => nomatch h)⟩)⟩)⟩)⟩)⟩)
theorem hm_wsX4_init : ∀ w ∈ wsX4_init, w ∈ lw_tbl := (List.forall_mem_cons.mpr ⟨mw_0, (List.forall_mem_append.mpr ⟨(List.forall_mem_append.mpr ⟨(List.forall_mem_append.mpr ⟨(List.forall_mem_append.mpr ⟨(List.forall_mem_append.mpr ⟨(List.forall_mem_append.mpr ⟨hm_wsX4_init_r1, (List.forall_mem_append.mpr ⟨hm_wsX4_init_r2, (List.forall_mem_append.mpr ⟨hm_wsX4_init_r3, (List.forall_mem_append.mpr ⟨hm_wsX4_init_r4, (List.forall_mem_append.mpr ⟨hm_wsX4_init_r5, hm_wsX4_init_r6⟩)⟩)⟩)⟩)⟩), wx_0⟩), wx_4⟩), wx_1⟩), wx_3⟩), wx_2⟩)⟩)
theorem hm_wsX5_init_r1 : ∀ w ∈ wsX5_init_r1, w ∈ lw_tbl := (List.forall_mem_cons.mpr ⟨mw_147, (List.forall_mem_cons.mpr ⟨mw_23, (List.forall_mem_cons.mpr ⟨mw_22, (List.forall_mem_cons.mpr ⟨mw_146, (List.forall_mem_cons.mpr ⟨mw_145, (List.forall_mem_cons.mpr ⟨mw_9, (List.forall_mem_cons.mpr ⟨mw_144, (List.forall_mem_cons.mpr ⟨mw_143, (List.forall_mem_cons.mpr ⟨mw_142, (List.forall_mem_cons.mpr ⟨mw_141, (List.forall_mem_cons.mpr ⟨mw_140, (List.forall_mem_cons.mpr ⟨mw_139, (List.forall_mem_cons.mpr ⟨mw_138, (List.forall_mem_cons.mpr ⟨mw_137, (List.forall_mem_cons.mpr ⟨mw_136, (List.forall_mem_cons.mpr ⟨mw_135, (List.forall_mem_cons.mpr ⟨mw_134, (List.forall_mem_cons.mpr ⟨mw_133, (List.forall_mem_cons.mpr ⟨mw_132, (List.forall_mem_cons.mpr ⟨mw_131, (List.forall_mem_cons.mpr ⟨mw_130, (List.forall_mem_cons.mpr ⟨mw_129, (List.forall_mem_cons.mpr ⟨mw_128, (List.forall_mem_cons.mpr ⟨mw_127, (fun _ h => nomatch h)⟩)⟩)⟩)⟩)⟩)⟩)⟩)⟩)⟩)⟩)⟩)⟩)⟩)⟩)⟩)⟩)⟩)⟩)⟩)⟩)⟩)⟩)⟩)⟩)
theorem hm_wsX5_init_r2 : ∀ w ∈ wsX5_init_r2, w ∈ lw_tbl := (List.forall_mem_cons.mpr ⟨mw_171, (List.forall_mem_cons.mpr ⟨mw_170, (List.forall_mem_cons.mpr ⟨mw_169, (List.forall_mem_cons.mpr ⟨mw_168, (List.forall_mem_cons.mpr ⟨mw_167, (List.forall_mem_cons.mpr ⟨mw_166, (List.forall_mem_cons.mpr ⟨mw_165, (List.forall_mem_cons.mpr ⟨mw_164, (List.forall_mem_cons.mpr ⟨mw_163, (List.forall_mem_cons.mpr ⟨mw_162, (List.forall_mem_cons.mpr ⟨mw_161, (List.forall_mem_cons.mpr ⟨mw_160, (List.forall_mem_cons.mpr ⟨mw_159, (List.forall_mem_cons.mpr ⟨mw_158, (List.forall_mem_cons.mpr ⟨mw_157, (List.forall_mem_cons.mpr ⟨mw_156, (List.forall_mem_cons.mpr ⟨mw_155, (List.forall_mem_cons.mpr ⟨mw_154, (List.forall_mem_cons.mpr ⟨mw_153, (List.forall_mem_cons.mpr ⟨mw_152, (List.forall_mem_cons.mpr ⟨mw_151, (List.forall_mem_cons.mpr ⟨mw_150, (List.forall_mem_cons.mpr ⟨mw_149, (List.forall_mem_cons.mpr ⟨mw_148, (fun _ h => nomatch h)⟩)⟩)⟩)⟩)⟩)⟩)⟩)⟩)⟩)⟩)⟩)⟩)⟩)⟩)⟩)⟩)⟩)⟩)⟩)⟩)⟩)⟩)⟩)⟩)
theorem hm_wsX5_init_r3 : ∀ w ∈ wsX5_init_r3, w ∈ lw_tbl := (List.forall_mem_cons.mpr ⟨mw_190, (List.forall_mem_cons.mpr ⟨mw_189, (List.forall_mem_cons.mpr ⟨mw_188, (List.forall_mem_cons.mpr ⟨mw_187, (List.forall_mem_cons.mpr ⟨mw_186, (List.forall_mem_cons.mpr ⟨mw_185, (List.forall_mem_cons.mpr ⟨mw_184, (List.forall_mem_cons.mpr ⟨mw_183, (List.forall_mem_cons.mpr ⟨mw_182, (List.forall_mem_cons.mpr ⟨mw_181, (List.forall_mem_cons.mpr ⟨mw_180, (List.forall_mem_cons.mpr ⟨mw_179, (List.forall_mem_cons.mpr ⟨mw_178, (List.forall_mem_cons.mpr ⟨mw_177, (List.forall_mem_cons.mpr ⟨mw_176, (List.forall_mem_cons.mpr ⟨mw_175, (List.forall_mem_cons.mpr ⟨mw_174, (List.forall_mem_cons.mpr ⟨mw_173, (List.forall_mem_cons.mpr ⟨mw_172, (fun _ h => nomatch h)⟩)⟩)⟩)⟩)⟩)⟩)⟩)⟩)⟩)⟩)⟩)⟩)⟩)⟩)⟩)⟩)⟩)⟩)⟩)
theorem hm_wsX5_init : ∀ w ∈ wsX5_init, w ∈ lw_tbl := (List.forall_mem_cons.mpr ⟨mw_126, (List.forall_mem_append.mpr ⟨(List.forall_mem_append.mpr ⟨hm_wsX5_init_r1, (List.forall_mem_append.mpr ⟨hm_wsX5_init_r2, hm_wsX5_init_r3⟩)⟩), wx_5⟩)⟩)
theorem hm_wsX4_canal : ∀ w ∈ wsX4_canal, w ∈ lw_tbl := (List.forall_mem_cons.mpr ⟨mw_191, (List.forall_mem_append.mpr ⟨(List.forall_mem_append.mpr ⟨(List.forall_mem_cons.mpr ⟨mw_205, (List.forall_mem_cons.mpr ⟨mw_204, (List.forall_mem_cons.mpr ⟨mw_203, (List.forall_mem_cons.mpr ⟨mw_202, (List.forall_mem_cons.mpr ⟨mw_201, (List.forall_mem_cons.mpr ⟨mw_200, (List.forall_mem_cons.mpr ⟨mw_199, (List.forall_mem_cons.mpr ⟨mw_198, (List.forall_mem_cons.mpr ⟨mw_197, (List.forall_mem_cons.mpr ⟨mw_196, (List.forall_mem_cons.mpr ⟨mw_195, (List.forall_mem_cons.mpr ⟨mw_194, (List.forall_mem_cons.mpr ⟨mw_193, (List.forall_mem_cons.mpr ⟨mw_192, (fun _ h => nomatch h)⟩)⟩)⟩)⟩)⟩)⟩)⟩)⟩)⟩)⟩)⟩)⟩)⟩)⟩), wx_4⟩), wx_0⟩)⟩)
theorem hm_wsX5_canal : ∀ w ∈ wsX5_canal, w ∈ lw_tbl := (List.forall_mem_cons.mpr ⟨mw_210, (List.forall_mem_append.mpr ⟨(List.forall_mem_cons.mpr ⟨mw_214, (List.forall_mem_cons.mpr ⟨mw_213, (List.forall_mem_cons.mpr ⟨mw_212, (List.forall_mem_cons.mpr ⟨mw_211, (fun _ h => nomatch h)⟩)⟩)⟩)⟩), wx_5⟩)⟩)
theorem hm_wsX4_link : ∀ w ∈ wsX4_link, w ∈ lw_tbl := (List.forall_mem_cons.mpr ⟨mw_219, (List.forall_mem_append.mpr ⟨(List.forall_mem_append.mpr ⟨(List.forall_mem_cons.mpr ⟨mw_205, (List.forall_mem_cons.mpr ⟨mw_204, (List.forall_mem_cons.mpr ⟨mw_235, (List.forall_mem_cons.mpr ⟨mw_234, (List.forall_mem_cons.mpr ⟨mw_233, (List.forall_mem_cons.mpr ⟨mw_232, (List.forall_mem_cons.mpr ⟨mw_200, (List.forall_mem_cons.mpr ⟨mw_231, (List.forall_mem_cons.mpr ⟨mw_197, (List.forall_mem_cons.mpr ⟨mw_230, (List.forall_mem_cons.mpr ⟨mw_229, (List.forall_mem_cons.mpr ⟨mw_228, (List.forall_mem_cons.mpr ⟨mw_227, (List.forall_mem_cons.mpr ⟨mw_198, (List.forall_mem_cons.mpr ⟨mw_226, (List.forall_mem_cons.mpr ⟨mw_206, (List.forall_mem_cons.mpr ⟨mw_225, (List.forall_mem_cons.mpr ⟨mw_224, (List.forall_mem_cons.mpr ⟨mw_223, (List.forall_mem_cons.mpr ⟨mw_222, (List.forall_mem_cons.mpr ⟨mw_221, (List.forall_mem_cons.mpr ⟨mw_220, (List.forall_mem_cons.mpr ⟨mw_196, (fun _ h => nomatch h)⟩)⟩)⟩)⟩)⟩)⟩)⟩)⟩)⟩)⟩)⟩)⟩)⟩)⟩)⟩)⟩)⟩)⟩)⟩)⟩)⟩)⟩)⟩), wx_4⟩), wx_0⟩)⟩)
theorem hm_wsX5_link : ∀ w ∈ wsX5_link, w ∈ lw_tbl := (List.forall_mem_cons.mpr ⟨mw_239, (List.forall_mem_append.mpr ⟨(List.forall_mem_cons.mpr ⟨mw_213, (List.forall_mem_cons.mpr ⟨mw_252, (List.forall_mem_cons.mpr ⟨mw_212, (List.forall_mem_cons.mpr ⟨mw_251, (List.forall_mem_cons.mpr ⟨mw_250, (List.forall_mem_cons.mpr ⟨mw_249, (List.forall_mem_cons.mpr ⟨mw_215, (List.forall_mem_cons.mpr ⟨mw_248, (List.forall_mem_cons.mpr ⟨mw_214, (List.forall_mem_cons.mpr ⟨mw_211, (List.forall_mem_cons.mpr ⟨mw_247, (List.forall_mem_cons.mpr ⟨mw_246, (List.forall_mem_cons.mpr ⟨mw_245, (List.forall_mem_cons.mpr ⟨mw_244, (List.forall_mem_cons.mpr ⟨mw_243, (List.forall_mem_cons.mpr ⟨mw_242, (List.forall_mem_cons.mpr ⟨mw_241, (List.forall_mem_cons.mpr ⟨mw_240, (fun _ h => nomatch h)⟩)⟩)⟩)⟩)⟩)⟩)⟩)⟩)⟩)⟩)⟩)⟩)⟩)⟩)⟩)⟩)⟩)⟩), wx_5⟩)⟩)
theorem hm_wsX4_open_r1 : ∀ w ∈ wsX4_open_r1, w ∈ lw_tbl := (List.forall_mem_cons.mpr ⟨mw_68, (List.forall_mem_cons.mpr ⟨mw_18, (List.forall_mem_cons.mpr ⟨mw_81, (List.forall_mem_cons.mpr ⟨mw_80, (List.forall_mem_cons.mpr ⟨mw_79, (List.forall_mem_cons.mpr ⟨mw_12, (List.forall_mem_cons.mpr ⟨mw_78, (List.forall_mem_cons.mpr ⟨mw_11, (List.forall_mem_cons.mpr ⟨mw_16, (List.forall_mem_cons.mpr ⟨mw_8, (List.forall_mem_cons.mpr ⟨mw_7, (List.forall_mem_cons.mpr ⟨mw_52, (List.forall_mem_cons.mpr ⟨mw_51, (List.forall_mem_cons.mpr ⟨mw_50, (List.forall_mem_cons.mpr ⟨mw_19, (List.forall_mem_cons.mpr ⟨mw_49, (List.forall_mem_cons.mpr ⟨mw_63, (List.forall_mem_cons.mpr ⟨mw_77, (List.forall_mem_cons.mpr ⟨mw_76, (List.forall_mem_cons.mpr ⟨mw_75, (List.forall_mem_cons.mpr ⟨mw_74, (List.forall_mem_cons.mpr ⟨mw_62, (List.forall_mem_cons.mpr ⟨mw_73, (List.forall_mem_cons.mpr ⟨mw_120, (fun _ h => nomatch h)⟩)⟩)⟩)⟩)⟩)⟩)⟩)⟩)⟩)⟩)⟩)⟩)⟩)⟩)⟩)⟩)⟩)⟩)⟩)⟩)⟩)⟩)⟩)⟩)
theorem hm_wsX4_open_r2 : ∀ w ∈ wsX4_open_r2, w ∈ lw_tbl := (List.forall_mem_cons.mpr ⟨mw_119, (List.forall_mem_cons.mpr ⟨mw_5, (List.forall_mem_cons.mpr ⟨mw_118, (List.forall_mem_cons.mpr ⟨mw_32, (List.forall_mem_cons.mpr ⟨mw_117, (List.forall_mem_cons.mpr ⟨mw_116, (List.forall_mem_cons.mpr ⟨mw_115, (List.forall_mem_cons.mpr ⟨mw_114, (List.forall_mem_cons.mpr ⟨mw_113, (List.forall_mem_cons.mpr ⟨mw_112, (List.forall_mem_cons.mpr ⟨mw_111, (List.forall_mem_cons.mpr ⟨mw_110, (List.forall_mem_cons.mpr ⟨mw_109, (List.forall_mem_cons.mpr ⟨mw_108, (List.forall_mem_cons.mpr ⟨mw_107, (List.forall_mem_cons.mpr ⟨mw_106, (List.forall_mem_cons.mpr ⟨mw_60, (List.forall_mem_cons.mpr ⟨mw_59, (List.forall_mem_cons.mpr ⟨mw_58, (List.forall_mem_cons.mpr ⟨mw_105, (List.forall_mem_cons.mpr ⟨mw_104, (List.forall_mem_cons.mpr ⟨mw_103, (List.forall_mem_cons.mpr ⟨mw_70, (List.forall_mem_cons.mpr ⟨mw_102, (fun _ h => nomatch h)⟩)⟩)⟩)⟩)⟩)⟩)⟩)⟩)⟩)⟩)⟩)⟩)⟩)⟩)⟩)⟩)⟩)⟩)⟩)⟩)⟩)⟩)⟩)⟩)
theorem hm_wsX4_open_r3 : ∀ w ∈ wsX4_open_r3, w ∈ lw_tbl := (List.forall_mem_cons.mpr ⟨mw_101, (List.forall_mem_cons.mpr ⟨mw_100, (List.forall_mem_cons.mpr ⟨mw_99, (List.forall_mem_cons.mpr ⟨mw_98, (List.forall_mem_cons.mpr ⟨mw_97, (List.forall_mem_cons.mpr ⟨mw_125, (List.forall_mem_cons.mpr ⟨mw_124, (List.forall_mem_cons.mpr ⟨mw_123, (List.forall_mem_cons.mpr ⟨mw_122, (List.forall_mem_cons.mpr ⟨mw_121, (List.forall_mem_cons.mpr ⟨mw_1, (List.forall_mem_cons.mpr ⟨mw_92, (List.forall_mem_cons.mpr ⟨mw_91, (fun _ h => nomatch h)⟩)⟩)⟩)⟩)⟩)⟩)⟩)⟩)⟩)⟩)⟩)⟩)⟩)
theorem hm_wsX4_open : ∀ w ∈ wsX4_open, w ∈ lw_tbl := (List.forall_mem_cons.mpr ⟨mw_256, (List.forall_mem_append.mpr ⟨(List.forall_mem_append.mpr ⟨(List.forall_mem_append.mpr ⟨(List.forall_mem_append.mpr ⟨(List.forall_mem_append.mpr ⟨(List.forall_mem_append.mpr ⟨hm_wsX4_open_r1, (List.forall_mem_append.mpr ⟨hm_wsX4_open_r2, hm_wsX4_open_r3⟩)⟩), wx_4⟩), wx_1⟩), wx_0⟩), wx_3⟩), wx_2⟩)⟩)
theorem hm_wsX5_open_r1 : ∀ w ∈ wsX5_open_r1, w ∈ lw_tbl := (List.forall_mem_cons.mpr ⟨mw_155, (List.forall_mem_cons.mpr ⟨mw_176, (List.forall_mem_cons.mpr ⟨mw_175, (List.forall_mem_cons.mpr ⟨mw_174, (List.forall_mem_cons.mpr ⟨mw_173, (List.forall_mem_cons.mpr ⟨mw_172, (List.forall_mem_cons.mpr ⟨mw_132, (List.forall_mem_cons.mpr ⟨mw_131, (List.forall_mem_cons.mpr ⟨mw_156, (List.forall_mem_cons.mpr ⟨mw_144, (List.forall_mem_cons.mpr ⟨mw_143, (List.forall_mem_cons.mpr ⟨mw_142, (List.forall_mem_cons.mpr ⟨mw_141, (List.forall_mem_cons.mpr ⟨mw_140, (List.forall_mem_cons.mpr ⟨mw_139, (List.forall_mem_cons.mpr ⟨mw_138, (List.forall_mem_cons.mpr ⟨mw_137, (List.forall_mem_cons.mpr ⟨mw_136, (List.forall_mem_cons.mpr ⟨mw_135, (List.forall_mem_cons.mpr ⟨mw_145, (List.forall_mem_cons.mpr ⟨mw_188, (List.forall_mem_cons.mpr ⟨mw_187, (List.forall_mem_cons.mpr ⟨mw_186, (List.forall_mem_cons.mpr ⟨mw_162, (fun _ h => nomatch h)⟩)⟩)⟩)⟩)⟩)⟩)⟩)⟩)⟩)⟩)⟩)⟩)⟩)⟩)⟩)⟩)⟩)⟩)⟩)⟩)⟩)⟩)⟩)⟩)
theorem hm_wsX5_open_r2 : ∀ w ∈ wsX5_open_r2, w ∈ lw_tbl := (List.forall_mem_cons.mpr ⟨mw_185, (List.forall_mem_cons.mpr ⟨mw_149, (List.forall_mem_cons.mpr ⟨mw_148, (List.forall_mem_cons.mpr ⟨mw_190, (List.forall_mem_cons.mpr ⟨mw_189, (List.forall_mem_cons.mpr ⟨mw_167, (fun _ h => nomatch h)⟩)⟩)⟩)⟩)⟩)⟩)
theorem hm_wsX5_open : ∀ w ∈ wsX5_open, w ∈ lw_tbl := (List.forall_mem_cons.mpr ⟨mw_260, (List.forall_mem_append.mpr ⟨(List.forall_mem_append.mpr ⟨hm_wsX5_open_r1, hm_wsX5_open_r2⟩), wx_5⟩)⟩)
theorem hm_wsX4_want_r1 : ∀ w ∈ wsX4_want_r1, w ∈ lw_tbl := (List.forall_mem_cons.mpr ⟨mw_16, (List.forall_mem_cons.mpr ⟨mw_278, (List.forall_mem_cons.mpr ⟨mw_277, (List.forall_mem_cons.mpr ⟨mw_276, (List.forall_mem_cons.mpr ⟨mw_275, (List.forall_mem_cons.mpr ⟨mw_274, (List.forall_mem_cons.mpr ⟨mw_273, (List.forall_mem_cons.mpr ⟨mw_272, (List.forall_mem_cons.mpr ⟨mw_271, (List.forall_mem_cons.mpr ⟨mw_70, (List.forall_mem_cons.mpr ⟨mw_270, (List.forall_mem_cons.mpr ⟨mw_269, (List.forall_mem_cons.mpr ⟨mw_268, (List.forall_mem_cons.mpr ⟨mw_267, (List.forall_mem_cons.mpr ⟨mw_266, (List.forall_mem_cons.mpr ⟨mw_265, (List.forall_mem_cons.mpr ⟨mw_68, (List.forall_mem_cons.mpr ⟨mw_18, (List.forall_mem_cons.mpr ⟨mw_52, (List.forall_mem_cons.mpr ⟨mw_51, (List.forall_mem_cons.mpr ⟨mw_50, (List.forall_mem_cons.mpr ⟨mw_19, (List.forall_mem_cons.mpr ⟨mw_49, (List.forall_mem_cons.mpr ⟨mw_63, (fun _ h => nomatch h)⟩)⟩)⟩)⟩)⟩)⟩)⟩)⟩)⟩)⟩)⟩)⟩)⟩)⟩)⟩)⟩)⟩)⟩)⟩)⟩)⟩)⟩)⟩)⟩)
theorem hm_wsX4_want_r2 : ∀ w ∈ wsX4_want_r2, w ∈ lw_tbl := (List.forall_mem_cons.mpr ⟨mw_291, (List.forall_mem_cons.mpr ⟨mw_290, (List.forall_mem_cons.mpr ⟨mw_289, (List.forall_mem_cons.mpr ⟨mw_5, (List.forall_mem_cons.mpr ⟨mw_288, (List.forall_mem_cons.mpr ⟨mw_32, (List.forall_mem_cons.mpr ⟨mw_31, (List.forall_mem_cons.mpr ⟨mw_287, (List.forall_mem_cons.mpr ⟨mw_286, (List.forall_mem_cons.mpr ⟨mw_285, (List.forall_mem_cons.mpr ⟨mw_33, (List.forall_mem_cons.mpr ⟨mw_284, (List.forall_mem_cons.mpr ⟨mw_283, (List.forall_mem_cons.mpr ⟨mw_27, (List.forall_mem_cons.mpr ⟨mw_282, (List.forall_mem_cons.mpr ⟨mw_281, (List.forall_mem_cons.mpr ⟨mw_280, (List.forall_mem_cons.mpr ⟨mw_279, (List.forall_mem_cons.mpr ⟨mw_26, (fun _ h => nomatch h)⟩)⟩)⟩)⟩)⟩)⟩)⟩)⟩)⟩)⟩)⟩)⟩)⟩)⟩)⟩)⟩)⟩)⟩)⟩)
theorem hm_wsX4_want : ∀ w ∈ wsX4_want, w ∈ lw_tbl := (List.forall_mem_cons.mpr ⟨mw_264, (List.forall_mem_append.mpr ⟨(List.forall_mem_append.mpr ⟨(List.forall_mem_append.mpr ⟨(List.forall_mem_append.mpr ⟨(List.forall_mem_append.mpr ⟨hm_wsX4_want_r1, hm_wsX4_want_r2⟩), wx_4⟩), wx_3⟩), wx_2⟩), wx_0⟩)⟩)
theorem hm_wsX5_want_r1 : ∀ w ∈ wsX5_want_r1, w ∈ lw_tbl := (List.forall_mem_cons.mpr ⟨mw_142, (List.forall_mem_cons.mpr ⟨mw_137, (List.forall_mem_cons.mpr ⟨mw_135, (List.forall_mem_cons.mpr ⟨mw_307, (List.forall_mem_cons.mpr ⟨mw_306, (List.forall_mem_cons.mpr ⟨mw_305, (List.forall_mem_cons.mpr ⟨mw_162, (List.forall_mem_cons.mpr ⟨mw_304, (List.forall_mem_cons.mpr ⟨mw_155, (List.forall_mem_cons.mpr ⟨mw_141, (List.forall_mem_cons.mpr ⟨mw_188, (List.forall_mem_cons.mpr ⟨mw_187, (List.forall_mem_cons.mpr ⟨mw_186, (List.forall_mem_cons.mpr ⟨mw_185, (List.forall_mem_cons.mpr ⟨mw_156, (List.forall_mem_cons.mpr ⟨mw_303, (List.forall_mem_cons.mpr ⟨mw_302, (List.forall_mem_cons.mpr ⟨mw_301, (List.forall_mem_cons.mpr ⟨mw_300, (List.forall_mem_cons.mpr ⟨mw_134, (List.forall_mem_cons.mpr ⟨mw_299, (List.forall_mem_cons.mpr ⟨mw_298, (List.forall_mem_cons.mpr ⟨mw_297, (List.forall_mem_cons.mpr ⟨mw_296, (fun _ h => nomatch h)⟩)⟩)⟩)⟩)⟩)⟩)⟩)⟩)⟩)⟩)⟩)⟩)⟩)⟩)⟩)⟩)⟩)⟩)⟩)⟩)⟩)⟩)⟩)⟩)
theorem hm_wsX5_want_r2 : ∀ w ∈ wsX5_want_r2, w ∈ lw_tbl := (List.forall_mem_cons.mpr ⟨mw_311, (List.forall_mem_cons.mpr ⟨mw_310, (List.forall_mem_cons.mpr ⟨mw_309, (List.forall_mem_cons.mpr ⟨mw_308, (List.forall_mem_cons.mpr ⟨mw_133, (fun _ h => nomatch h)⟩)⟩)⟩)⟩)⟩)
theorem hm_wsX5_want : ∀ w ∈ wsX5_want, w ∈ lw_tbl := (List.forall_mem_cons.mpr ⟨mw_295, (List.forall_mem_append.mpr ⟨(List.forall_mem_append.mpr ⟨hm_wsX5_want_r1, hm_wsX5_want_r2⟩), wx_5⟩)⟩)
theorem hm_wsX4_begin_r1 : ∀ w ∈ wsX4_begin_r1, w ∈ lw_tbl := (List.forall_mem_cons.mpr ⟨mw_16, (List.forall_mem_cons.mpr ⟨mw_81, (List.forall_mem_cons.mpr ⟨mw_80, (List.forall_mem_cons.mpr ⟨mw_278, (List.forall_mem_cons.mpr ⟨mw_277, (List.forall_mem_cons.mpr ⟨mw_318, (List.forall_mem_cons.mpr ⟨mw_317, (List.forall_mem_cons.mpr ⟨mw_274, (List.forall_mem_cons.mpr ⟨mw_316, (List.forall_mem_cons.mpr ⟨mw_79, (List.forall_mem_cons.mpr ⟨mw_273, (List.forall_mem_cons.mpr ⟨mw_272, (List.forall_mem_cons.mpr ⟨mw_271, (List.forall_mem_cons.mpr ⟨mw_70, (List.forall_mem_cons.mpr ⟨mw_270, (List.forall_mem_cons.mpr ⟨mw_269, (List.forall_mem_cons.mpr ⟨mw_268, (List.forall_mem_cons.mpr ⟨mw_267, (List.forall_mem_cons.mpr ⟨mw_266, (List.forall_mem_cons.mpr ⟨mw_265, (List.forall_mem_cons.mpr ⟨mw_68, (List.forall_mem_cons.mpr ⟨mw_18, (List.forall_mem_cons.mpr ⟨mw_52, (List.forall_mem_cons.mpr ⟨mw_51, (fun _ h => nomatch h)⟩)⟩)⟩)⟩)⟩)⟩)⟩)⟩)⟩)⟩)⟩)⟩)⟩)⟩)⟩)⟩)⟩)⟩)⟩)⟩)⟩)⟩)⟩)⟩)
theorem hm_wsX4_begin_r2 : ∀ w ∈ wsX4_begin_r2, w ∈ lw_tbl := (List.forall_mem_cons.mpr ⟨mw_50, (List.forall_mem_cons.mpr ⟨mw_19, (List.forall_mem_cons.mpr ⟨mw_49, (List.forall_mem_cons.mpr ⟨mw_63, (List.forall_mem_cons.mpr ⟨mw_326, (List.forall_mem_cons.mpr ⟨mw_325, (List.forall_mem_cons.mpr ⟨mw_324, (List.forall_mem_cons.mpr ⟨mw_5, (List.forall_mem_cons.mpr ⟨mw_323, (List.forall_mem_cons.mpr ⟨mw_32, (List.forall_mem_cons.mpr ⟨mw_117, (List.forall_mem_cons.mpr ⟨mw_322, (List.forall_mem_cons.mpr ⟨mw_321, (List.forall_mem_cons.mpr ⟨mw_320, (List.forall_mem_cons.mpr ⟨mw_319, (List.forall_mem_cons.mpr ⟨mw_31, (List.forall_mem_cons.mpr ⟨mw_111, (List.forall_mem_cons.mpr ⟨mw_287, (List.forall_mem_cons.mpr ⟨mw_286, (List.forall_mem_cons.mpr ⟨mw_285, (List.forall_mem_cons.mpr ⟨mw_33, (List.forall_mem_cons.mpr ⟨mw_284, (List.forall_mem_cons.mpr ⟨mw_283, (List.forall_mem_cons.mpr ⟨mw_27, (fun _ h => nomatch h)⟩)⟩)⟩)⟩)⟩)⟩)⟩)⟩)⟩)⟩)⟩)⟩)⟩)⟩)⟩)⟩)⟩)⟩)⟩)⟩)⟩)⟩)⟩)⟩)
theorem hm_wsX4_begin_r3 : ∀ w ∈ wsX4_begin_r3, w ∈ lw_tbl := (List.forall_mem_cons.mpr ⟨mw_348, (List.forall_mem_cons.mpr ⟨mw_347, (List.forall_mem_cons.mpr ⟨mw_346, (List.forall_mem_cons.mpr ⟨mw_345, (List.forall_mem_cons.mpr ⟨mw_26, (List.forall_mem_cons.mpr ⟨mw_344, (List.forall_mem_cons.mpr ⟨mw_343, (List.forall_mem_cons.mpr ⟨mw_342, (List.forall_mem_cons.mpr ⟨mw_341, (List.forall_mem_cons.mpr ⟨mw_116, (List.forall_mem_cons.mpr ⟨mw_340, (List.forall_mem_cons.mpr ⟨mw_339, (List.forall_mem_cons.mpr ⟨mw_338, (List.forall_mem_cons.mpr ⟨mw_337, (List.forall_mem_cons.mpr ⟨mw_336, (List.forall_mem_cons.mpr ⟨mw_335, (List.forall_mem_cons.mpr ⟨mw_334, (List.forall_mem_cons.mpr ⟨mw_333, (List.forall_mem_cons.mpr ⟨mw_332, (List.forall_mem_cons.mpr ⟨mw_331, (List.forall_mem_cons.mpr ⟨mw_330, (List.forall_mem_cons.mpr ⟨mw_329, (List.forall_mem_cons.mpr ⟨mw_328, (List.forall_mem_cons.mpr ⟨mw_327, (fun _ h => nomatch h)⟩)⟩)⟩)⟩)⟩)⟩)⟩)⟩)⟩)⟩)⟩)⟩)⟩)⟩)⟩)⟩)⟩)⟩)⟩)⟩)⟩)⟩)⟩)⟩)
theorem hm_wsX4_begin_r4 : ∀ w ∈ wsX4_begin_r4, w ∈ lw_tbl := (List.forall_mem_cons.mpr ⟨mw_352, (List.forall_mem_cons.mpr ⟨mw_351, (List.forall_mem_cons.mpr ⟨mw_350, (List.forall_mem_cons.mpr ⟨mw_349, (List.forall_mem_cons.mpr ⟨mw_100, (List.forall_mem_cons.mpr ⟨mw_276, (List.forall_mem_cons.mpr ⟨mw_275, (fun _ h => nomatch h)⟩)⟩)⟩)⟩)⟩)⟩)⟩)
theorem hm_wsX4_begin : ∀ w ∈ wsX4_begin, w ∈ lw_tbl := (List.forall_mem_cons.mpr ⟨mw_315, (List.forall_mem_append.mpr ⟨(List.forall_mem_append.mpr ⟨(List.forall_mem_append.mpr ⟨(List.forall_mem_append.mpr ⟨(List.forall_mem_append.mpr ⟨hm_wsX4_begin_r1, (List.forall_mem_append.mpr ⟨hm_wsX4_begin_r2, (List.forall_mem_append.mpr ⟨hm_wsX4_begin_r3, hm_wsX4_begin_r4⟩)⟩)⟩), wx_4⟩), wx_3⟩), wx_2⟩), wx_0⟩)⟩)
theorem hm_wsX5_begin_r1 : ∀ w ∈ wsX5_begin_r1, w ∈ lw_tbl := (List.forall_mem_cons.mpr ⟨mw_144, (List.forall_mem_cons.mpr ⟨mw_142, (List.forall_mem_cons.mpr ⟨mw_135, (List.forall_mem_cons.mpr ⟨mw_134, (List.forall_mem_cons.mpr ⟨mw_136, (List.forall_mem_cons.mpr ⟨mw_140, (List.forall_mem_cons.mpr ⟨mw_174, (List.forall_mem_cons.mpr ⟨mw_156, (List.forall_mem_cons.mpr ⟨mw_137, (List.forall_mem_cons.mpr ⟨mw_307, (List.forall_mem_cons.mpr ⟨mw_306, (List.forall_mem_cons.mpr ⟨mw_305, (List.forall_mem_cons.mpr ⟨mw_162, (List.forall_mem_cons.mpr ⟨mw_304, (List.forall_mem_cons.mpr ⟨mw_155, (List.forall_mem_cons.mpr ⟨mw_141, (List.forall_mem_cons.mpr ⟨mw_188, (List.forall_mem_cons.mpr ⟨mw_187, (List.forall_mem_cons.mpr ⟨mw_186, (List.forall_mem_cons.mpr ⟨mw_185, (List.forall_mem_cons.mpr ⟨mw_360, (List.forall_mem_cons.mpr ⟨mw_359, (List.forall_mem_cons.mpr ⟨mw_358, (List.forall_mem_cons.mpr ⟨mw_357, (fun _ h => nomatch h)⟩)⟩)⟩)⟩)⟩)⟩)⟩)⟩)⟩)⟩)⟩)⟩)⟩)⟩)⟩)⟩)⟩)⟩)⟩)⟩)⟩)⟩)⟩)⟩)
theorem hm_wsX5_begin_r2 : ∀ w ∈ wsX5_begin_r2, w ∈ lw_tbl := (List.forall_mem_cons.mpr ⟨mw_176, (List.forall_mem_cons.mpr ⟨mw_175, (List.forall_mem_cons.mpr ⟨mw_133, (List.forall_mem_cons.mpr ⟨mw_303, (List.forall_mem_cons.mpr ⟨mw_302, (List.forall_mem_cons.mpr ⟨mw_301, (List.forall_mem_cons.mpr ⟨mw_300, (List.forall_mem_cons.mpr ⟨mw_299, (List.forall_mem_cons.mpr ⟨mw_298, (List.forall_mem_cons.mpr ⟨mw_297, (List.forall_mem_cons.mpr ⟨mw_296, (List.forall_mem_cons.mpr ⟨mw_364, (List.forall_mem_cons.mpr ⟨mw_363, (List.forall_mem_cons.mpr ⟨mw_362, (List.forall_mem_cons.mpr ⟨mw_361, (fun _ h => nomatch h)⟩)⟩)⟩)⟩)⟩)⟩)⟩)⟩)⟩)⟩)⟩)⟩)⟩)⟩)⟩)
theorem hm_wsX5_begin : ∀ w ∈ wsX5_begin, w ∈ lw_tbl := (List.forall_mem_cons.mpr ⟨mw_356, (List.forall_mem_append.mpr ⟨(List.forall_mem_append.mpr ⟨hm_wsX5_begin_r1, hm_wsX5_begin_r2⟩), wx_5⟩)⟩)
theorem hm_wsX4_end : ∀ w ∈ wsX4_end, w ∈ lw_tbl := (List.forall_mem_cons.mpr ⟨mw_368, (List.forall_mem_append.mpr ⟨(List.forall_mem_append.mpr ⟨(List.forall_mem_append.mpr ⟨(List.forall_mem_cons.mpr ⟨mw_382, (List.forall_mem_cons.mpr ⟨mw_381, (List.forall_mem_cons.mpr ⟨mw_380, (List.forall_mem_cons.mpr ⟨mw_379, (List.forall_mem_cons.mpr ⟨mw_378, (List.forall_mem_cons.mpr ⟨mw_377, (List.forall_mem_cons.mpr ⟨mw_206, (List.forall_mem_cons.mpr ⟨mw_376, (List.forall_mem_cons.mpr ⟨mw_205, (List.forall_mem_cons.mpr ⟨mw_204, (List.forall_mem_cons.mpr ⟨mw_234, (List.forall_mem_cons.mpr ⟨mw_233, (List.forall_mem_cons.mpr ⟨mw_232, (List.forall_mem_cons.mpr ⟨mw_200, (List.forall_mem_cons.mpr ⟨mw_231, (List.forall_mem_cons.mpr ⟨mw_197, (List.forall_mem_cons.mpr ⟨mw_375, (List.forall_mem_cons.mpr ⟨mw_374, (List.forall_mem_cons.mpr ⟨mw_373, (List.forall_mem_cons.mpr ⟨mw_372, (List.forall_mem_cons.mpr ⟨mw_371, (List.forall_mem_cons.mpr ⟨mw_370, (List.forall_mem_cons.mpr ⟨mw_369, (fun _ h => nomatch h)⟩)⟩)⟩)⟩)⟩)⟩)⟩)⟩)⟩)⟩)⟩)⟩)⟩)⟩)⟩)⟩)⟩)⟩)⟩)⟩)⟩)⟩)⟩), wx_4⟩), wx_3⟩), wx_0⟩)⟩)
theorem hm_wsX5_end : ∀ w ∈ wsX5_end, w ∈ lw_tbl := (List.forall_mem_cons.mpr ⟨mw_386, (List.forall_mem_append.mpr ⟨(List.forall_mem_cons.mpr ⟨mw_213, (List.forall_mem_cons.mpr ⟨mw_392, (List.forall_mem_cons.mpr ⟨mw_391, (List.forall_mem_cons.mpr ⟨mw_247, (List.forall_mem_cons.mpr ⟨mw_246, (List.forall_mem_cons.mpr ⟨mw_245, (List.forall_mem_cons.mpr ⟨mw_215, (List.forall_mem_cons.mpr ⟨mw_244, (List.forall_mem_cons.mpr ⟨mw_214, (List.forall_mem_cons.mpr ⟨mw_390, (List.forall_mem_cons.mpr ⟨mw_389, (List.forall_mem_cons.mpr ⟨mw_388, (List.forall_mem_cons.mpr ⟨mw_387, (fun _ h => nomatch h)⟩)⟩)⟩)⟩)⟩)⟩)⟩)⟩)⟩)⟩)⟩)⟩)⟩), wx_5⟩)⟩)
theorem hm_wsX4_step_r1 : ∀ w ∈ wsX4_step_r1, w ∈ lw_tbl := (List.forall_mem_cons.mpr ⟨mw_16, (List.forall_mem_cons.mpr ⟨mw_277, (List.forall_mem_cons.mpr ⟨mw_274, (List.forall_mem_cons.mpr ⟨mw_398, (List.forall_mem_cons.mpr ⟨mw_81, (List.forall_mem_cons.mpr ⟨mw_397, (List.forall_mem_cons.mpr ⟨mw_273, (List.forall_mem_cons.mpr ⟨mw_272, (List.forall_mem_cons.mpr ⟨mw_271, (List.forall_mem_cons.mpr ⟨mw_70, (List.forall_mem_cons.mpr ⟨mw_270, (List.forall_mem_cons.mpr ⟨mw_269, (List.forall_mem_cons.mpr ⟨mw_268, (List.forall_mem_cons.mpr ⟨mw_267, (List.forall_mem_cons.mpr ⟨mw_266, (List.forall_mem_cons.mpr ⟨mw_265, (List.forall_mem_cons.mpr ⟨mw_68, (List.forall_mem_cons.mpr ⟨mw_18, (List.forall_mem_cons.mpr ⟨mw_52, (List.forall_mem_cons.mpr ⟨mw_51, (List.forall_mem_cons.mpr ⟨mw_50, (List.forall_mem_cons.mpr ⟨mw_19, (List.forall_mem_cons.mpr ⟨mw_49, (List.forall_mem_cons.mpr ⟨mw_63, (fun _ h => nomatch h)⟩)⟩)⟩)⟩)⟩)⟩)⟩)⟩)⟩)⟩)⟩)⟩)⟩)⟩)⟩)⟩)⟩)⟩)⟩)⟩)⟩)⟩)⟩)⟩)
theorem hm_wsX4_step_r2 : ∀ w ∈ wsX4_step_r2, w ∈ lw_tbl := (List.forall_mem_cons.mpr ⟨mw_403, (List.forall_mem_cons.mpr ⟨mw_402, (List.forall_mem_cons.mpr ⟨mw_401, (List.forall_mem_cons.mpr ⟨mw_400, (List.forall_mem_cons.mpr ⟨mw_80, (List.forall_mem_cons.mpr ⟨mw_278, (List.forall_mem_cons.mpr ⟨mw_318, (List.forall_mem_cons.mpr ⟨mw_399, (List.forall_mem_cons.mpr ⟨mw_326, (List.forall_mem_cons.mpr ⟨mw_325, (List.forall_mem_cons.mpr ⟨mw_324, (List.forall_mem_cons.mpr ⟨mw_5, (List.forall_mem_cons.mpr ⟨mw_323, (List.forall_mem_cons.mpr ⟨mw_32, (List.forall_mem_cons.mpr ⟨mw_117, (List.forall_mem_cons.mpr ⟨mw_322, (List.forall_mem_cons.mpr ⟨mw_321, (List.forall_mem_cons.mpr ⟨mw_320, (List.forall_mem_cons.mpr ⟨mw_319, (List.forall_mem_cons.mpr ⟨mw_31, (List.forall_mem_cons.mpr ⟨mw_111, (List.forall_mem_cons.mpr ⟨mw_287, (List.forall_mem_cons.mpr ⟨mw_286, (List.forall_mem_cons.mpr ⟨mw_285, (fun _ h => nomatch h)⟩)⟩)⟩)⟩)⟩)⟩)⟩)⟩)⟩)⟩)⟩)⟩)⟩)⟩)⟩)⟩)⟩)⟩)⟩)⟩)⟩)⟩)⟩)⟩)
theorem hm_wsX4_step_r3 : ∀ w ∈ wsX4_step_r3, w ∈ lw_tbl := (List.forall_mem_cons.mpr ⟨mw_33, (List.forall_mem_cons.mpr ⟨mw_284, (List.forall_mem_cons.mpr ⟨mw_283, (List.forall_mem_cons.mpr ⟨mw_27, (List.forall_mem_cons.mpr ⟨mw_348, (List.forall_mem_cons.mpr ⟨mw_347, (List.forall_mem_cons.mpr ⟨mw_346, (List.forall_mem_cons.mpr ⟨mw_345, (List.forall_mem_cons.mpr ⟨mw_26, (List.forall_mem_cons.mpr ⟨mw_344, (List.forall_mem_cons.mpr ⟨mw_343, (List.forall_mem_cons.mpr ⟨mw_342, (List.forall_mem_cons.mpr ⟨mw_341, (List.forall_mem_cons.mpr ⟨mw_116, (List.forall_mem_cons.mpr ⟨mw_407, (List.forall_mem_cons.mpr ⟨mw_406, (List.forall_mem_cons.mpr ⟨mw_405, (List.forall_mem_cons.mpr ⟨mw_404, (List.forall_mem_cons.mpr ⟨mw_101, (List.forall_mem_cons.mpr ⟨mw_316, (List.forall_mem_cons.mpr ⟨mw_340, (List.forall_mem_cons.mpr ⟨mw_339, (List.forall_mem_cons.mpr ⟨mw_338, (List.forall_mem_cons.mpr ⟨mw_337, (fun _ h => nomatch h)⟩)⟩)⟩)⟩)⟩)⟩)⟩)⟩)⟩)⟩)⟩)⟩)⟩)⟩)⟩)⟩)⟩)⟩)⟩)⟩)⟩)⟩)⟩)⟩)
theorem hm_wsX4_step_r4 : ∀ w ∈ wsX4_step_r4, w ∈ lw_tbl := (List.forall_mem_cons.mpr ⟨mw_336, (List.forall_mem_cons.mpr ⟨mw_335, (List.forall_mem_cons.mpr ⟨mw_334, (List.forall_mem_cons.mpr ⟨mw_333, (List.forall_mem_cons.mpr ⟨mw_332, (List.forall_mem_cons.mpr ⟨mw_331, (List.forall_mem_cons.mpr ⟨mw_330, (List.forall_mem_cons.mpr ⟨mw_329, (List.forall_mem_cons.mpr ⟨mw_328, (List.forall_mem_cons.mpr ⟨mw_327, (List.forall_mem_cons.mpr ⟨mw_416, (List.forall_mem_cons.mpr ⟨mw_415, (List.forall_mem_cons.mpr ⟨mw_414, (List.forall_mem_cons.mpr ⟨mw_413, (List.forall_mem_cons.mpr ⟨mw_12, (List.forall_mem_cons.mpr ⟨mw_8, (List.forall_mem_cons.mpr ⟨mw_412, (List.forall_mem_cons.mpr ⟨mw_411, (List.forall_mem_cons.mpr ⟨mw_410, (List.forall_mem_cons.mpr ⟨mw_13, (List.forall_mem_cons.mpr ⟨mw_409, (List.forall_mem_cons.mpr ⟨mw_408, (List.forall_mem_cons.mpr ⟨mw_43, (List.forall_mem_cons.mpr ⟨mw_42, (fun _ h => nomatch h)⟩)⟩)⟩)⟩)⟩)⟩)⟩)⟩)⟩)⟩)⟩)⟩)⟩)⟩)⟩)⟩)⟩)⟩)⟩)⟩)⟩)⟩)⟩)⟩)
theorem hm_wsX4_step_r5 : ∀ w ∈ wsX4_step_r5, w ∈ lw_tbl := (List.forall_mem_cons.mpr ⟨mw_436, (List.forall_mem_cons.mpr ⟨mw_435, (List.forall_mem_cons.mpr ⟨mw_434, (List.forall_mem_cons.mpr ⟨mw_433, (List.forall_mem_cons.mpr ⟨mw_44, (List.forall_mem_cons.mpr ⟨mw_41, (List.forall_mem_cons.mpr ⟨mw_40, (List.forall_mem_cons.mpr ⟨mw_432, (List.forall_mem_cons.mpr ⟨mw_431, (List.forall_mem_cons.mpr ⟨mw_430, (List.forall_mem_cons.mpr ⟨mw_429, (List.forall_mem_cons.mpr ⟨mw_11, (List.forall_mem_cons.mpr ⟨mw_428, (List.forall_mem_cons.mpr ⟨mw_427, (List.forall_mem_cons.mpr ⟨mw_426, (List.forall_mem_cons.mpr ⟨mw_425, (List.forall_mem_cons.mpr ⟨mw_424, (List.forall_mem_cons.mpr ⟨mw_423, (List.forall_mem_cons.mpr ⟨mw_422, (List.forall_mem_cons.mpr ⟨mw_421, (List.forall_mem_cons.mpr ⟨mw_420, (List.forall_mem_cons.mpr ⟨mw_419, (List.forall_mem_cons.mpr ⟨mw_418, (List.forall_mem_cons.mpr ⟨mw_417, (fun _ h => nomatch h)⟩)⟩)⟩)⟩)⟩)⟩)⟩)⟩)⟩)⟩)⟩)⟩)⟩)⟩)⟩)⟩)⟩)⟩)⟩)⟩)⟩)⟩)⟩)⟩)
theorem hm_wsX4_step_r6 : ∀ w ∈ wsX4_step_r6, w ∈ lw_tbl := (List.forall_mem_cons.mpr ⟨mw_442, (List.forall_mem_cons.mpr ⟨mw_441, (List.forall_mem_cons.mpr ⟨mw_440, (List.forall_mem_cons.mpr ⟨mw_439, (List.forall_mem_cons.mpr ⟨mw_438, (List.forall_mem_cons.mpr ⟨mw_437, (fun _ h => nomatch h)⟩)⟩)⟩)⟩)⟩)⟩)
theorem hm_wsX4_step : ∀ w ∈ wsX4_step, w ∈ lw_tbl := (List.forall_mem_cons.mpr ⟨mw_396, (List.forall_mem_append.mpr ⟨(List.forall_mem_append.mpr ⟨(List.forall_mem_append.mpr ⟨(List.forall_mem_append.mpr ⟨(List.forall_mem_append.mpr ⟨(List.forall_mem_append.mpr ⟨hm_wsX4_step_r1, (List.forall_mem_append.mpr ⟨hm_wsX4_step_r2, (List.forall_mem_append.mpr ⟨hm_wsX4_step_r3, (List.forall_mem_append.mpr ⟨hm_wsX4_step_r4, (List.forall_mem_append.mpr ⟨hm_wsX4_step_r5, hm_wsX4_step_r6⟩)⟩)⟩)⟩)⟩), wx_4⟩), wx_3⟩), wx_2⟩), wx_0⟩), wx_1⟩)⟩)
theorem hm_wsX5_step_r1 : ∀ w ∈ wsX5_step_r1, w ∈ lw_tbl := (List.forall_mem_cons.mpr ⟨mw_135, (List.forall_mem_cons.mpr ⟨mw_144, (List.forall_mem_cons.mpr ⟨mw_134, (List.forall_mem_cons.mpr ⟨mw_142, (List.forall_mem_cons.mpr ⟨mw_140, (List.forall_mem_cons.mpr ⟨mw_143, (List.forall_mem_cons.mpr ⟨mw_176, (List.forall_mem_cons.mpr ⟨mw_139, (List.forall_mem_cons.mpr ⟨mw_307, (List.forall_mem_cons.mpr ⟨mw_306, (List.forall_mem_cons.mpr ⟨mw_305, (List.forall_mem_cons.mpr ⟨mw_162, (List.forall_mem_cons.mpr ⟨mw_304, (List.forall_mem_cons.mpr ⟨mw_155, (List.forall_mem_cons.mpr ⟨mw_141, (List.forall_mem_cons.mpr ⟨mw_188, (List.forall_mem_cons.mpr ⟨mw_187, (List.forall_mem_cons.mpr ⟨mw_186, (List.forall_mem_cons.mpr ⟨mw_185, (List.forall_mem_cons.mpr ⟨mw_156, (List.forall_mem_cons.mpr ⟨mw_360, (List.forall_mem_cons.mpr ⟨mw_359, (List.forall_mem_cons.mpr ⟨mw_358, (List.forall_mem_cons.mpr ⟨mw_357, (fun _ h => nomatch h)⟩)⟩)⟩)⟩)⟩)⟩)⟩)⟩)⟩)⟩)⟩)⟩)⟩)⟩)⟩)⟩)⟩)⟩)⟩)⟩)⟩)⟩)⟩)⟩)
theorem hm_wsX5_step_r2 : ∀ w ∈ wsX5_step_r2, w ∈ lw_tbl := (List.forall_mem_cons.mpr ⟨mw_175, (List.forall_mem_cons.mpr ⟨mw_133, (List.forall_mem_cons.mpr ⟨mw_303, (List.forall_mem_cons.mpr ⟨mw_302, (List.forall_mem_cons.mpr ⟨mw_301, (List.forall_mem_cons.mpr ⟨mw_300, (List.forall_mem_cons.mpr ⟨mw_299, (List.forall_mem_cons.mpr ⟨mw_298, (List.forall_mem_cons.mpr ⟨mw_297, (List.forall_mem_cons.mpr ⟨mw_296, (List.forall_mem_cons.mpr ⟨mw_364, (List.forall_mem_cons.mpr ⟨mw_363, (List.forall_mem_cons.mpr ⟨mw_362, (List.forall_mem_cons.mpr ⟨mw_361, (List.forall_mem_cons.mpr ⟨mw_450, (List.forall_mem_cons.mpr ⟨mw_449, (List.forall_mem_cons.mpr ⟨mw_448, (List.forall_mem_cons.mpr ⟨mw_447, (List.forall_mem_cons.mpr ⟨mw_130, (List.forall_mem_cons.mpr ⟨mw_173, (List.forall_mem_cons.mpr ⟨mw_129, (List.forall_mem_cons.mpr ⟨mw_128, (List.forall_mem_cons.mpr ⟨mw_127, (List.forall_mem_cons.mpr ⟨mw_132, (fun _ h => nomatch h)⟩)⟩)⟩)⟩)⟩)⟩)⟩)⟩)⟩)⟩)⟩)⟩)⟩)⟩)⟩)⟩)⟩)⟩)⟩)⟩)⟩)⟩)⟩)⟩)
theorem hm_wsX5_step_r3 : ∀ w ∈ wsX5_step_r3, w ∈ lw_tbl := (List.forall_mem_cons.mpr ⟨mw_469, (List.forall_mem_cons.mpr ⟨mw_468, (List.forall_mem_cons.mpr ⟨mw_467, (List.forall_mem_cons.mpr ⟨mw_466, (List.forall_mem_cons.mpr ⟨mw_465, (List.forall_mem_cons.mpr ⟨mw_464, (List.forall_mem_cons.mpr ⟨mw_463, (List.forall_mem_cons.mpr ⟨mw_462, (List.forall_mem_cons.mpr ⟨mw_461, (List.forall_mem_cons.mpr ⟨mw_460, (List.forall_mem_cons.mpr ⟨mw_459, (List.forall_mem_cons.mpr ⟨mw_458, (List.forall_mem_cons.mpr ⟨mw_172, (List.forall_mem_cons.mpr ⟨mw_171, (List.forall_mem_cons.mpr ⟨mw_170, (List.forall_mem_cons.mpr ⟨mw_169, (List.forall_mem_cons.mpr ⟨mw_168, (List.forall_mem_cons.mpr ⟨mw_457, (List.forall_mem_cons.mpr ⟨mw_456, (List.forall_mem_cons.mpr ⟨mw_455, (List.forall_mem_cons.mpr ⟨mw_454, (List.forall_mem_cons.mpr ⟨mw_453, (List.forall_mem_cons.mpr ⟨mw_452, (List.forall_mem_cons.mpr ⟨mw_451, (fun _ h => nomatch h)⟩)⟩)⟩)⟩)⟩)⟩)⟩)⟩)⟩)⟩)⟩)⟩)⟩)⟩)⟩)⟩)⟩)⟩)⟩)⟩)⟩)⟩)⟩)⟩)
theorem hm_wsX5_step_r4 : ∀ w ∈ wsX5_step_r4, w ∈ lw_tbl := (List.forall_mem_cons.mpr ⟨mw_470, (fun _ h => nomatch h)⟩)
theorem hm_wsX5_step : ∀ w ∈ wsX5_step, w ∈ lw_tbl := (List.forall_mem_cons.mpr ⟨mw_446, (List.forall_mem_append.mpr ⟨(List.forall_mem_append.mpr ⟨hm_wsX5_step_r1, (List.forall_mem_append.mpr ⟨hm_wsX5_step_r2, (List.forall_mem_append.mpr ⟨hm_wsX5_step_r3, hm_wsX5_step_r4⟩)⟩)⟩), wx_5⟩)⟩)
theorem hm_wsX4_deliver_r1 : ∀ w ∈ wsX4_deliver_r1, w ∈ lw_tbl := (List.forall_mem_cons.mpr ⟨mw_11, (List.forall_mem_cons.mpr ⟨mw_487, (List.forall_mem_cons.mpr ⟨mw_486, (List.forall_mem_cons.mpr ⟨mw_485, (List.forall_mem_cons.mpr ⟨mw_484, (List.forall_mem_cons.mpr ⟨mw_483, (List.forall_mem_cons.mpr ⟨mw_16, (List.forall_mem_cons.mpr ⟨mw_269, (List.forall_mem_cons.mpr ⟨mw_7, (List.forall_mem_cons.mpr ⟨mw_482, (List.forall_mem_cons.mpr ⟨mw_481, (List.forall_mem_cons.mpr ⟨mw_480, (List.forall_mem_cons.mpr ⟨mw_70, (List.forall_mem_cons.mpr ⟨mw_479, (List.forall_mem_cons.mpr ⟨mw_68, (List.forall_mem_cons.mpr ⟨mw_78, (List.forall_mem_cons.mpr ⟨mw_478, (List.forall_mem_cons.mpr ⟨mw_477, (List.forall_mem_cons.mpr ⟨mw_476, (List.forall_mem_cons.mpr ⟨mw_13, (List.forall_mem_cons.mpr ⟨mw_475, (List.forall_mem_cons.mpr ⟨mw_44, (List.forall_mem_cons.mpr ⟨mw_408, (List.forall_mem_cons.mpr ⟨mw_43, (fun _ h => nomatch h)⟩)⟩)⟩)⟩)⟩)⟩)⟩)⟩)⟩)⟩)⟩)⟩)⟩)⟩)⟩)⟩)⟩)⟩)⟩)⟩)⟩)⟩)⟩)⟩)
theorem hm_wsX4_deliver_r2 : ∀ w ∈ wsX4_deliver_r2, w ∈ lw_tbl := (List.forall_mem_cons.mpr ⟨mw_42, (List.forall_mem_cons.mpr ⟨mw_41, (List.forall_mem_cons.mpr ⟨mw_40, (List.forall_mem_cons.mpr ⟨mw_332, (List.forall_mem_cons.mpr ⟨mw_331, (List.forall_mem_cons.mpr ⟨mw_330, (List.forall_mem_cons.mpr ⟨mw_329, (List.forall_mem_cons.mpr ⟨mw_328, (List.forall_mem_cons.mpr ⟨mw_327, (List.forall_mem_cons.mpr ⟨mw_491, (List.forall_mem_cons.mpr ⟨mw_490, (List.forall_mem_cons.mpr ⟨mw_489, (List.forall_mem_cons.mpr ⟨mw_488, (List.forall_mem_cons.mpr ⟨mw_12, (List.forall_mem_cons.mpr ⟨mw_412, (List.forall_mem_cons.mpr ⟨mw_411, (List.forall_mem_cons.mpr ⟨mw_410, (List.forall_mem_cons.mpr ⟨mw_409, (List.forall_mem_cons.mpr ⟨mw_432, (List.forall_mem_cons.mpr ⟨mw_431, (List.forall_mem_cons.mpr ⟨mw_430, (List.forall_mem_cons.mpr ⟨mw_429, (List.forall_mem_cons.mpr ⟨mw_428, (List.forall_mem_cons.mpr ⟨mw_427, (fun _ h => nomatch h)⟩)⟩)⟩)⟩)⟩)⟩)⟩)⟩)⟩)⟩)⟩)⟩)⟩)⟩)⟩)⟩)⟩)⟩)⟩)⟩)⟩)⟩)⟩)⟩)
theorem hm_wsX4_deliver_r3 : ∀ w ∈ wsX4_deliver_r3, w ∈ lw_tbl := (List.forall_mem_cons.mpr ⟨mw_426, (List.forall_mem_cons.mpr ⟨mw_425, (List.forall_mem_cons.mpr ⟨mw_424, (List.forall_mem_cons.mpr ⟨mw_435, (List.forall_mem_cons.mpr ⟨mw_434, (List.forall_mem_cons.mpr ⟨mw_433, (List.forall_mem_cons.mpr ⟨mw_503, (List.forall_mem_cons.mpr ⟨mw_502, (List.forall_mem_cons.mpr ⟨mw_501, (List.forall_mem_cons.mpr ⟨mw_500, (List.forall_mem_cons.mpr ⟨mw_277, (List.forall_mem_cons.mpr ⟨mw_101, (List.forall_mem_cons.mpr ⟨mw_398, (List.forall_mem_cons.mpr ⟨mw_499, (List.forall_mem_cons.mpr ⟨mw_498, (List.forall_mem_cons.mpr ⟨mw_497, (List.forall_mem_cons.mpr ⟨mw_33, (List.forall_mem_cons.mpr ⟨mw_496, (List.forall_mem_cons.mpr ⟨mw_26, (List.forall_mem_cons.mpr ⟨mw_495, (List.forall_mem_cons.mpr ⟨mw_494, (List.forall_mem_cons.mpr ⟨mw_334, (List.forall_mem_cons.mpr ⟨mw_493, (List.forall_mem_cons.mpr ⟨mw_492, (fun _ h => nomatch h)⟩)⟩)⟩)⟩)⟩)⟩)⟩)⟩)⟩)⟩)⟩)⟩)⟩)⟩)⟩)⟩)⟩)⟩)⟩)⟩)⟩)⟩)⟩)⟩)
theorem hm_wsX4_deliver_r4 : ∀ w ∈ wsX4_deliver_r4, w ∈ lw_tbl := (List.forall_mem_cons.mpr ⟨mw_286, (List.forall_mem_cons.mpr ⟨mw_285, (List.forall_mem_cons.mpr ⟨mw_284, (List.forall_mem_cons.mpr ⟨mw_283, (List.forall_mem_cons.mpr ⟨mw_27, (List.forall_mem_cons.mpr ⟨mw_504, (List.forall_mem_cons.mpr ⟨mw_281, (List.forall_mem_cons.mpr ⟨mw_280, (List.forall_mem_cons.mpr ⟨mw_279, (List.forall_mem_cons.mpr ⟨mw_436, (fun _ h => nomatch h)⟩)⟩)⟩)⟩)⟩)⟩)⟩)⟩)⟩)⟩)
theorem hm_wsX4_deliver : ∀ w ∈ wsX4_deliver, w ∈ lw_tbl := (List.forall_mem_cons.mpr ⟨mw_474, (List.forall_mem_append.mpr ⟨(List.forall_mem_append.mpr ⟨(List.forall_mem_append.mpr ⟨(List.forall_mem_append.mpr ⟨(List.forall_mem_append.mpr ⟨hm_wsX4_deliver_r1, (List.forall_mem_append.mpr ⟨hm_wsX4_deliver_r2, (List.forall_mem_append.mpr ⟨hm_wsX4_deliver_r3, hm_wsX4_deliver_r4⟩)⟩)⟩), wx_4⟩), wx_1⟩), wx_3⟩), wx_2⟩)⟩)
theorem hm_wsX5_deliver_r1 : ∀ w ∈ wsX5_deliver_r1, w ∈ lw_tbl := (List.forall_mem_cons.mpr ⟨mw_155, (List.forall_mem_cons.mpr ⟨mw_172, (List.forall_mem_cons.mpr ⟨mw_171, (List.forall_mem_cons.mpr ⟨mw_170, (List.forall_mem_cons.mpr ⟨mw_169, (List.forall_mem_cons.mpr ⟨mw_168, (List.forall_mem_cons.mpr ⟨mw_141, (List.forall_mem_cons.mpr ⟨mw_127, (List.forall_mem_cons.mpr ⟨mw_131, (List.forall_mem_cons.mpr ⟨mw_144, (List.forall_mem_cons.mpr ⟨mw_143, (List.forall_mem_cons.mpr ⟨mw_514, (List.forall_mem_cons.mpr ⟨mw_513, (List.forall_mem_cons.mpr ⟨mw_512, (List.forall_mem_cons.mpr ⟨mw_162, (List.forall_mem_cons.mpr ⟨mw_511, (List.forall_mem_cons.mpr ⟨mw_469, (List.forall_mem_cons.mpr ⟨mw_468, (List.forall_mem_cons.mpr ⟨mw_467, (List.forall_mem_cons.mpr ⟨mw_466, (List.forall_mem_cons.mpr ⟨mw_173, (List.forall_mem_cons.mpr ⟨mw_130, (List.forall_mem_cons.mpr ⟨mw_510, (List.forall_mem_cons.mpr ⟨mw_509, (fun _ h => nomatch h)⟩)⟩)⟩)⟩)⟩)⟩)⟩)⟩)⟩)⟩)⟩)⟩)⟩)⟩)⟩)⟩)⟩)⟩)⟩)⟩)⟩)⟩)⟩)⟩)
theorem hm_wsX5_deliver_r2 : ∀ w ∈ wsX5_deliver_r2, w ∈ lw_tbl := (List.forall_mem_cons.mpr ⟨mw_516, (List.forall_mem_cons.mpr ⟨mw_515, (List.forall_mem_cons.mpr ⟨mw_129, (List.forall_mem_cons.mpr ⟨mw_128, (List.forall_mem_cons.mpr ⟨mw_465, (List.forall_mem_cons.mpr ⟨mw_464, (List.forall_mem_cons.mpr ⟨mw_463, (List.forall_mem_cons.mpr ⟨mw_462, (List.forall_mem_cons.mpr ⟨mw_461, (List.forall_mem_cons.mpr ⟨mw_460, (List.forall_mem_cons.mpr ⟨mw_459, (List.forall_mem_cons.mpr ⟨mw_458, (List.forall_mem_cons.mpr ⟨mw_311, (List.forall_mem_cons.mpr ⟨mw_310, (List.forall_mem_cons.mpr ⟨mw_309, (List.forall_mem_cons.mpr ⟨mw_308, (List.forall_mem_cons.mpr ⟨mw_135, (List.forall_mem_cons.mpr ⟨mw_134, (List.forall_mem_cons.mpr ⟨mw_133, (List.forall_mem_cons.mpr ⟨mw_303, (List.forall_mem_cons.mpr ⟨mw_302, (List.forall_mem_cons.mpr ⟨mw_301, (List.forall_mem_cons.mpr ⟨mw_300, (List.forall_mem_cons.mpr ⟨mw_299, (fun _ h => nomatch h)⟩)⟩)⟩)⟩)⟩)⟩)⟩)⟩)⟩)⟩)⟩)⟩)⟩)⟩)⟩)⟩)⟩)⟩)⟩)⟩)⟩)⟩)⟩)⟩)
theorem hm_wsX5_deliver_r3 : ∀ w ∈ wsX5_deliver_r3, w ∈ lw_tbl := (List.forall_mem_cons.mpr ⟨mw_298, (List.forall_mem_cons.mpr ⟨mw_297, (List.forall_mem_cons.mpr ⟨mw_296, (fun _ h => nomatch h)⟩)⟩)⟩)
theorem hm_wsX5_deliver : ∀ w ∈ wsX5_deliver, w ∈ lw_tbl := (List.forall_mem_cons.mpr ⟨mw_508, (List.forall_mem_append.mpr ⟨(List.forall_mem_append.mpr ⟨hm_wsX5_deliver_r1, (List.forall_mem_append.mpr ⟨hm_wsX5_deliver_r2, hm_wsX5_deliver_r3⟩)⟩), wx_5⟩)⟩)
theorem hm_wsX4_lose_r1 : ∀ w ∈ wsX4_lose_r1, w ∈ lw_tbl := (List.forall_mem_cons.mpr ⟨mw_11, (List.forall_mem_cons.mpr ⟨mw_78, (List.forall_mem_cons.mpr ⟨mw_482, (List.forall_mem_cons.mpr ⟨mw_481, (List.forall_mem_cons.mpr ⟨mw_480, (List.forall_mem_cons.mpr ⟨mw_70, (List.forall_mem_cons.mpr ⟨mw_479, (List.forall_mem_cons.mpr ⟨mw_68, (List.forall_mem_cons.mpr ⟨mw_478, (List.forall_mem_cons.mpr ⟨mw_477, (List.forall_mem_cons.mpr ⟨mw_476, (List.forall_mem_cons.mpr ⟨mw_13, (List.forall_mem_cons.mpr ⟨mw_475, (List.forall_mem_cons.mpr ⟨mw_44, (List.forall_mem_cons.mpr ⟨mw_408, (List.forall_mem_cons.mpr ⟨mw_43, (List.forall_mem_cons.mpr ⟨mw_42, (List.forall_mem_cons.mpr ⟨mw_41, (List.forall_mem_cons.mpr ⟨mw_40, (List.forall_mem_cons.mpr ⟨mw_332, (List.forall_mem_cons.mpr ⟨mw_331, (List.forall_mem_cons.mpr ⟨mw_330, (List.forall_mem_cons.mpr ⟨mw_329, (List.forall_mem_cons.mpr ⟨mw_328, (fun _ h => nomatch h)⟩)⟩)⟩)⟩)⟩)⟩)⟩)⟩)⟩)⟩)⟩)⟩)⟩)⟩)⟩)⟩)⟩)⟩)⟩)⟩)⟩)⟩)⟩)⟩)
theorem hm_wsX4_lose_r2 : ∀ w ∈ wsX4_lose_r2, w ∈ lw_tbl := (List.forall_mem_cons.mpr ⟨mw_327, (fun _ h => nomatch h)⟩)
theorem hm_wsX4_lose : ∀ w ∈ wsX4_lose, w ∈ lw_tbl := (List.forall_mem_cons.mpr ⟨mw_520, (List.forall_mem_append.mpr ⟨(List.forall_mem_append.mpr ⟨(List.forall_mem_append.mpr ⟨hm_wsX4_lose_r1, hm_wsX4_lose_r2⟩), wx_4⟩), wx_1⟩)⟩)
theorem hm_wsX5_lose : ∀ w ∈ wsX5_lose, w ∈ lw_tbl := (List.forall_mem_cons.mpr ⟨mw_524, (List.forall_mem_append.mpr ⟨(List.forall_mem_cons.mpr ⟨mw_213, (List.forall_mem_cons.mpr ⟨mw_533, (List.forall_mem_cons.mpr ⟨mw_532, (List.forall_mem_cons.mpr ⟨mw_531, (List.forall_mem_cons.mpr ⟨mw_530, (List.forall_mem_cons.mpr ⟨mw_215, (List.forall_mem_cons.mpr ⟨mw_529, (List.forall_mem_cons.mpr ⟨mw_528, (List.forall_mem_cons.mpr ⟨mw_527, (List.forall_mem_cons.mpr ⟨mw_526, (List.forall_mem_cons.mpr ⟨mw_525, (fun _ h => nomatch h)⟩)⟩)⟩)⟩)⟩)⟩)⟩)⟩)⟩)⟩)⟩), wx_5⟩)⟩)
theorem hm_wsX4_twin : ∀ w ∈ wsX4_twin, w ∈ lw_tbl := (List.forall_mem_cons.mpr ⟨mw_537, (List.forall_mem_append.mpr ⟨(List.forall_mem_append.mpr ⟨(List.forall_mem_cons.mpr ⟨mw_558, (List.forall_mem_cons.mpr ⟨mw_557, (List.forall_mem_cons.mpr ⟨mw_556, (List.forall_mem_cons.mpr ⟨mw_555, (List.forall_mem_cons.mpr ⟨mw_554, (List.forall_mem_cons.mpr ⟨mw_206, (List.forall_mem_cons.mpr ⟨mw_553, (List.forall_mem_cons.mpr ⟨mw_205, (List.forall_mem_cons.mpr ⟨mw_552, (List.forall_mem_cons.mpr ⟨mw_551, (List.forall_mem_cons.mpr ⟨mw_550, (List.forall_mem_cons.mpr ⟨mw_549, (List.forall_mem_cons.mpr ⟨mw_548, (List.forall_mem_cons.mpr ⟨mw_547, (List.forall_mem_cons.mpr ⟨mw_546, (List.forall_mem_cons.mpr ⟨mw_545, (List.forall_mem_cons.mpr ⟨mw_544, (List.forall_mem_cons.mpr ⟨mw_543, (List.forall_mem_cons.mpr ⟨mw_542, (List.forall_mem_cons.mpr ⟨mw_541, (List.forall_mem_cons.mpr ⟨mw_540, (List.forall_mem_cons.mpr ⟨mw_539, (List.forall_mem_cons.mpr ⟨mw_538, (fun _ h => nomatch h)⟩)⟩)⟩)⟩)⟩)⟩)⟩)⟩)⟩)⟩)⟩)⟩)⟩)⟩)⟩)⟩)⟩)⟩)⟩)⟩)⟩)⟩)⟩), wx_4⟩), wx_1⟩)⟩)
theorem hm_wsX5_twin : ∀ w ∈ wsX5_twin, w ∈ lw_tbl := (List.forall_mem_cons.mpr ⟨mw_562, (List.forall_mem_append.mpr ⟨(List.forall_mem_cons.mpr ⟨mw_213, (List.forall_mem_cons.mpr ⟨mw_533, (List.forall_mem_cons.mpr ⟨mw_528, (List.forall_mem_cons.mpr ⟨mw_527, (List.forall_mem_cons.mpr ⟨mw_526, (List.forall_mem_cons.mpr ⟨mw_525, (List.forall_mem_cons.mpr ⟨mw_566, (List.forall_mem_cons.mpr ⟨mw_565, (List.forall_mem_cons.mpr ⟨mw_564, (List.forall_mem_cons.mpr ⟨mw_215, (List.forall_mem_cons.mpr ⟨mw_563, (fun _ h => nomatch h)⟩)⟩)⟩)⟩)⟩)⟩)⟩)⟩)⟩)⟩)⟩), wx_5⟩)⟩)
theorem hm_wsX4_resend_r1 : ∀ w ∈ wsX4_resend_r1, w ∈ lw_tbl := (List.forall_mem_cons.mpr ⟨mw_18, (List.forall_mem_cons.mpr ⟨mw_100, (List.forall_mem_cons.mpr ⟨mw_11, (List.forall_mem_cons.mpr ⟨mw_78, (List.forall_mem_cons.mpr ⟨mw_273, (List.forall_mem_cons.mpr ⟨mw_272, (List.forall_mem_cons.mpr ⟨mw_271, (List.forall_mem_cons.mpr ⟨mw_70, (List.forall_mem_cons.mpr ⟨mw_270, (List.forall_mem_cons.mpr ⟨mw_16, (List.forall_mem_cons.mpr ⟨mw_269, (List.forall_mem_cons.mpr ⟨mw_268, (List.forall_mem_cons.mpr ⟨mw_267, (List.forall_mem_cons.mpr ⟨mw_266, (List.forall_mem_cons.mpr ⟨mw_265, (List.forall_mem_cons.mpr ⟨mw_68, (List.forall_mem_cons.mpr ⟨mw_52, (List.forall_mem_cons.mpr ⟨mw_51, (List.forall_mem_cons.mpr ⟨mw_50, (List.forall_mem_cons.mpr ⟨mw_19, (List.forall_mem_cons.mpr ⟨mw_49, (List.forall_mem_cons.mpr ⟨mw_63, (List.forall_mem_cons.mpr ⟨mw_432, (List.forall_mem_cons.mpr ⟨mw_431, (fun _ h => nomatch h)⟩)⟩)⟩)⟩)⟩)⟩)⟩)⟩)⟩)⟩)⟩)⟩)⟩)⟩)⟩)⟩)⟩)⟩)⟩)⟩)⟩)⟩)⟩)⟩)
theorem hm_wsX4_resend_r2 : ∀ w ∈ wsX4_resend_r2, w ∈ lw_tbl := (List.forall_mem_cons.mpr ⟨mw_430, (List.forall_mem_cons.mpr ⟨mw_429, (List.forall_mem_cons.mpr ⟨mw_12, (List.forall_mem_cons.mpr ⟨mw_412, (List.forall_mem_cons.mpr ⟨mw_411, (List.forall_mem_cons.mpr ⟨mw_410, (List.forall_mem_cons.mpr ⟨mw_13, (List.forall_mem_cons.mpr ⟨mw_409, (List.forall_mem_cons.mpr ⟨mw_408, (List.forall_mem_cons.mpr ⟨mw_43, (List.forall_mem_cons.mpr ⟨mw_42, (List.forall_mem_cons.mpr ⟨mw_428, (List.forall_mem_cons.mpr ⟨mw_427, (List.forall_mem_cons.mpr ⟨mw_426, (List.forall_mem_cons.mpr ⟨mw_425, (List.forall_mem_cons.mpr ⟨mw_44, (List.forall_mem_cons.mpr ⟨mw_41, (List.forall_mem_cons.mpr ⟨mw_40, (List.forall_mem_cons.mpr ⟨mw_424, (List.forall_mem_cons.mpr ⟨mw_435, (List.forall_mem_cons.mpr ⟨mw_434, (List.forall_mem_cons.mpr ⟨mw_433, (fun _ h => nomatch h)⟩)⟩)⟩)⟩)⟩)⟩)⟩)⟩)⟩)⟩)⟩)⟩)⟩)⟩)⟩)⟩)⟩)⟩)⟩)⟩)⟩)⟩)
theorem hm_wsX4_resend : ∀ w ∈ wsX4_resend, w ∈ lw_tbl := (List.forall_mem_cons.mpr ⟨mw_570, (List.forall_mem_append.mpr ⟨(List.forall_mem_append.mpr ⟨(List.forall_mem_append.mpr ⟨(List.forall_mem_append.mpr ⟨(List.forall_mem_append.mpr ⟨hm_wsX4_resend_r1, hm_wsX4_resend_r2⟩), wx_4⟩), wx_0⟩), wx_1⟩), wx_3⟩)⟩)
theorem hm_wsX5_resend_r1 : ∀ w ∈ wsX5_resend_r1, w ∈ lw_tbl := (List.forall_mem_cons.mpr ⟨mw_156, (List.forall_mem_cons.mpr ⟨mw_172, (List.forall_mem_cons.mpr ⟨mw_307, (List.forall_mem_cons.mpr ⟨mw_306, (List.forall_mem_cons.mpr ⟨mw_305, (List.forall_mem_cons.mpr ⟨mw_162, (List.forall_mem_cons.mpr ⟨mw_304, (List.forall_mem_cons.mpr ⟨mw_155, (List.forall_mem_cons.mpr ⟨mw_141, (List.forall_mem_cons.mpr ⟨mw_188, (List.forall_mem_cons.mpr ⟨mw_187, (List.forall_mem_cons.mpr ⟨mw_186, (List.forall_mem_cons.mpr ⟨mw_185, (List.forall_mem_cons.mpr ⟨mw_465, (List.forall_mem_cons.mpr ⟨mw_464, (List.forall_mem_cons.mpr ⟨mw_463, (List.forall_mem_cons.mpr ⟨mw_462, (List.forall_mem_cons.mpr ⟨mw_129, (List.forall_mem_cons.mpr ⟨mw_128, (List.forall_mem_cons.mpr ⟨mw_127, (List.forall_mem_cons.mpr ⟨mw_469, (List.forall_mem_cons.mpr ⟨mw_468, (List.forall_mem_cons.mpr ⟨mw_467, (List.forall_mem_cons.mpr ⟨mw_466, (fun _ h => nomatch h)⟩)⟩)⟩)⟩)⟩)⟩)⟩)⟩)⟩)⟩)⟩)⟩)⟩)⟩)⟩)⟩)⟩)⟩)⟩)⟩)⟩)⟩)⟩)⟩)
theorem hm_wsX5_resend_r2 : ∀ w ∈ wsX5_resend_r2, w ∈ lw_tbl := (List.forall_mem_cons.mpr ⟨mw_173, (List.forall_mem_cons.mpr ⟨mw_130, (List.forall_mem_cons.mpr ⟨mw_461, (List.forall_mem_cons.mpr ⟨mw_460, (List.forall_mem_cons.mpr ⟨mw_459, (List.forall_mem_cons.mpr ⟨mw_458, (List.forall_mem_cons.mpr ⟨mw_171, (List.forall_mem_cons.mpr ⟨mw_170, (List.forall_mem_cons.mpr ⟨mw_169, (List.forall_mem_cons.mpr ⟨mw_168, (fun _ h => nomatch h)⟩)⟩)⟩)⟩)⟩)⟩)⟩)⟩)⟩)⟩)
theorem hm_wsX5_resend : ∀ w ∈ wsX5_resend, w ∈ lw_tbl := (List.forall_mem_cons.mpr ⟨mw_574, (List.forall_mem_append.mpr ⟨(List.forall_mem_append.mpr ⟨hm_wsX5_resend_r1, hm_wsX5_resend_r2⟩), wx_5⟩)⟩)
theorem hm_wsX4_crash_r1 : ∀ w ∈ wsX4_crash_r1, w ∈ lw_tbl := (List.forall_mem_cons.mpr ⟨mw_16, (List.forall_mem_cons.mpr ⟨mw_278, (List.forall_mem_cons.mpr ⟨mw_269, (List.forall_mem_cons.mpr ⟨mw_273, (List.forall_mem_cons.mpr ⟨mw_272, (List.forall_mem_cons.mpr ⟨mw_271, (List.forall_mem_cons.mpr ⟨mw_70, (List.forall_mem_cons.mpr ⟨mw_270, (List.forall_mem_cons.mpr ⟨mw_268, (List.forall_mem_cons.mpr ⟨mw_267, (List.forall_mem_cons.mpr ⟨mw_266, (List.forall_mem_cons.mpr ⟨mw_265, (List.forall_mem_cons.mpr ⟨mw_68, (List.forall_mem_cons.mpr ⟨mw_18, (List.forall_mem_cons.mpr ⟨mw_52, (List.forall_mem_cons.mpr ⟨mw_51, (List.forall_mem_cons.mpr ⟨mw_50, (List.forall_mem_cons.mpr ⟨mw_19, (List.forall_mem_cons.mpr ⟨mw_49, (List.forall_mem_cons.mpr ⟨mw_63, (List.forall_mem_cons.mpr ⟨mw_581, (List.forall_mem_cons.mpr ⟨mw_580, (List.forall_mem_cons.mpr ⟨mw_579, (List.forall_mem_cons.mpr ⟨mw_5, (fun _ h => nomatch h)⟩)⟩)⟩)⟩)⟩)⟩)⟩)⟩)⟩)⟩)⟩)⟩)⟩)⟩)⟩)⟩)⟩)⟩)⟩)⟩)⟩)⟩)⟩)⟩)
theorem hm_wsX4_crash_r2 : ∀ w ∈ wsX4_crash_r2, w ∈ lw_tbl := (List.forall_mem_cons.mpr ⟨mw_582, (List.forall_mem_cons.mpr ⟨mw_113, (List.forall_mem_cons.mpr ⟨mw_110, (fun _ h => nomatch h)⟩)⟩)⟩)
theorem hm_wsX4_crash : ∀ w ∈ wsX4_crash, w ∈ lw_tbl := (List.forall_mem_cons.mpr ⟨mw_578, (List.forall_mem_append.mpr ⟨(List.forall_mem_append.mpr ⟨(List.forall_mem_append.mpr ⟨(List.forall_mem_append.mpr ⟨hm_wsX4_crash_r1, hm_wsX4_crash_r2⟩), wx_4⟩), wx_3⟩), wx_0⟩)⟩)
theorem hm_wsX5_crash : ∀ w ∈ wsX5_crash, w ∈ lw_tbl := (List.forall_mem_cons.mpr ⟨mw_586, (List.forall_mem_append.mpr ⟨(List.forall_mem_cons.mpr ⟨mw_591, (List.forall_mem_cons.mpr ⟨mw_590, (List.forall_mem_cons.mpr ⟨mw_589, (List.forall_mem_cons.mpr ⟨mw_588, (List.forall_mem_cons.mpr ⟨mw_215, (List.forall_mem_cons.mpr ⟨mw_587, (List.forall_mem_cons.mpr ⟨mw_213, (List.forall_mem_cons.mpr ⟨mw_247, (List.forall_mem_cons.mpr ⟨mw_246, (List.forall_mem_cons.mpr ⟨mw_245, (List.forall_mem_cons.mpr ⟨mw_244, (List.forall_mem_cons.mpr ⟨mw_214, (List.forall_mem_cons.mpr ⟨mw_390, (List.forall_mem_cons.mpr ⟨mw_389, (List.forall_mem_cons.mpr ⟨mw_388, (List.forall_mem_cons.mpr ⟨mw_387, (List.forall_mem_cons.mpr ⟨mw_391, (List.forall_mem_cons.mpr ⟨mw_392, (fun _ h => nomatch h)⟩)⟩)⟩)⟩)⟩)⟩)⟩)⟩)⟩)⟩)⟩)⟩)⟩)⟩)⟩)⟩)⟩)⟩), wx_5⟩)⟩)
theorem hm_wsX4_restart : ∀ w ∈ wsX4_restart, w ∈ lw_tbl := (List.forall_mem_cons.mpr ⟨mw_595, (List.forall_mem_append.mpr ⟨(List.forall_mem_append.mpr ⟨(List.forall_mem_append.mpr ⟨(List.forall_mem_cons.mpr ⟨mw_382, (List.forall_mem_cons.mpr ⟨mw_596, (List.forall_mem_cons.mpr ⟨mw_379, (List.forall_mem_cons.mpr ⟨mw_378, (List.forall_mem_cons.mpr ⟨mw_377, (List.forall_mem_cons.mpr ⟨mw_206, (List.forall_mem_cons.mpr ⟨mw_376, (List.forall_mem_cons.mpr ⟨mw_205, (List.forall_mem_cons.mpr ⟨mw_204, (List.forall_mem_cons.mpr ⟨mw_234, (List.forall_mem_cons.mpr ⟨mw_233, (List.forall_mem_cons.mpr ⟨mw_232, (List.forall_mem_cons.mpr ⟨mw_200, (List.forall_mem_cons.mpr ⟨mw_231, (List.forall_mem_cons.mpr ⟨mw_197, (fun _ h => nomatch h)⟩)⟩)⟩)⟩)⟩)⟩)⟩)⟩)⟩)⟩)⟩)⟩)⟩)⟩)⟩), wx_4⟩), wx_3⟩), wx_0⟩)⟩)
theorem hm_wsX5_restart : ∀ w ∈ wsX5_restart, w ∈ lw_tbl := (List.forall_mem_cons.mpr ⟨mw_600, (List.forall_mem_append.mpr ⟨(List.forall_mem_cons.mpr ⟨mw_213, (List.forall_mem_cons.mpr ⟨mw_591, (List.forall_mem_cons.mpr ⟨mw_247, (List.forall_mem_cons.mpr ⟨mw_246, (List.forall_mem_cons.mpr ⟨mw_245, (List.forall_mem_cons.mpr ⟨mw_215, (List.forall_mem_cons.mpr ⟨mw_244, (List.forall_mem_cons.mpr ⟨mw_214, (fun _ h => nomatch h)⟩)⟩)⟩)⟩)⟩)⟩)⟩)⟩), wx_5⟩)⟩)
theorem hm_wsX4_cut_r1 : ∀ w ∈ wsX4_cut_r1, w ∈ lw_tbl := (List.forall_mem_cons.mpr ⟨mw_18, (List.forall_mem_cons.mpr ⟨mw_12, (List.forall_mem_cons.mpr ⟨mw_11, (List.forall_mem_cons.mpr ⟨mw_16, (List.forall_mem_cons.mpr ⟨mw_277, (List.forall_mem_cons.mpr ⟨mw_268, (List.forall_mem_cons.mpr ⟨mw_267, (List.forall_mem_cons.mpr ⟨mw_266, (List.forall_mem_cons.mpr ⟨mw_70, (List.forall_mem_cons.mpr ⟨mw_265, (List.forall_mem_cons.mpr ⟨mw_68, (List.forall_mem_cons.mpr ⟨mw_52, (List.forall_mem_cons.mpr ⟨mw_51, (List.forall_mem_cons.mpr ⟨mw_50, (List.forall_mem_cons.mpr ⟨mw_19, (List.forall_mem_cons.mpr ⟨mw_49, (List.forall_mem_cons.mpr ⟨mw_63, (List.forall_mem_cons.mpr ⟨mw_124, (List.forall_mem_cons.mpr ⟨mw_123, (List.forall_mem_cons.mpr ⟨mw_122, (List.forall_mem_cons.mpr ⟨mw_121, (List.forall_mem_cons.mpr ⟨mw_1, (List.forall_mem_cons.mpr ⟨mw_92, (List.forall_mem_cons.mpr ⟨mw_91, (fun _ h => nomatch h)⟩)⟩)⟩)⟩)⟩)⟩)⟩)⟩)⟩)⟩)⟩)⟩)⟩)⟩)⟩)⟩)⟩)⟩)⟩)⟩)⟩)⟩)⟩)⟩)
theorem hm_wsX4_cut_r2 : ∀ w ∈ wsX4_cut_r2, w ∈ lw_tbl := (List.forall_mem_cons.mpr ⟨mw_614, (List.forall_mem_cons.mpr ⟨mw_613, (List.forall_mem_cons.mpr ⟨mw_612, (List.forall_mem_cons.mpr ⟨mw_13, (List.forall_mem_cons.mpr ⟨mw_611, (List.forall_mem_cons.mpr ⟨mw_610, (List.forall_mem_cons.mpr ⟨mw_411, (List.forall_mem_cons.mpr ⟨mw_410, (List.forall_mem_cons.mpr ⟨mw_409, (List.forall_mem_cons.mpr ⟨mw_408, (List.forall_mem_cons.mpr ⟨mw_43, (List.forall_mem_cons.mpr ⟨mw_42, (List.forall_mem_cons.mpr ⟨mw_609, (List.forall_mem_cons.mpr ⟨mw_286, (List.forall_mem_cons.mpr ⟨mw_285, (List.forall_mem_cons.mpr ⟨mw_33, (List.forall_mem_cons.mpr ⟨mw_284, (List.forall_mem_cons.mpr ⟨mw_283, (List.forall_mem_cons.mpr ⟨mw_27, (List.forall_mem_cons.mpr ⟨mw_608, (List.forall_mem_cons.mpr ⟨mw_607, (List.forall_mem_cons.mpr ⟨mw_606, (List.forall_mem_cons.mpr ⟨mw_605, (List.forall_mem_cons.mpr ⟨mw_62, (fun _ h => nomatch h)⟩)⟩)⟩)⟩)⟩)⟩)⟩)⟩)⟩)⟩)⟩)⟩)⟩)⟩)⟩)⟩)⟩)⟩)⟩)⟩)⟩)⟩)⟩)⟩)
theorem hm_wsX4_cut_r3 : ∀ w ∈ wsX4_cut_r3, w ∈ lw_tbl := (List.forall_mem_cons.mpr ⟨mw_618, (List.forall_mem_cons.mpr ⟨mw_617, (List.forall_mem_cons.mpr ⟨mw_616, (List.forall_mem_cons.mpr ⟨mw_5, (List.forall_mem_cons.mpr ⟨mw_615, (List.forall_mem_cons.mpr ⟨mw_116, (fun _ h => nomatch h)⟩)⟩)⟩)⟩)⟩)⟩)
theorem hm_wsX4_cut : ∀ w ∈ wsX4_cut, w ∈ lw_tbl := (List.forall_mem_cons.mpr ⟨mw_604, (List.forall_mem_append.mpr ⟨(List.forall_mem_append.mpr ⟨(List.forall_mem_append.mpr ⟨(List.forall_mem_append.mpr ⟨(List.forall_mem_append.mpr ⟨(List.forall_mem_append.mpr ⟨hm_wsX4_cut_r1, (List.forall_mem_append.mpr ⟨hm_wsX4_cut_r2, hm_wsX4_cut_r3⟩)⟩), wx_4⟩), wx_3⟩), wx_0⟩), wx_1⟩), wx_2⟩)⟩)
theorem hm_wsX5_cut_r1 : ∀ w ∈ wsX5_cut_r1, w ∈ lw_tbl := (List.forall_mem_cons.mpr ⟨mw_155, (List.forall_mem_cons.mpr ⟨mw_145, (List.forall_mem_cons.mpr ⟨mw_172, (List.forall_mem_cons.mpr ⟨mw_171, (List.forall_mem_cons.mpr ⟨mw_144, (List.forall_mem_cons.mpr ⟨mw_188, (List.forall_mem_cons.mpr ⟨mw_187, (List.forall_mem_cons.mpr ⟨mw_186, (List.forall_mem_cons.mpr ⟨mw_162, (List.forall_mem_cons.mpr ⟨mw_185, (List.forall_mem_cons.mpr ⟨mw_156, (List.forall_mem_cons.mpr ⟨mw_469, (List.forall_mem_cons.mpr ⟨mw_468, (List.forall_mem_cons.mpr ⟨mw_467, (List.forall_mem_cons.mpr ⟨mw_466, (List.forall_mem_cons.mpr ⟨mw_173, (List.forall_mem_cons.mpr ⟨mw_130, (List.forall_mem_cons.mpr ⟨mw_303, (List.forall_mem_cons.mpr ⟨mw_302, (List.forall_mem_cons.mpr ⟨mw_301, (List.forall_mem_cons.mpr ⟨mw_300, (List.forall_mem_cons.mpr ⟨mw_135, (List.forall_mem_cons.mpr ⟨mw_134, (List.forall_mem_cons.mpr ⟨mw_299, (fun _ h => nomatch h)⟩)⟩)⟩)⟩)⟩)⟩)⟩)⟩)⟩)⟩)⟩)⟩)⟩)⟩)⟩)⟩)⟩)⟩)⟩)⟩)⟩)⟩)⟩)⟩)
theorem hm_wsX5_cut_r2 : ∀ w ∈ wsX5_cut_r2, w ∈ lw_tbl := (List.forall_mem_cons.mpr ⟨mw_298, (List.forall_mem_cons.mpr ⟨mw_297, (List.forall_mem_cons.mpr ⟨mw_296, (List.forall_mem_cons.mpr ⟨mw_184, (List.forall_mem_cons.mpr ⟨mw_183, (List.forall_mem_cons.mpr ⟨mw_182, (List.forall_mem_cons.mpr ⟨mw_181, (List.forall_mem_cons.mpr ⟨mw_154, (fun _ h => nomatch h)⟩)⟩)⟩)⟩)⟩)⟩)⟩)⟩)
theorem hm_wsX5_cut : ∀ w ∈ wsX5_cut, w ∈ lw_tbl := (List.forall_mem_cons.mpr ⟨mw_622, (List.forall_mem_append.mpr ⟨(List.forall_mem_append.mpr ⟨hm_wsX5_cut_r1, hm_wsX5_cut_r2⟩), wx_5⟩)⟩)
theorem hm_wsX4_join_r1 : ∀ w ∈ wsX4_join_r1, w ∈ lw_tbl := (List.forall_mem_cons.mpr ⟨mw_18, (List.forall_mem_cons.mpr ⟨mw_268, (List.forall_mem_cons.mpr ⟨mw_267, (List.forall_mem_cons.mpr ⟨mw_266, (List.forall_mem_cons.mpr ⟨mw_70, (List.forall_mem_cons.mpr ⟨mw_265, (List.forall_mem_cons.mpr ⟨mw_68, (List.forall_mem_cons.mpr ⟨mw_52, (List.forall_mem_cons.mpr ⟨mw_51, (List.forall_mem_cons.mpr ⟨mw_50, (List.forall_mem_cons.mpr ⟨mw_19, (List.forall_mem_cons.mpr ⟨mw_49, (List.forall_mem_cons.mpr ⟨mw_63, (List.forall_mem_cons.mpr ⟨mw_96, (List.forall_mem_cons.mpr ⟨mw_95, (List.forall_mem_cons.mpr ⟨mw_94, (List.forall_mem_cons.mpr ⟨mw_93, (List.forall_mem_cons.mpr ⟨mw_1, (List.forall_mem_cons.mpr ⟨mw_92, (List.forall_mem_cons.mpr ⟨mw_91, (List.forall_mem_cons.mpr ⟨mw_630, (List.forall_mem_cons.mpr ⟨mw_629, (List.forall_mem_cons.mpr ⟨mw_628, (List.forall_mem_cons.mpr ⟨mw_627, (fun _ h => nomatch h)⟩)⟩)⟩)⟩)⟩)⟩)⟩)⟩)⟩)⟩)⟩)⟩)⟩)⟩)⟩)⟩)⟩)⟩)⟩)⟩)⟩)⟩)⟩)⟩)
theorem hm_wsX4_join_r2 : ∀ w ∈ wsX4_join_r2, w ∈ lw_tbl := (List.forall_mem_cons.mpr ⟨mw_12, (List.forall_mem_cons.mpr ⟨mw_78, (List.forall_mem_cons.mpr ⟨mw_486, (List.forall_mem_cons.mpr ⟨mw_487, (List.forall_mem_cons.mpr ⟨mw_484, (List.forall_mem_cons.mpr ⟨mw_7, (List.forall_mem_cons.mpr ⟨mw_485, (List.forall_mem_cons.mpr ⟨mw_637, (List.forall_mem_cons.mpr ⟨mw_636, (List.forall_mem_cons.mpr ⟨mw_635, (List.forall_mem_cons.mpr ⟨mw_634, (List.forall_mem_cons.mpr ⟨mw_100, (List.forall_mem_cons.mpr ⟨mw_16, (List.forall_mem_cons.mpr ⟨mw_344, (List.forall_mem_cons.mpr ⟨mw_343, (List.forall_mem_cons.mpr ⟨mw_342, (List.forall_mem_cons.mpr ⟨mw_5, (List.forall_mem_cons.mpr ⟨mw_341, (List.forall_mem_cons.mpr ⟨mw_116, (List.forall_mem_cons.mpr ⟨mw_31, (List.forall_mem_cons.mpr ⟨mw_90, (List.forall_mem_cons.mpr ⟨mw_633, (List.forall_mem_cons.mpr ⟨mw_632, (List.forall_mem_cons.mpr ⟨mw_631, (fun _ h => nomatch h)⟩)⟩)⟩)⟩)⟩)⟩)⟩)⟩)⟩)⟩)⟩)⟩)⟩)⟩)⟩)⟩)⟩)⟩)⟩)⟩)⟩)⟩)⟩)⟩)
theorem hm_wsX4_join_r3 : ∀ w ∈ wsX4_join_r3, w ∈ lw_tbl := (List.forall_mem_cons.mpr ⟨mw_646, (List.forall_mem_cons.mpr ⟨mw_8, (List.forall_mem_cons.mpr ⟨mw_645, (List.forall_mem_cons.mpr ⟨mw_644, (List.forall_mem_cons.mpr ⟨mw_643, (List.forall_mem_cons.mpr ⟨mw_642, (List.forall_mem_cons.mpr ⟨mw_398, (List.forall_mem_cons.mpr ⟨mw_101, (List.forall_mem_cons.mpr ⟨mw_440, (List.forall_mem_cons.mpr ⟨mw_439, (List.forall_mem_cons.mpr ⟨mw_438, (List.forall_mem_cons.mpr ⟨mw_437, (List.forall_mem_cons.mpr ⟨mw_641, (List.forall_mem_cons.mpr ⟨mw_640, (List.forall_mem_cons.mpr ⟨mw_639, (List.forall_mem_cons.mpr ⟨mw_638, (List.forall_mem_cons.mpr ⟨mw_89, (List.forall_mem_cons.mpr ⟨mw_88, (List.forall_mem_cons.mpr ⟨mw_87, (List.forall_mem_cons.mpr ⟨mw_86, (List.forall_mem_cons.mpr ⟨mw_62, (fun _ h => nomatch h)⟩)⟩)⟩)⟩)⟩)⟩)⟩)⟩)⟩)⟩)⟩)⟩)⟩)⟩)⟩)⟩)⟩)⟩)⟩)⟩)⟩)
theorem hm_wsX4_join : ∀ w ∈ wsX4_join, w ∈ lw_tbl := (List.forall_mem_cons.mpr ⟨mw_626, (List.forall_mem_append.mpr ⟨(List.forall_mem_append.mpr ⟨(List.forall_mem_append.mpr ⟨(List.forall_mem_append.mpr ⟨(List.forall_mem_append.mpr ⟨hm_wsX4_join_r1, (List.forall_mem_append.mpr ⟨hm_wsX4_join_r2, hm_wsX4_join_r3⟩)⟩), wx_4⟩), wx_0⟩), wx_1⟩), wx_3⟩)⟩)
theorem hm_wsX5_join_r1 : ∀ w ∈ wsX5_join_r1, w ∈ lw_tbl := (List.forall_mem_cons.mpr ⟨mw_155, (List.forall_mem_cons.mpr ⟨mw_167, (List.forall_mem_cons.mpr ⟨mw_166, (List.forall_mem_cons.mpr ⟨mw_144, (List.forall_mem_cons.mpr ⟨mw_143, (List.forall_mem_cons.mpr ⟨mw_132, (List.forall_mem_cons.mpr ⟨mw_131, (List.forall_mem_cons.mpr ⟨mw_149, (List.forall_mem_cons.mpr ⟨mw_148, (List.forall_mem_cons.mpr ⟨mw_190, (List.forall_mem_cons.mpr ⟨mw_162, (List.forall_mem_cons.mpr ⟨mw_189, (List.forall_mem_cons.mpr ⟨mw_156, (List.forall_mem_cons.mpr ⟨mw_145, (List.forall_mem_cons.mpr ⟨mw_188, (List.forall_mem_cons.mpr ⟨mw_187, (List.forall_mem_cons.mpr ⟨mw_186, (List.forall_mem_cons.mpr ⟨mw_185, (List.forall_mem_cons.mpr ⟨mw_654, (List.forall_mem_cons.mpr ⟨mw_653, (List.forall_mem_cons.mpr ⟨mw_652, (List.forall_mem_cons.mpr ⟨mw_651, (List.forall_mem_cons.mpr ⟨mw_173, (List.forall_mem_cons.mpr ⟨mw_129, (fun _ h => nomatch h)⟩)⟩)⟩)⟩)⟩)⟩)⟩)⟩)⟩)⟩)⟩)⟩)⟩)⟩)⟩)⟩)⟩)⟩)⟩)⟩)⟩)⟩)⟩)⟩)
theorem hm_wsX5_join_r2 : ∀ w ∈ wsX5_join_r2, w ∈ lw_tbl := (List.forall_mem_cons.mpr ⟨mw_127, (List.forall_mem_cons.mpr ⟨mw_130, (List.forall_mem_cons.mpr ⟨mw_184, (List.forall_mem_cons.mpr ⟨mw_183, (List.forall_mem_cons.mpr ⟨mw_182, (List.forall_mem_cons.mpr ⟨mw_181, (List.forall_mem_cons.mpr ⟨mw_154, (fun _ h => nomatch h)⟩)⟩)⟩)⟩)⟩)⟩)⟩)
theorem hm_wsX5_join : ∀ w ∈ wsX5_join, w ∈ lw_tbl := (List.forall_mem_cons.mpr ⟨mw_650, (List.forall_mem_append.mpr ⟨(List.forall_mem_append.mpr ⟨hm_wsX5_join_r1, hm_wsX5_join_r2⟩), wx_5⟩)⟩)
theorem hm_wsX4_holder : ∀ w ∈ wsX4_holder, w ∈ lw_tbl := (List.forall_mem_cons.mpr ⟨mw_658, (List.forall_mem_append.mpr ⟨(List.forall_mem_append.mpr ⟨(List.forall_mem_append.mpr ⟨(List.forall_mem_cons.mpr ⟨mw_205, (List.forall_mem_cons.mpr ⟨mw_669, (List.forall_mem_cons.mpr ⟨mw_668, (List.forall_mem_cons.mpr ⟨mw_667, (List.forall_mem_cons.mpr ⟨mw_206, (List.forall_mem_cons.mpr ⟨mw_666, (List.forall_mem_cons.mpr ⟨mw_204, (List.forall_mem_cons.mpr ⟨mw_665, (List.forall_mem_cons.mpr ⟨mw_382, (List.forall_mem_cons.mpr ⟨mw_664, (List.forall_mem_cons.mpr ⟨mw_663, (List.forall_mem_cons.mpr ⟨mw_662, (List.forall_mem_cons.mpr ⟨mw_372, (List.forall_mem_cons.mpr ⟨mw_661, (List.forall_mem_cons.mpr ⟨mw_660, (List.forall_mem_cons.mpr ⟨mw_659, (fun _ h => nomatch h)⟩)⟩)⟩)⟩)⟩)⟩)⟩)⟩)⟩)⟩)⟩)⟩)⟩)⟩)⟩)⟩), wx_4⟩), wx_0⟩), wx_3⟩)⟩)
theorem hm_wsX5_holder : ∀ w ∈ wsX5_holder, w ∈ lw_tbl := (List.forall_mem_cons.mpr ⟨mw_673, (List.forall_mem_append.mpr ⟨(List.forall_mem_cons.mpr ⟨mw_213, (List.forall_mem_cons.mpr ⟨mw_214, (List.forall_mem_cons.mpr ⟨mw_674, (fun _ h => nomatch h)⟩)⟩)⟩), wx_5⟩)⟩)
theorem hm_wsX4_pointer : ∀ w ∈ wsX4_pointer, w ∈ lw_tbl := (List.forall_mem_cons.mpr ⟨mw_678, (List.forall_mem_append.mpr ⟨(List.forall_mem_append.mpr ⟨(List.forall_mem_append.mpr ⟨(List.forall_mem_cons.mpr ⟨mw_382, (List.forall_mem_cons.mpr ⟨mw_679, (List.forall_mem_cons.mpr ⟨mw_379, (List.forall_mem_cons.mpr ⟨mw_378, (List.forall_mem_cons.mpr ⟨mw_377, (List.forall_mem_cons.mpr ⟨mw_206, (List.forall_mem_cons.mpr ⟨mw_376, (List.forall_mem_cons.mpr ⟨mw_205, (List.forall_mem_cons.mpr ⟨mw_204, (List.forall_mem_cons.mpr ⟨mw_234, (List.forall_mem_cons.mpr ⟨mw_233, (List.forall_mem_cons.mpr ⟨mw_232, (List.forall_mem_cons.mpr ⟨mw_200, (List.forall_mem_cons.mpr ⟨mw_231, (List.forall_mem_cons.mpr ⟨mw_197, (fun _ h => nomatch h)⟩)⟩)⟩)⟩)⟩)⟩)⟩)⟩)⟩)⟩)⟩)⟩)⟩)⟩)⟩), wx_4⟩), wx_3⟩), wx_0⟩)⟩)
theorem hm_wsX5_pointer : ∀ w ∈ wsX5_pointer, w ∈ lw_tbl := (List.forall_mem_cons.mpr ⟨mw_683, (List.forall_mem_append.mpr ⟨(List.forall_mem_cons.mpr ⟨mw_213, (List.forall_mem_cons.mpr ⟨mw_674, (List.forall_mem_cons.mpr ⟨mw_247, (List.forall_mem_cons.mpr ⟨mw_246, (List.forall_mem_cons.mpr ⟨mw_245, (List.forall_mem_cons.mpr ⟨mw_215, (List.forall_mem_cons.mpr ⟨mw_244, (List.forall_mem_cons.mpr ⟨mw_214, (fun _ h => nomatch h)⟩)⟩)⟩)⟩)⟩)⟩)⟩)⟩), wx_5⟩)⟩)
theorem hm_wsX4_queue : ∀ w ∈ wsX4_queue, w ∈ lw_tbl := (List.forall_mem_cons.mpr ⟨mw_687, (List.forall_mem_append.mpr ⟨(List.forall_mem_append.mpr ⟨(List.forall_mem_append.mpr ⟨(List.forall_mem_append.mpr ⟨(List.forall_mem_cons.mpr ⟨mw_382, (List.forall_mem_cons.mpr ⟨mw_691, (List.forall_mem_cons.mpr ⟨mw_690, (List.forall_mem_cons.mpr ⟨mw_689, (List.forall_mem_cons.mpr ⟨mw_688, (List.forall_mem_cons.mpr ⟨mw_379, (List.forall_mem_cons.mpr ⟨mw_378, (List.forall_mem_cons.mpr ⟨mw_377, (List.forall_mem_cons.mpr ⟨mw_206, (List.forall_mem_cons.mpr ⟨mw_376, (List.forall_mem_cons.mpr ⟨mw_205, (List.forall_mem_cons.mpr ⟨mw_204, (List.forall_mem_cons.mpr ⟨mw_234, (List.forall_mem_cons.mpr ⟨mw_233, (List.forall_mem_cons.mpr ⟨mw_232, (List.forall_mem_cons.mpr ⟨mw_200, (List.forall_mem_cons.mpr ⟨mw_231, (List.forall_mem_cons.mpr ⟨mw_197, (fun _ h => nomatch h)⟩)⟩)⟩)⟩)⟩)⟩)⟩)⟩)⟩)⟩)⟩)⟩)⟩)⟩)⟩)⟩)⟩)⟩), wx_4⟩), wx_3⟩), wx_2⟩), wx_0⟩)⟩)
theorem hm_wsX5_queue : ∀ w ∈ wsX5_queue, w ∈ lw_tbl := (List.forall_mem_cons.mpr ⟨mw_695, (List.forall_mem_append.mpr ⟨(List.forall_mem_cons.mpr ⟨mw_213, (List.forall_mem_cons.mpr ⟨mw_702, (List.forall_mem_cons.mpr ⟨mw_701, (List.forall_mem_cons.mpr ⟨mw_700, (List.forall_mem_cons.mpr ⟨mw_247, (List.forall_mem_cons.mpr ⟨mw_246, (List.forall_mem_cons.mpr ⟨mw_245, (List.forall_mem_cons.mpr ⟨mw_215, (List.forall_mem_cons.mpr ⟨mw_244, (List.forall_mem_cons.mpr ⟨mw_214, (List.forall_mem_cons.mpr ⟨mw_699, (List.forall_mem_cons.mpr ⟨mw_698, (List.forall_mem_cons.mpr ⟨mw_697, (List.forall_mem_cons.mpr ⟨mw_696, (fun _ h => nomatch h)⟩)⟩)⟩)⟩)⟩)⟩)⟩)⟩)⟩)⟩)⟩)⟩)⟩)⟩), wx_5⟩)⟩)
theorem hm_wsX4_letter : ∀ w ∈ wsX4_letter, w ∈ lw_tbl := (List.forall_mem_cons.mpr ⟨mw_706, (List.forall_mem_append.mpr ⟨(List.forall_mem_append.mpr ⟨(List.forall_mem_cons.mpr ⟨mw_558, (List.forall_mem_cons.mpr ⟨mw_711, (List.forall_mem_cons.mpr ⟨mw_710, (List.forall_mem_cons.mpr ⟨mw_709, (List.forall_mem_cons.mpr ⟨mw_708, (List.forall_mem_cons.mpr ⟨mw_707, (List.forall_mem_cons.mpr ⟨mw_556, (List.forall_mem_cons.mpr ⟨mw_555, (List.forall_mem_cons.mpr ⟨mw_554, (List.forall_mem_cons.mpr ⟨mw_206, (List.forall_mem_cons.mpr ⟨mw_553, (List.forall_mem_cons.mpr ⟨mw_205, (List.forall_mem_cons.mpr ⟨mw_557, (fun _ h => nomatch h)⟩)⟩)⟩)⟩)⟩)⟩)⟩)⟩)⟩)⟩)⟩)⟩)⟩), wx_4⟩), wx_1⟩)⟩)
theorem hm_wsX5_letter : ∀ w ∈ wsX5_letter, w ∈ lw_tbl := (List.forall_mem_cons.mpr ⟨mw_715, (List.forall_mem_append.mpr ⟨(List.forall_mem_cons.mpr ⟨mw_213, (List.forall_mem_cons.mpr ⟨mw_533, (List.forall_mem_cons.mpr ⟨mw_527, (List.forall_mem_cons.mpr ⟨mw_528, (List.forall_mem_cons.mpr ⟨mw_525, (List.forall_mem_cons.mpr ⟨mw_526, (fun _ h => nomatch h)⟩)⟩)⟩)⟩)⟩)⟩), wx_5⟩)⟩)
theorem hm_wsX4_told_r1 : ∀ w ∈ wsX4_told_r1, w ∈ lw_tbl := (List.forall_mem_cons.mpr ⟨mw_16, (List.forall_mem_cons.mpr ⟨mw_398, (List.forall_mem_cons.mpr ⟨mw_278, (List.forall_mem_cons.mpr ⟨mw_269, (List.forall_mem_cons.mpr ⟨mw_277, (List.forall_mem_cons.mpr ⟨mw_274, (List.forall_mem_cons.mpr ⟨mw_316, (List.forall_mem_cons.mpr ⟨mw_720, (List.forall_mem_cons.mpr ⟨mw_275, (List.forall_mem_cons.mpr ⟨mw_317, (List.forall_mem_cons.mpr ⟨mw_12, (List.forall_mem_cons.mpr ⟨mw_18, (List.forall_mem_cons.mpr ⟨mw_268, (List.forall_mem_cons.mpr ⟨mw_267, (List.forall_mem_cons.mpr ⟨mw_266, (List.forall_mem_cons.mpr ⟨mw_70, (List.forall_mem_cons.mpr ⟨mw_265, (List.forall_mem_cons.mpr ⟨mw_68, (List.forall_mem_cons.mpr ⟨mw_52, (List.forall_mem_cons.mpr ⟨mw_51, (List.forall_mem_cons.mpr ⟨mw_50, (List.forall_mem_cons.mpr ⟨mw_19, (List.forall_mem_cons.mpr ⟨mw_49, (List.forall_mem_cons.mpr ⟨mw_63, (fun _ h => nomatch h)⟩)⟩)⟩)⟩)⟩)⟩)⟩)⟩)⟩)⟩)⟩)⟩)⟩)⟩)⟩)⟩)⟩)⟩)⟩)⟩)⟩)⟩)⟩)⟩)
theorem hm_wsX4_told_r2 : ∀ w ∈ wsX4_told_r2, w ∈ lw_tbl := (List.forall_mem_cons.mpr ⟨mw_735, (List.forall_mem_cons.mpr ⟨mw_734, (List.forall_mem_cons.mpr ⟨mw_733, (List.forall_mem_cons.mpr ⟨mw_13, (List.forall_mem_cons.mpr ⟨mw_732, (List.forall_mem_cons.mpr ⟨mw_408, (List.forall_mem_cons.mpr ⟨mw_43, (List.forall_mem_cons.mpr ⟨mw_731, (List.forall_mem_cons.mpr ⟨mw_730, (List.forall_mem_cons.mpr ⟨mw_729, (List.forall_mem_cons.mpr ⟨mw_728, (List.forall_mem_cons.mpr ⟨mw_1, (List.forall_mem_cons.mpr ⟨mw_727, (List.forall_mem_cons.mpr ⟨mw_726, (List.forall_mem_cons.mpr ⟨mw_725, (List.forall_mem_cons.mpr ⟨mw_724, (List.forall_mem_cons.mpr ⟨mw_723, (List.forall_mem_cons.mpr ⟨mw_722, (List.forall_mem_cons.mpr ⟨mw_721, (fun _ h => nomatch h)⟩)⟩)⟩)⟩)⟩)⟩)⟩)⟩)⟩)⟩)⟩)⟩)⟩)⟩)⟩)⟩)⟩)⟩)⟩)
theorem hm_wsX4_told : ∀ w ∈ wsX4_told, w ∈ lw_tbl := (List.forall_mem_cons.mpr ⟨mw_719, (List.forall_mem_append.mpr ⟨(List.forall_mem_append.mpr ⟨(List.forall_mem_append.mpr ⟨(List.forall_mem_append.mpr ⟨(List.forall_mem_append.mpr ⟨(List.forall_mem_append.mpr ⟨hm_wsX4_told_r1, hm_wsX4_told_r2⟩), wx_4⟩), wx_3⟩), wx_2⟩), wx_0⟩), wx_1⟩)⟩)
theorem hm_wsX5_told : ∀ w ∈ wsX5_told, w ∈ lw_tbl := (List.forall_mem_cons.mpr ⟨mw_739, (List.forall_mem_append.mpr ⟨(List.forall_mem_cons.mpr ⟨mw_213, (List.forall_mem_cons.mpr ⟨mw_745, (List.forall_mem_cons.mpr ⟨mw_392, (List.forall_mem_cons.mpr ⟨mw_591, (List.forall_mem_cons.mpr ⟨mw_702, (List.forall_mem_cons.mpr ⟨mw_744, (List.forall_mem_cons.mpr ⟨mw_391, (List.forall_mem_cons.mpr ⟨mw_743, (List.forall_mem_cons.mpr ⟨mw_742, (List.forall_mem_cons.mpr ⟨mw_741, (List.forall_mem_cons.mpr ⟨mw_740, (List.forall_mem_cons.mpr ⟨mw_214, (List.forall_mem_cons.mpr ⟨mw_211, (List.forall_mem_cons.mpr ⟨mw_247, (List.forall_mem_cons.mpr ⟨mw_246, (List.forall_mem_cons.mpr ⟨mw_245, (List.forall_mem_cons.mpr ⟨mw_215, (List.forall_mem_cons.mpr ⟨mw_244, (fun _ h => nomatch h)⟩)⟩)⟩)⟩)⟩)⟩)⟩)⟩)⟩)⟩)⟩)⟩)⟩)⟩)⟩)⟩)⟩)⟩), wx_5⟩)⟩)
theorem hm_wsX4_count_r1 : ∀ w ∈ wsX4_count_r1, w ∈ lw_tbl := (List.forall_mem_cons.mpr ⟨mw_18, (List.forall_mem_cons.mpr ⟨mw_100, (List.forall_mem_cons.mpr ⟨mw_53, (List.forall_mem_cons.mpr ⟨mw_68, (List.forall_mem_cons.mpr ⟨mw_11, (List.forall_mem_cons.mpr ⟨mw_78, (List.forall_mem_cons.mpr ⟨mw_79, (List.forall_mem_cons.mpr ⟨mw_753, (List.forall_mem_cons.mpr ⟨mw_752, (List.forall_mem_cons.mpr ⟨mw_751, (List.forall_mem_cons.mpr ⟨mw_70, (List.forall_mem_cons.mpr ⟨mw_750, (List.forall_mem_cons.mpr ⟨mw_16, (List.forall_mem_cons.mpr ⟨mw_278, (List.forall_mem_cons.mpr ⟨mw_630, (List.forall_mem_cons.mpr ⟨mw_629, (List.forall_mem_cons.mpr ⟨mw_628, (List.forall_mem_cons.mpr ⟨mw_627, (List.forall_mem_cons.mpr ⟨mw_12, (List.forall_mem_cons.mpr ⟨mw_486, (List.forall_mem_cons.mpr ⟨mw_487, (List.forall_mem_cons.mpr ⟨mw_484, (List.forall_mem_cons.mpr ⟨mw_7, (List.forall_mem_cons.mpr ⟨mw_485, (fun _ h => nomatch h)⟩)⟩)⟩)⟩)⟩)⟩)⟩)⟩)⟩)⟩)⟩)⟩)⟩)⟩)⟩)⟩)⟩)⟩)⟩)⟩)⟩)⟩)⟩)⟩)
theorem hm_wsX4_count_r2 : ∀ w ∈ wsX4_count_r2, w ∈ lw_tbl := (List.forall_mem_cons.mpr ⟨mw_637, (List.forall_mem_cons.mpr ⟨mw_636, (List.forall_mem_cons.mpr ⟨mw_635, (List.forall_mem_cons.mpr ⟨mw_634, (List.forall_mem_cons.mpr ⟨mw_344, (List.forall_mem_cons.mpr ⟨mw_343, (List.forall_mem_cons.mpr ⟨mw_342, (List.forall_mem_cons.mpr ⟨mw_5, (List.forall_mem_cons.mpr ⟨mw_341, (List.forall_mem_cons.mpr ⟨mw_116, (List.forall_mem_cons.mpr ⟨mw_31, (List.forall_mem_cons.mpr ⟨mw_77, (List.forall_mem_cons.mpr ⟨mw_76, (List.forall_mem_cons.mpr ⟨mw_75, (List.forall_mem_cons.mpr ⟨mw_19, (List.forall_mem_cons.mpr ⟨mw_74, (List.forall_mem_cons.mpr ⟨mw_63, (List.forall_mem_cons.mpr ⟨mw_62, (fun _ h => nomatch h)⟩)⟩)⟩)⟩)⟩)⟩)⟩)⟩)⟩)⟩)⟩)⟩)⟩)⟩)⟩)⟩)⟩)⟩)
theorem hm_wsX4_count : ∀ w ∈ wsX4_count, w ∈ lw_tbl := (List.forall_mem_cons.mpr ⟨mw_749, (List.forall_mem_append.mpr ⟨(List.forall_mem_append.mpr ⟨(List.forall_mem_append.mpr ⟨(List.forall_mem_append.mpr ⟨(List.forall_mem_append.mpr ⟨hm_wsX4_count_r1, hm_wsX4_count_r2⟩), wx_4⟩), wx_0⟩), wx_1⟩), wx_3⟩)⟩)
theorem hm_wsX5_count : ∀ w ∈ wsX5_count, w ∈ lw_tbl := (List.forall_mem_cons.mpr ⟨mw_757, (List.forall_mem_append.mpr ⟨(List.forall_mem_cons.mpr ⟨mw_214, (List.forall_mem_cons.mpr ⟨mw_212, (List.forall_mem_cons.mpr ⟨mw_213, (List.forall_mem_cons.mpr ⟨mw_392, (List.forall_mem_cons.mpr ⟨mw_533, (List.forall_mem_cons.mpr ⟨mw_765, (List.forall_mem_cons.mpr ⟨mw_251, (List.forall_mem_cons.mpr ⟨mw_250, (List.forall_mem_cons.mpr ⟨mw_249, (List.forall_mem_cons.mpr ⟨mw_215, (List.forall_mem_cons.mpr ⟨mw_248, (List.forall_mem_cons.mpr ⟨mw_252, (List.forall_mem_cons.mpr ⟨mw_211, (List.forall_mem_cons.mpr ⟨mw_764, (List.forall_mem_cons.mpr ⟨mw_763, (List.forall_mem_cons.mpr ⟨mw_762, (List.forall_mem_cons.mpr ⟨mw_761, (List.forall_mem_cons.mpr ⟨mw_674, (List.forall_mem_cons.mpr ⟨mw_741, (List.forall_mem_cons.mpr ⟨mw_760, (List.forall_mem_cons.mpr ⟨mw_759, (List.forall_mem_cons.mpr ⟨mw_758, (List.forall_mem_cons.mpr ⟨mw_740, (fun _ h => nomatch h)⟩)⟩)⟩)⟩)⟩)⟩)⟩)⟩)⟩)⟩)⟩)⟩)⟩)⟩)⟩)⟩)⟩)⟩)⟩)⟩)⟩)⟩)⟩), wx_5⟩)⟩)
theorem gL_law_X4_init : GoodIn lw_tbl (wsX4_init) := goodIn_sub hm_wsX4_init (by decide +kernel)
theorem gL_law_X5_init : GoodIn lw_tbl (wsX5_init) := goodIn_sub hm_wsX5_init (by decide +kernel)
theorem gL_law_X4_canal : GoodIn lw_tbl (wsV RL 13 RX4 yX4_canal wsX4_canal) := goodIn_sub (List.forall_mem_append.mpr ⟨(List.forall_mem_cons.mpr ⟨mw_209, (List.forall_mem_cons.mpr ⟨mw_208, (List.forall_mem_cons.mpr ⟨mw_207, (List.forall_mem_cons.mpr ⟨mw_206, (fun _ h => nomatch h)⟩)⟩)⟩)⟩), hm_wsX4_canal⟩) (by decide +kernel)
theorem gL_law_X5_canal : GoodIn lw_tbl (wsV RL 17 RX5 yX5_canal wsX5_canal) := goodIn_sub (List.forall_mem_append.mpr ⟨(List.forall_mem_cons.mpr ⟨mw_218, (List.forall_mem_cons.mpr ⟨mw_217, (List.forall_mem_cons.mpr ⟨mw_216, (List.forall_mem_cons.mpr ⟨mw_215, (fun _ h => nomatch h)⟩)⟩)⟩)⟩), hm_wsX5_canal⟩) (by decide +kernel)
theorem gL_law_X4_link : GoodIn lw_tbl (wsV RL 18 RX4 yX4_link wsX4_link) := goodIn_sub (List.forall_mem_append.mpr ⟨(List.forall_mem_cons.mpr ⟨mw_238, (List.forall_mem_cons.mpr ⟨mw_237, (List.forall_mem_cons.mpr ⟨mw_236, (List.forall_mem_cons.mpr ⟨mw_206, (fun _ h => nomatch h)⟩)⟩)⟩)⟩), hm_wsX4_link⟩) (by decide +kernel)
theorem gL_law_X5_link : GoodIn lw_tbl (wsV RL 22 RX5 yX5_link wsX5_link) := goodIn_sub (List.forall_mem_append.mpr ⟨(List.forall_mem_cons.mpr ⟨mw_255, (List.forall_mem_cons.mpr ⟨mw_254, (List.forall_mem_cons.mpr ⟨mw_253, (List.forall_mem_cons.mpr ⟨mw_215, (fun _ h => nomatch h)⟩)⟩)⟩)⟩), hm_wsX5_link⟩) (by decide +kernel)
theorem gL_law_X4_open : GoodIn lw_tbl (wsV RL 23 RX4 yX4_open wsX4_open) := goodIn_sub (List.forall_mem_append.mpr ⟨(List.forall_mem_cons.mpr ⟨mw_259, (List.forall_mem_cons.mpr ⟨mw_258, (List.forall_mem_cons.mpr ⟨mw_257, (List.forall_mem_cons.mpr ⟨mw_206, (fun _ h => nomatch h)⟩)⟩)⟩)⟩), hm_wsX4_open⟩) (by decide +kernel)
theorem gL_law_X5_open : GoodIn lw_tbl (wsV RL 27 RX5 yX5_open wsX5_open) := goodIn_sub (List.forall_mem_append.mpr ⟨(List.forall_mem_cons.mpr ⟨mw_263, (List.forall_mem_cons.mpr ⟨mw_262, (List.forall_mem_cons.mpr ⟨mw_261, (List.forall_mem_cons.mpr ⟨mw_215, (fun _ h => nomatch h)⟩)⟩)⟩)⟩), hm_wsX5_open⟩) (by decide +kernel)
theorem gL_law_X4_want : GoodIn lw_tbl (wsV RL 28 RX4 yX4_want wsX4_want) := goodIn_sub (List.forall_mem_append.mpr ⟨(List.forall_mem_cons.mpr ⟨mw_294, (List.forall_mem_cons.mpr ⟨mw_293, (List.forall_mem_cons.mpr ⟨mw_292, (List.forall_mem_cons.mpr ⟨mw_206, (fun _ h => nomatch h)⟩)⟩)⟩)⟩), hm_wsX4_want⟩) (by decide +kernel)
theorem gL_law_X5_want : GoodIn lw_tbl (wsV RL 31 RX5 yX5_want wsX5_want) := goodIn_sub (List.forall_mem_append.mpr ⟨(List.forall_mem_cons.mpr ⟨mw_314, (List.forall_mem_cons.mpr ⟨mw_313, (List.forall_mem_cons.mpr ⟨mw_312, (List.forall_mem_cons.mpr ⟨mw_215, (fun _ h => nomatch h)⟩)⟩)⟩)⟩), hm_wsX5_want⟩) (by decide +kernel)
theorem gL_law_X4_begin : GoodIn lw_tbl (wsV RL 32 RX4 yX4_begin wsX4_begin) := goodIn_sub (List.forall_mem_append.mpr ⟨(List.forall_mem_cons.mpr ⟨mw_355, (List.forall_mem_cons.mpr ⟨mw_354, (List.forall_mem_cons.mpr ⟨mw_353, (List.forall_mem_cons.mpr ⟨mw_206, (fun _ h => nomatch h)⟩)⟩)⟩)⟩), hm_wsX4_begin⟩) (by decide +kernel)
theorem gL_law_X5_begin : GoodIn lw_tbl (wsV RL 35 RX5 yX5_begin wsX5_begin) := goodIn_sub (List.forall_mem_append.mpr ⟨(List.forall_mem_cons.mpr ⟨mw_367, (List.forall_mem_cons.mpr ⟨mw_366, (List.forall_mem_cons.mpr ⟨mw_365, (List.forall_mem_cons.mpr ⟨mw_215, (fun _ h => nomatch h)⟩)⟩)⟩)⟩), hm_wsX5_begin⟩) (by decide +kernel)
theorem gL_law_X4_end : GoodIn lw_tbl (wsV RL 36 RX4 yX4_end wsX4_end) := goodIn_sub (List.forall_mem_append.mpr ⟨(List.forall_mem_cons.mpr ⟨mw_385, (List.forall_mem_cons.mpr ⟨mw_384, (List.forall_mem_cons.mpr ⟨mw_383, (List.forall_mem_cons.mpr ⟨mw_206, (fun _ h => nomatch h)⟩)⟩)⟩)⟩), hm_wsX4_end⟩) (by decide +kernel)
theorem gL_law_X5_end : GoodIn lw_tbl (wsV RL 39 RX5 yX5_end wsX5_end) := goodIn_sub (List.forall_mem_append.mpr ⟨(List.forall_mem_cons.mpr ⟨mw_395, (List.forall_mem_cons.mpr ⟨mw_394, (List.forall_mem_cons.mpr ⟨mw_393, (List.forall_mem_cons.mpr ⟨mw_215, (fun _ h => nomatch h)⟩)⟩)⟩)⟩), hm_wsX5_end⟩) (by decide +kernel)
theorem gL_law_X4_step : GoodIn lw_tbl (wsV RL 40 RX4 yX4_step wsX4_step) := goodIn_sub (List.forall_mem_append.mpr ⟨(List.forall_mem_cons.mpr ⟨mw_445, (List.forall_mem_cons.mpr ⟨mw_444, (List.forall_mem_cons.mpr ⟨mw_443, (List.forall_mem_cons.mpr ⟨mw_206, (fun _ h => nomatch h)⟩)⟩)⟩)⟩), hm_wsX4_step⟩) (by decide +kernel)
theorem gL_law_X5_step : GoodIn lw_tbl (wsV RL 43 RX5 yX5_step wsX5_step) := goodIn_sub (List.forall_mem_append.mpr ⟨(List.forall_mem_cons.mpr ⟨mw_473, (List.forall_mem_cons.mpr ⟨mw_472, (List.forall_mem_cons.mpr ⟨mw_471, (List.forall_mem_cons.mpr ⟨mw_215, (fun _ h => nomatch h)⟩)⟩)⟩)⟩), hm_wsX5_step⟩) (by decide +kernel)
theorem gL_law_X4_deliver : GoodIn lw_tbl (wsV RL 44 RX4 yX4_deliver wsX4_deliver) := goodIn_sub (List.forall_mem_append.mpr ⟨(List.forall_mem_cons.mpr ⟨mw_507, (List.forall_mem_cons.mpr ⟨mw_506, (List.forall_mem_cons.mpr ⟨mw_505, (List.forall_mem_cons.mpr ⟨mw_206, (fun _ h => nomatch h)⟩)⟩)⟩)⟩), hm_wsX4_deliver⟩) (by decide +kernel)
theorem gL_law_X5_deliver : GoodIn lw_tbl (wsV RL 47 RX5 yX5_deliver wsX5_deliver) := goodIn_sub (List.forall_mem_append.mpr ⟨(List.forall_mem_cons.mpr ⟨mw_519, (List.forall_mem_cons.mpr ⟨mw_518, (List.forall_mem_cons.mpr ⟨mw_517, (List.forall_mem_cons.mpr ⟨mw_215, (fun _ h => nomatch h)⟩)⟩)⟩)⟩), hm_wsX5_deliver⟩) (by decide +kernel)
theorem gL_law_X4_lose : GoodIn lw_tbl (wsV RL 48 RX4 yX4_lose wsX4_lose) := goodIn_sub (List.forall_mem_append.mpr ⟨(List.forall_mem_cons.mpr ⟨mw_523, (List.forall_mem_cons.mpr ⟨mw_522, (List.forall_mem_cons.mpr ⟨mw_521, (List.forall_mem_cons.mpr ⟨mw_206, (fun _ h => nomatch h)⟩)⟩)⟩)⟩), hm_wsX4_lose⟩) (by decide +kernel)
theorem gL_law_X5_lose : GoodIn lw_tbl (wsV RL 51 RX5 yX5_lose wsX5_lose) := goodIn_sub (List.forall_mem_append.mpr ⟨(List.forall_mem_cons.mpr ⟨mw_536, (List.forall_mem_cons.mpr ⟨mw_535, (List.forall_mem_cons.mpr ⟨mw_534, (List.forall_mem_cons.mpr ⟨mw_215, (fun _ h => nomatch h)⟩)⟩)⟩)⟩), hm_wsX5_lose⟩) (by decide +kernel)
theorem gL_law_X4_twin : GoodIn lw_tbl (wsV RL 52 RX4 yX4_twin wsX4_twin) := goodIn_sub (List.forall_mem_append.mpr ⟨(List.forall_mem_cons.mpr ⟨mw_561, (List.forall_mem_cons.mpr ⟨mw_560, (List.forall_mem_cons.mpr ⟨mw_559, (List.forall_mem_cons.mpr ⟨mw_206, (fun _ h => nomatch h)⟩)⟩)⟩)⟩), hm_wsX4_twin⟩) (by decide +kernel)
theorem gL_law_X5_twin : GoodIn lw_tbl (wsV RL 55 RX5 yX5_twin wsX5_twin) := goodIn_sub (List.forall_mem_append.mpr ⟨(List.forall_mem_cons.mpr ⟨mw_569, (List.forall_mem_cons.mpr ⟨mw_568, (List.forall_mem_cons.mpr ⟨mw_567, (List.forall_mem_cons.mpr ⟨mw_215, (fun _ h => nomatch h)⟩)⟩)⟩)⟩), hm_wsX5_twin⟩) (by decide +kernel)
theorem gL_law_X4_resend : GoodIn lw_tbl (wsV RL 56 RX4 yX4_resend wsX4_resend) := goodIn_sub (List.forall_mem_append.mpr ⟨(List.forall_mem_cons.mpr ⟨mw_573, (List.forall_mem_cons.mpr ⟨mw_572, (List.forall_mem_cons.mpr ⟨mw_571, (List.forall_mem_cons.mpr ⟨mw_206, (fun _ h => nomatch h)⟩)⟩)⟩)⟩), hm_wsX4_resend⟩) (by decide +kernel)
theorem gL_law_X5_resend : GoodIn lw_tbl (wsV RL 59 RX5 yX5_resend wsX5_resend) := goodIn_sub (List.forall_mem_append.mpr ⟨(List.forall_mem_cons.mpr ⟨mw_577, (List.forall_mem_cons.mpr ⟨mw_576, (List.forall_mem_cons.mpr ⟨mw_575, (List.forall_mem_cons.mpr ⟨mw_215, (fun _ h => nomatch h)⟩)⟩)⟩)⟩), hm_wsX5_resend⟩) (by decide +kernel)
theorem gL_law_X4_crash : GoodIn lw_tbl (wsV RL 60 RX4 yX4_crash wsX4_crash) := goodIn_sub (List.forall_mem_append.mpr ⟨(List.forall_mem_cons.mpr ⟨mw_585, (List.forall_mem_cons.mpr ⟨mw_584, (List.forall_mem_cons.mpr ⟨mw_583, (List.forall_mem_cons.mpr ⟨mw_206, (fun _ h => nomatch h)⟩)⟩)⟩)⟩), hm_wsX4_crash⟩) (by decide +kernel)
theorem gL_law_X5_crash : GoodIn lw_tbl (wsV RL 63 RX5 yX5_crash wsX5_crash) := goodIn_sub (List.forall_mem_append.mpr ⟨(List.forall_mem_cons.mpr ⟨mw_594, (List.forall_mem_cons.mpr ⟨mw_593, (List.forall_mem_cons.mpr ⟨mw_592, (List.forall_mem_cons.mpr ⟨mw_215, (fun _ h => nomatch h)⟩)⟩)⟩)⟩), hm_wsX5_crash⟩) (by decide +kernel)
theorem gL_law_X4_restart : GoodIn lw_tbl (wsV RL 64 RX4 yX4_restart wsX4_restart) := goodIn_sub (List.forall_mem_append.mpr ⟨(List.forall_mem_cons.mpr ⟨mw_599, (List.forall_mem_cons.mpr ⟨mw_598, (List.forall_mem_cons.mpr ⟨mw_597, (List.forall_mem_cons.mpr ⟨mw_206, (fun _ h => nomatch h)⟩)⟩)⟩)⟩), hm_wsX4_restart⟩) (by decide +kernel)
theorem gL_law_X5_restart : GoodIn lw_tbl (wsV RL 67 RX5 yX5_restart wsX5_restart) := goodIn_sub (List.forall_mem_append.mpr ⟨(List.forall_mem_cons.mpr ⟨mw_603, (List.forall_mem_cons.mpr ⟨mw_602, (List.forall_mem_cons.mpr ⟨mw_601, (List.forall_mem_cons.mpr ⟨mw_215, (fun _ h => nomatch h)⟩)⟩)⟩)⟩), hm_wsX5_restart⟩) (by decide +kernel)
theorem gL_law_X4_cut : GoodIn lw_tbl (wsV RL 68 RX4 yX4_cut wsX4_cut) := goodIn_sub (List.forall_mem_append.mpr ⟨(List.forall_mem_cons.mpr ⟨mw_621, (List.forall_mem_cons.mpr ⟨mw_620, (List.forall_mem_cons.mpr ⟨mw_619, (List.forall_mem_cons.mpr ⟨mw_206, (fun _ h => nomatch h)⟩)⟩)⟩)⟩), hm_wsX4_cut⟩) (by decide +kernel)
theorem gL_law_X5_cut : GoodIn lw_tbl (wsV RL 71 RX5 yX5_cut wsX5_cut) := goodIn_sub (List.forall_mem_append.mpr ⟨(List.forall_mem_cons.mpr ⟨mw_625, (List.forall_mem_cons.mpr ⟨mw_624, (List.forall_mem_cons.mpr ⟨mw_623, (List.forall_mem_cons.mpr ⟨mw_215, (fun _ h => nomatch h)⟩)⟩)⟩)⟩), hm_wsX5_cut⟩) (by decide +kernel)
theorem gL_law_X4_join : GoodIn lw_tbl (wsV RL 72 RX4 yX4_join wsX4_join) := goodIn_sub (List.forall_mem_append.mpr ⟨(List.forall_mem_cons.mpr ⟨mw_649, (List.forall_mem_cons.mpr ⟨mw_648, (List.forall_mem_cons.mpr ⟨mw_647, (List.forall_mem_cons.mpr ⟨mw_206, (fun _ h => nomatch h)⟩)⟩)⟩)⟩), hm_wsX4_join⟩) (by decide +kernel)
theorem gL_law_X5_join : GoodIn lw_tbl (wsV RL 75 RX5 yX5_join wsX5_join) := goodIn_sub (List.forall_mem_append.mpr ⟨(List.forall_mem_cons.mpr ⟨mw_657, (List.forall_mem_cons.mpr ⟨mw_656, (List.forall_mem_cons.mpr ⟨mw_655, (List.forall_mem_cons.mpr ⟨mw_215, (fun _ h => nomatch h)⟩)⟩)⟩)⟩), hm_wsX5_join⟩) (by decide +kernel)
theorem gL_law_X4_holder : GoodIn lw_tbl (wsV RL 76 RX4 yX4_holder wsX4_holder) := goodIn_sub (List.forall_mem_append.mpr ⟨(List.forall_mem_cons.mpr ⟨mw_672, (List.forall_mem_cons.mpr ⟨mw_671, (List.forall_mem_cons.mpr ⟨mw_670, (List.forall_mem_cons.mpr ⟨mw_206, (fun _ h => nomatch h)⟩)⟩)⟩)⟩), hm_wsX4_holder⟩) (by decide +kernel)
theorem gL_law_X5_holder : GoodIn lw_tbl (wsV RL 80 RX5 yX5_holder wsX5_holder) := goodIn_sub (List.forall_mem_append.mpr ⟨(List.forall_mem_cons.mpr ⟨mw_677, (List.forall_mem_cons.mpr ⟨mw_676, (List.forall_mem_cons.mpr ⟨mw_675, (List.forall_mem_cons.mpr ⟨mw_215, (fun _ h => nomatch h)⟩)⟩)⟩)⟩), hm_wsX5_holder⟩) (by decide +kernel)
theorem gL_law_X4_pointer : GoodIn lw_tbl (wsV RL 81 RX4 yX4_pointer wsX4_pointer) := goodIn_sub (List.forall_mem_append.mpr ⟨(List.forall_mem_cons.mpr ⟨mw_682, (List.forall_mem_cons.mpr ⟨mw_681, (List.forall_mem_cons.mpr ⟨mw_680, (List.forall_mem_cons.mpr ⟨mw_206, (fun _ h => nomatch h)⟩)⟩)⟩)⟩), hm_wsX4_pointer⟩) (by decide +kernel)
theorem gL_law_X5_pointer : GoodIn lw_tbl (wsV RL 84 RX5 yX5_pointer wsX5_pointer) := goodIn_sub (List.forall_mem_append.mpr ⟨(List.forall_mem_cons.mpr ⟨mw_686, (List.forall_mem_cons.mpr ⟨mw_685, (List.forall_mem_cons.mpr ⟨mw_684, (List.forall_mem_cons.mpr ⟨mw_215, (fun _ h => nomatch h)⟩)⟩)⟩)⟩), hm_wsX5_pointer⟩) (by decide +kernel)
theorem gL_law_X4_queue : GoodIn lw_tbl (wsV RL 85 RX4 yX4_queue wsX4_queue) := goodIn_sub (List.forall_mem_append.mpr ⟨(List.forall_mem_cons.mpr ⟨mw_694, (List.forall_mem_cons.mpr ⟨mw_693, (List.forall_mem_cons.mpr ⟨mw_692, (List.forall_mem_cons.mpr ⟨mw_206, (fun _ h => nomatch h)⟩)⟩)⟩)⟩), hm_wsX4_queue⟩) (by decide +kernel)
theorem gL_law_X5_queue : GoodIn lw_tbl (wsV RL 89 RX5 yX5_queue wsX5_queue) := goodIn_sub (List.forall_mem_append.mpr ⟨(List.forall_mem_cons.mpr ⟨mw_705, (List.forall_mem_cons.mpr ⟨mw_704, (List.forall_mem_cons.mpr ⟨mw_703, (List.forall_mem_cons.mpr ⟨mw_215, (fun _ h => nomatch h)⟩)⟩)⟩)⟩), hm_wsX5_queue⟩) (by decide +kernel)
theorem gL_law_X4_letter : GoodIn lw_tbl (wsV RL 90 RX4 yX4_letter wsX4_letter) := goodIn_sub (List.forall_mem_append.mpr ⟨(List.forall_mem_cons.mpr ⟨mw_714, (List.forall_mem_cons.mpr ⟨mw_713, (List.forall_mem_cons.mpr ⟨mw_712, (List.forall_mem_cons.mpr ⟨mw_206, (fun _ h => nomatch h)⟩)⟩)⟩)⟩), hm_wsX4_letter⟩) (by decide +kernel)
theorem gL_law_X5_letter : GoodIn lw_tbl (wsV RL 93 RX5 yX5_letter wsX5_letter) := goodIn_sub (List.forall_mem_append.mpr ⟨(List.forall_mem_cons.mpr ⟨mw_718, (List.forall_mem_cons.mpr ⟨mw_717, (List.forall_mem_cons.mpr ⟨mw_716, (List.forall_mem_cons.mpr ⟨mw_215, (fun _ h => nomatch h)⟩)⟩)⟩)⟩), hm_wsX5_letter⟩) (by decide +kernel)
theorem gL_law_X4_told : GoodIn lw_tbl (wsV RL 94 RX4 yX4_told wsX4_told) := goodIn_sub (List.forall_mem_append.mpr ⟨(List.forall_mem_cons.mpr ⟨mw_738, (List.forall_mem_cons.mpr ⟨mw_737, (List.forall_mem_cons.mpr ⟨mw_736, (List.forall_mem_cons.mpr ⟨mw_206, (fun _ h => nomatch h)⟩)⟩)⟩)⟩), hm_wsX4_told⟩) (by decide +kernel)
theorem gL_law_X5_told : GoodIn lw_tbl (wsV RL 97 RX5 yX5_told wsX5_told) := goodIn_sub (List.forall_mem_append.mpr ⟨(List.forall_mem_cons.mpr ⟨mw_748, (List.forall_mem_cons.mpr ⟨mw_747, (List.forall_mem_cons.mpr ⟨mw_746, (List.forall_mem_cons.mpr ⟨mw_215, (fun _ h => nomatch h)⟩)⟩)⟩)⟩), hm_wsX5_told⟩) (by decide +kernel)
theorem gL_law_X4_count : GoodIn lw_tbl (wsV RL 98 RX4 yX4_count wsX4_count) := goodIn_sub (List.forall_mem_append.mpr ⟨(List.forall_mem_cons.mpr ⟨mw_756, (List.forall_mem_cons.mpr ⟨mw_755, (List.forall_mem_cons.mpr ⟨mw_754, (List.forall_mem_cons.mpr ⟨mw_206, (fun _ h => nomatch h)⟩)⟩)⟩)⟩), hm_wsX4_count⟩) (by decide +kernel)
theorem gL_law_X5_count : GoodIn lw_tbl (wsV RL 101 RX5 yX5_count wsX5_count) := goodIn_sub (List.forall_mem_append.mpr ⟨(List.forall_mem_cons.mpr ⟨mw_768, (List.forall_mem_cons.mpr ⟨mw_767, (List.forall_mem_cons.mpr ⟨mw_766, (List.forall_mem_cons.mpr ⟨mw_215, (fun _ h => nomatch h)⟩)⟩)⟩)⟩), hm_wsX5_count⟩) (by decide +kernel)
