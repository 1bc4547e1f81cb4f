theorem tk_1 : ∀ w ∈ tables_1_1, w ∈ lw_tbl := fun w h => List.mem_append_right _ (List.mem_append_left _ h)
theorem tk_2 : ∀ w ∈ tables_1_2, w ∈ lw_tbl := fun w h => List.mem_append_right _ (List.mem_append_right _ (List.mem_append_left _ h))
theorem tk_3 : ∀ w ∈ tables_1_3, w ∈ lw_tbl := fun w h => List.mem_append_right _ (List.mem_append_right _ (List.mem_append_right _ (List.mem_append_left _ h)))
theorem tk_4 : ∀ w ∈ tables_1_4, w ∈ lw_tbl := fun w h => List.mem_append_right _ (List.mem_append_right _ (List.mem_append_right _ (List.mem_append_right _ (List.mem_append_left _ h))))
theorem tk_5 : ∀ w ∈ tables_1_5, w ∈ lw_tbl := fun w h => List.mem_append_right _ (List.mem_append_right _ (List.mem_append_right _ (List.mem_append_right _ (List.mem_append_right _ (List.mem_append_left _ h)))))
theorem tk_6 : ∀ w ∈ tables_1_6, w ∈ lw_tbl := fun w h => List.mem_append_right _ (List.mem_append_right _ (List.mem_append_right _ (List.mem_append_right _ (List.mem_append_right _ (List.mem_append_right _ (h))))))
theorem q1_1 : Cond.initialized RX10 ∈ bw := bw_mem (tk_1 _ (List.mem_of_getElem? (i := 1) rfl)) rfl
theorem q1_2 : Cond.initialized RX9 ∈ bw := bw_mem (tk_1 _ (List.mem_of_getElem? (i := 2) rfl)) rfl
theorem q1_3 : Cond.initialized RJ7 ∈ bw := bw_mem (tk_1 _ (List.mem_of_getElem? (i := 3) rfl)) rfl
theorem q1_4 : Cond.initialized RX7 ∈ bw := bw_mem (tk_1 _ (List.mem_of_getElem? (i := 4) rfl)) rfl
theorem q1_5 : Cond.initialized RX1 ∈ bw := bw_mem (tk_1 _ (List.mem_of_getElem? (i := 5) rfl)) rfl
theorem q1_6 : Cond.initialized RX8 ∈ bw := bw_mem (tk_1 _ (List.mem_of_getElem? (i := 6) rfl)) rfl
theorem q1_7 : Cond.initialized RX0 ∈ bw := bw_mem (tk_1 _ (List.mem_of_getElem? (i := 7) rfl)) rfl
theorem q1_8 : Cond.initialized RX5 ∈ bw := bw_mem (tk_1 _ (List.mem_of_getElem? (i := 8) rfl)) rfl
theorem q1_9 : Cond.initialized RX3 ∈ bw := bw_mem (tk_1 _ (List.mem_of_getElem? (i := 9) rfl)) rfl
theorem q1_10 : Cond.initialized RX4 ∈ bw := bw_mem (tk_1 _ (List.mem_of_getElem? (i := 10) rfl)) rfl
theorem q1_11 : Cond.initialized RX2 ∈ bw := bw_mem (tk_1 _ (List.mem_of_getElem? (i := 11) rfl)) rfl
theorem q1_12 : Cond.initialized RX6 ∈ bw := bw_mem (tk_1 _ (List.mem_of_getElem? (i := 12) rfl)) rfl
theorem q1_13 : Cond.initialized RX11 ∈ bw := bw_mem (tk_1 _ (List.mem_of_getElem? (i := 13) rfl)) rfl
theorem q1_14 : Cond.initialized RJ0 ∈ bw := bw_mem (tk_1 _ (List.mem_of_getElem? (i := 14) rfl)) rfl
theorem q1_15 : Cond.initialized RJ1 ∈ bw := bw_mem (tk_1 _ (List.mem_of_getElem? (i := 15) rfl)) rfl
theorem q1_16 : Cond.initialized RJ3 ∈ bw := bw_mem (tk_1 _ (List.mem_of_getElem? (i := 16) rfl)) rfl
theorem q1_18 : Cond.initialized RJ9 ∈ bw := bw_mem (tk_1 _ (List.mem_of_getElem? (i := 18) rfl)) rfl
theorem q1_19 : Cond.initialized RJ6 ∈ bw := bw_mem (tk_1 _ (List.mem_of_getElem? (i := 19) rfl)) rfl
theorem q1_25 : Cond.methodLink RX10 3 objectInit ∈ bw := bw_mem (tk_1 _ (List.mem_of_getElem? (i := 25) rfl)) rfl
theorem q1_26 : Cond.instanceMethod objectInit ∈ bw := bw_mem (tk_1 _ (List.mem_of_getElem? (i := 26) rfl)) rfl
theorem q1_27 : Cond.code objectInit ⟨#[0xb1]⟩ 1 none ∈ bw := bw_mem (tk_1 _ (List.mem_of_getElem? (i := 27) rfl)) rfl
theorem q1_28 : Cond.classLink RX10 9 RX9 ∈ bw := bw_mem (tk_1 _ (List.mem_of_getElem? (i := 28) rfl)) rfl
theorem q1_29 : Cond.instantiable RX9 9 ∈ bw := bw_mem (tk_1 _ (List.mem_of_getElem? (i := 29) rfl)) rfl
theorem q1_30 : Cond.methodLink RX10 11 yX9_init ∈ bw := bw_mem (tk_1 _ (List.mem_of_getElem? (i := 30) rfl)) rfl
theorem q1_31 : Cond.instanceMethod yX9_init ∈ bw := bw_mem (tk_1 _ (List.mem_of_getElem? (i := 31) rfl)) rfl
theorem q1_32 : Cond.code yX9_init cX9_init 1 none ∈ bw := bw_mem (tk_1 _ (List.mem_of_getElem? (i := 32) rfl)) rfl
theorem q1_33 : Cond.methodLink RX9 3 objectInit ∈ bw := bw_mem (tk_1 _ (List.mem_of_getElem? (i := 33) rfl)) rfl
theorem q1_34 : Cond.methodLink RX9 31 yX9_settle ∈ bw := bw_mem (tk_1 _ (List.mem_of_getElem? (i := 34) rfl)) rfl
theorem q1_35 : Cond.instanceMethod yX9_settle ∈ bw := bw_mem (tk_1 _ (List.mem_of_getElem? (i := 35) rfl)) rfl
theorem q1_36 : Cond.selects RX9 yX9_settle yX9_settle ∈ bw := bw_mem (tk_1 _ (List.mem_of_getElem? (i := 36) rfl)) rfl
theorem q1_37 : Cond.code yX9_settle cX9_settle 3 none ∈ bw := bw_mem (tk_1 _ (List.mem_of_getElem? (i := 37) rfl)) rfl
theorem q1_38 : Cond.methodLink RX9 41 yJ7_fill_53178 ∈ bw := bw_mem (tk_1 _ (List.mem_of_getElem? (i := 38) rfl)) rfl
theorem q1_39 : Cond.static yJ7_fill_53178 ∈ bw := bw_mem (tk_1 _ (List.mem_of_getElem? (i := 39) rfl)) rfl
theorem q1_40 : Cond.code yJ7_fill_53178 cJ7_fill_53178 4 none ∈ bw := bw_mem (tk_1 _ (List.mem_of_getElem? (i := 40) rfl)) rfl
theorem q1_41 : Cond.fieldLink RX9 35 "EvenDays$Told" "pairs" "I" ∈ bw := bw_mem (tk_1 _ (List.mem_of_getElem? (i := 41) rfl)) rfl
theorem q1_46 : Cond.fieldLink RX9 38 "EvenDays$Told" "hours" "I" ∈ bw := bw_mem (tk_1 _ (List.mem_of_getElem? (i := 46) rfl)) rfl
theorem q1_51 : Cond.fieldLink RX9 47 "EvenDays$Told" "eats" "I" ∈ bw := bw_mem (tk_1 _ (List.mem_of_getElem? (i := 51) rfl)) rfl
theorem q1_55 : Cond.fieldLink RX9 27 "EvenDays$Told" "fine" "I" ∈ bw := bw_mem (tk_1 _ (List.mem_of_getElem? (i := 55) rfl)) rfl
theorem q1_59 : Cond.fieldLink RX9 9 "EvenDays$Told" "kinds" "[I" ∈ bw := bw_mem (tk_1 _ (List.mem_of_getElem? (i := 59) rfl)) rfl
theorem q1_60 : Cond.fieldLink RX9 15 "EvenDays$Told" "classes" "[I" ∈ bw := bw_mem (tk_1 _ (List.mem_of_getElem? (i := 60) rfl)) rfl
theorem q1_61 : Cond.fieldLink RX9 18 "EvenDays$Told" "breads" "[I" ∈ bw := bw_mem (tk_1 _ (List.mem_of_getElem? (i := 61) rfl)) rfl
theorem q1_62 : Cond.fieldLink RX9 21 "EvenDays$Told" "worths" "[I" ∈ bw := bw_mem (tk_1 _ (List.mem_of_getElem? (i := 62) rfl)) rfl
theorem q1_63 : Cond.fieldLink RX9 24 "EvenDays$Told" "meantWorks" "[I" ∈ bw := bw_mem (tk_1 _ (List.mem_of_getElem? (i := 63) rfl)) rfl
theorem q1_64 : Cond.lays RX9 RX9 "pairs" "I" ∈ bw := bw_mem (tk_1 _ (List.mem_of_getElem? (i := 64) rfl)) rfl
theorem q1_66 : Cond.lays RX9 RX9 "hours" "I" ∈ bw := bw_mem (tk_1 _ (List.mem_of_getElem? (i := 66) rfl)) rfl
theorem q1_68 : Cond.lays RX9 RX9 "eats" "I" ∈ bw := bw_mem (tk_1 _ (List.mem_of_getElem? (i := 68) rfl)) rfl
theorem q1_70 : Cond.lays RX9 RX9 "fine" "I" ∈ bw := bw_mem (tk_1 _ (List.mem_of_getElem? (i := 70) rfl)) rfl
theorem q1_72 : Cond.laysFinal RX9 RX9 "kinds" "[I" ∈ bw := bw_mem (tk_1 _ (List.mem_of_getElem? (i := 72) rfl)) rfl
theorem q1_74 : Cond.laysFinal RX9 RX9 "classes" "[I" ∈ bw := bw_mem (tk_1 _ (List.mem_of_getElem? (i := 74) rfl)) rfl
theorem q1_76 : Cond.laysFinal RX9 RX9 "breads" "[I" ∈ bw := bw_mem (tk_1 _ (List.mem_of_getElem? (i := 76) rfl)) rfl
theorem q1_78 : Cond.laysFinal RX9 RX9 "worths" "[I" ∈ bw := bw_mem (tk_1 _ (List.mem_of_getElem? (i := 78) rfl)) rfl
theorem q1_80 : Cond.laysFinal RX9 RX9 "meantWorks" "[I" ∈ bw := bw_mem (tk_1 _ (List.mem_of_getElem? (i := 80) rfl)) rfl
theorem q1_83 : Cond.arrayClass .int ∈ bw := bw_mem (tk_1 _ (List.mem_of_getElem? (i := 83) rfl)) rfl
theorem q1_84 : Cond.classLink RX10 19 RX7 ∈ bw := bw_mem (tk_1 _ (List.mem_of_getElem? (i := 84) rfl)) rfl
theorem q1_85 : Cond.instantiable RX7 2 ∈ bw := bw_mem (tk_1 _ (List.mem_of_getElem? (i := 85) rfl)) rfl
theorem q1_87 : Cond.instanceMethod yX7_init ∈ bw := bw_mem (tk_1 _ (List.mem_of_getElem? (i := 87) rfl)) rfl
theorem q1_88 : Cond.code yX7_init cX7_init 1 none ∈ bw := bw_mem (tk_1 _ (List.mem_of_getElem? (i := 88) rfl)) rfl
theorem q1_89 : Cond.methodLink RX7 3 objectInit ∈ bw := bw_mem (tk_1 _ (List.mem_of_getElem? (i := 89) rfl)) rfl
theorem q1_90 : Cond.fieldLink RX7 15 "EvenDays$Text" "length" "I" ∈ bw := bw_mem (tk_1 _ (List.mem_of_getElem? (i := 90) rfl)) rfl
theorem q1_93 : Cond.fieldLink RX7 9 "EvenDays$Text" "signs" "[I" ∈ bw := bw_mem (tk_1 _ (List.mem_of_getElem? (i := 93) rfl)) rfl
theorem q1_94 : Cond.lays RX7 RX7 "length" "I" ∈ bw := bw_mem (tk_1 _ (List.mem_of_getElem? (i := 94) rfl)) rfl
theorem q1_96 : Cond.laysFinal RX7 RX7 "signs" "[I" ∈ bw := bw_mem (tk_1 _ (List.mem_of_getElem? (i := 96) rfl)) rfl
theorem q1_99 : Cond.classLink RX10 26 RX1 ∈ bw := bw_mem (tk_1 _ (List.mem_of_getElem? (i := 99) rfl)) rfl
theorem q1_100 : Cond.instantiable RX1 3 ∈ bw := bw_mem (tk_1 _ (List.mem_of_getElem? (i := 100) rfl)) rfl
theorem q1_101 : Cond.methodLink RX10 28 yX1_init ∈ bw := bw_mem (tk_1 _ (List.mem_of_getElem? (i := 101) rfl)) rfl
theorem q1_102 : Cond.instanceMethod yX1_init ∈ bw := bw_mem (tk_1 _ (List.mem_of_getElem? (i := 102) rfl)) rfl
theorem q1_103 : Cond.code yX1_init cX1_init 2 none ∈ bw := bw_mem (tk_1 _ (List.mem_of_getElem? (i := 103) rfl)) rfl
theorem q1_104 : Cond.methodLink RX1 3 objectInit ∈ bw := bw_mem (tk_1 _ (List.mem_of_getElem? (i := 104) rfl)) rfl
theorem q1_105 : Cond.classLink RX1 9 RX8 ∈ bw := bw_mem (tk_1 _ (List.mem_of_getElem? (i := 105) rfl)) rfl
theorem q1_106 : Cond.instantiable RX8 4 ∈ bw := bw_mem (tk_1 _ (List.mem_of_getElem? (i := 106) rfl)) rfl
theorem q1_107 : Cond.methodLink RX1 11 yX8_init ∈ bw := bw_mem (tk_1 _ (List.mem_of_getElem? (i := 107) rfl)) rfl
theorem q1_108 : Cond.instanceMethod yX8_init ∈ bw := bw_mem (tk_1 _ (List.mem_of_getElem? (i := 108) rfl)) rfl
theorem q1_109 : Cond.code yX8_init cX8_init 2 none ∈ bw := bw_mem (tk_1 _ (List.mem_of_getElem? (i := 109) rfl)) rfl
theorem q1_110 : Cond.methodLink RX8 3 objectInit ∈ bw := bw_mem (tk_1 _ (List.mem_of_getElem? (i := 110) rfl)) rfl
theorem q1_111 : Cond.fieldLink RX8 9 "EvenDays$Tokens" "text" "LEvenDays$Text;" ∈ bw := bw_mem (tk_1 _ (List.mem_of_getElem? (i := 111) rfl)) rfl
theorem q1_113 : Cond.fieldLink RX8 22 "EvenDays$Tokens" "begin" "I" ∈ bw := bw_mem (tk_1 _ (List.mem_of_getElem? (i := 113) rfl)) rfl
theorem q1_114 : Cond.fieldLink RX8 15 "EvenDays$Tokens" "behind" "I" ∈ bw := bw_mem (tk_1 _ (List.mem_of_getElem? (i := 114) rfl)) rfl
theorem q1_115 : Cond.fieldLink RX8 37 "EvenDays$Tokens" "kind" "I" ∈ bw := bw_mem (tk_1 _ (List.mem_of_getElem? (i := 115) rfl)) rfl
theorem q1_116 : Cond.laysFinal RX8 RX8 "text" "LEvenDays$Text;" ∈ bw := bw_mem (tk_1 _ (List.mem_of_getElem? (i := 116) rfl)) rfl
theorem q1_118 : Cond.lays RX8 RX8 "begin" "I" ∈ bw := bw_mem (tk_1 _ (List.mem_of_getElem? (i := 118) rfl)) rfl
theorem q1_120 : Cond.lays RX8 RX8 "behind" "I" ∈ bw := bw_mem (tk_1 _ (List.mem_of_getElem? (i := 120) rfl)) rfl
theorem q1_122 : Cond.lays RX8 RX8 "kind" "I" ∈ bw := bw_mem (tk_1 _ (List.mem_of_getElem? (i := 122) rfl)) rfl
theorem q1_125 : Cond.fieldLink RX1 14 "EvenDays$Lines" "tokens" "LEvenDays$Tokens;" ∈ bw := bw_mem (tk_1 _ (List.mem_of_getElem? (i := 125) rfl)) rfl
theorem q1_126 : Cond.fieldLink RX1 20 "EvenDays$Lines" "faultAt" "I" ∈ bw := bw_mem (tk_1 _ (List.mem_of_getElem? (i := 126) rfl)) rfl
theorem q1_127 : Cond.fieldLink RX1 31 "EvenDays$Lines" "read" "I" ∈ bw := bw_mem (tk_1 _ (List.mem_of_getElem? (i := 127) rfl)) rfl
theorem q1_129 : Cond.laysFinal RX1 RX1 "tokens" "LEvenDays$Tokens;" ∈ bw := bw_mem (tk_1 _ (List.mem_of_getElem? (i := 129) rfl)) rfl
theorem q1_131 : Cond.lays RX1 RX1 "faultAt" "I" ∈ bw := bw_mem (tk_1 _ (List.mem_of_getElem? (i := 131) rfl)) rfl
theorem q1_133 : Cond.lays RX1 RX1 "read" "I" ∈ bw := bw_mem (tk_1 _ (List.mem_of_getElem? (i := 133) rfl)) rfl
theorem q1_136 : Cond.classLink RX10 35 RX0 ∈ bw := bw_mem (tk_1 _ (List.mem_of_getElem? (i := 136) rfl)) rfl
theorem q1_137 : Cond.instantiable RX0 6 ∈ bw := bw_mem (tk_1 _ (List.mem_of_getElem? (i := 137) rfl)) rfl
theorem q1_138 : Cond.methodLink RX10 37 yX0_init ∈ bw := bw_mem (tk_1 _ (List.mem_of_getElem? (i := 138) rfl)) rfl
theorem q1_139 : Cond.instanceMethod yX0_init ∈ bw := bw_mem (tk_1 _ (List.mem_of_getElem? (i := 139) rfl)) rfl
theorem q1_140 : Cond.code yX0_init cX0_init 1 none ∈ bw := bw_mem (tk_1 _ (List.mem_of_getElem? (i := 140) rfl)) rfl
theorem q1_141 : Cond.methodLink RX0 3 objectInit ∈ bw := bw_mem (tk_1 _ (List.mem_of_getElem? (i := 141) rfl)) rfl
theorem q1_142 : Cond.methodLink RX0 24 yX0_beginAnew ∈ bw := bw_mem (tk_1 _ (List.mem_of_getElem? (i := 142) rfl)) rfl
theorem q1_143 : Cond.instanceMethod yX0_beginAnew ∈ bw := bw_mem (tk_1 _ (List.mem_of_getElem? (i := 143) rfl)) rfl
theorem q1_144 : Cond.selects RX0 yX0_beginAnew yX0_beginAnew ∈ bw := bw_mem (tk_1 _ (List.mem_of_getElem? (i := 144) rfl)) rfl
theorem q1_145 : Cond.code yX0_beginAnew cX0_beginAnew 1 none ∈ bw := bw_mem (tk_1 _ (List.mem_of_getElem? (i := 145) rfl)) rfl
theorem q1_146 : Cond.methodLink RX0 34 yJ7_fill_53178 ∈ bw := bw_mem (tk_1 _ (List.mem_of_getElem? (i := 146) rfl)) rfl
theorem q1_147 : Cond.fieldLink RX0 27 "EvenDays$Days" "gone" "I" ∈ bw := bw_mem (tk_1 _ (List.mem_of_getElem? (i := 147) rfl)) rfl
theorem q1_149 : Cond.fieldLink RX0 31 "EvenDays$Days" "illBits" "I" ∈ bw := bw_mem (tk_1 _ (List.mem_of_getElem? (i := 149) rfl)) rfl
theorem q1_150 : Cond.fieldLink RX0 9 "EvenDays$Days" "bread" "[I" ∈ bw := bw_mem (tk_1 _ (List.mem_of_getElem? (i := 150) rfl)) rfl
theorem q1_152 : Cond.fieldLink RX0 15 "EvenDays$Days" "faults" "[I" ∈ bw := bw_mem (tk_1 _ (List.mem_of_getElem? (i := 152) rfl)) rfl
theorem q1_153 : Cond.fieldLink RX0 18 "EvenDays$Days" "owed" "[I" ∈ bw := bw_mem (tk_1 _ (List.mem_of_getElem? (i := 153) rfl)) rfl
theorem q1_154 : Cond.fieldLink RX0 21 "EvenDays$Days" "otherwise" "[I" ∈ bw := bw_mem (tk_1 _ (List.mem_of_getElem? (i := 154) rfl)) rfl
theorem q1_155 : Cond.lays RX0 RX0 "gone" "I" ∈ bw := bw_mem (tk_1 _ (List.mem_of_getElem? (i := 155) rfl)) rfl
theorem q1_157 : Cond.lays RX0 RX0 "illBits" "I" ∈ bw := bw_mem (tk_1 _ (List.mem_of_getElem? (i := 157) rfl)) rfl
theorem q1_159 : Cond.laysFinal RX0 RX0 "bread" "[I" ∈ bw := bw_mem (tk_1 _ (List.mem_of_getElem? (i := 159) rfl)) rfl
theorem q1_161 : Cond.laysFinal RX0 RX0 "faults" "[I" ∈ bw := bw_mem (tk_1 _ (List.mem_of_getElem? (i := 161) rfl)) rfl
theorem q1_163 : Cond.laysFinal RX0 RX0 "owed" "[I" ∈ bw := bw_mem (tk_1 _ (List.mem_of_getElem? (i := 163) rfl)) rfl
theorem q1_165 : Cond.laysFinal RX0 RX0 "otherwise" "[I" ∈ bw := bw_mem (tk_1 _ (List.mem_of_getElem? (i := 165) rfl)) rfl
theorem q1_169 : Cond.classLink RX10 50 RX5 ∈ bw := bw_mem (tk_1 _ (List.mem_of_getElem? (i := 169) rfl)) rfl
theorem q1_170 : Cond.instantiable RX5 6 ∈ bw := bw_mem (tk_1 _ (List.mem_of_getElem? (i := 170) rfl)) rfl
theorem q1_171 : Cond.methodLink RX10 52 yX5_init ∈ bw := bw_mem (tk_1 _ (List.mem_of_getElem? (i := 171) rfl)) rfl
theorem q1_172 : Cond.instanceMethod yX5_init ∈ bw := bw_mem (tk_1 _ (List.mem_of_getElem? (i := 172) rfl)) rfl
theorem q1_173 : Cond.code yX5_init cX5_init 2 none ∈ bw := bw_mem (tk_1 _ (List.mem_of_getElem? (i := 173) rfl)) rfl
theorem q1_174 : Cond.methodLink RX5 3 objectInit ∈ bw := bw_mem (tk_1 _ (List.mem_of_getElem? (i := 174) rfl)) rfl
theorem q1_175 : Cond.fieldLink RX5 22 "EvenDays$Planner" "told" "LEvenDays$Told;" ∈ bw := bw_mem (tk_1 _ (List.mem_of_getElem? (i := 175) rfl)) rfl
theorem q1_176 : Cond.fieldLink RX5 11 "EvenDays$Planner" "best" "[I" ∈ bw := bw_mem (tk_1 _ (List.mem_of_getElem? (i := 176) rfl)) rfl
theorem q1_177 : Cond.fieldLink RX5 15 "EvenDays$Planner" "worthFor" "[I" ∈ bw := bw_mem (tk_1 _ (List.mem_of_getElem? (i := 177) rfl)) rfl
theorem q1_178 : Cond.fieldLink RX5 18 "EvenDays$Planner" "isReckoned" "[Z" ∈ bw := bw_mem (tk_1 _ (List.mem_of_getElem? (i := 178) rfl)) rfl
theorem q1_179 : Cond.fieldLink RX5 105 "EvenDays$Planner" "one" "I" ∈ bw := bw_mem (tk_1 _ (List.mem_of_getElem? (i := 179) rfl)) rfl
theorem q1_181 : Cond.fieldLink RX5 108 "EvenDays$Planner" "other" "I" ∈ bw := bw_mem (tk_1 _ (List.mem_of_getElem? (i := 181) rfl)) rfl
theorem q1_183 : Cond.laysFinal RX5 RX5 "told" "LEvenDays$Told;" ∈ bw := bw_mem (tk_1 _ (List.mem_of_getElem? (i := 183) rfl)) rfl
theorem q1_185 : Cond.laysFinal RX5 RX5 "best" "[I" ∈ bw := bw_mem (tk_1 _ (List.mem_of_getElem? (i := 185) rfl)) rfl
theorem q1_187 : Cond.laysFinal RX5 RX5 "worthFor" "[I" ∈ bw := bw_mem (tk_1 _ (List.mem_of_getElem? (i := 187) rfl)) rfl
theorem q1_189 : Cond.laysFinal RX5 RX5 "isReckoned" "[Z" ∈ bw := bw_mem (tk_1 _ (List.mem_of_getElem? (i := 189) rfl)) rfl
theorem q1_191 : Cond.lays RX5 RX5 "one" "I" ∈ bw := bw_mem (tk_1 _ (List.mem_of_getElem? (i := 191) rfl)) rfl
theorem q1_193 : Cond.lays RX5 RX5 "other" "I" ∈ bw := bw_mem (tk_1 _ (List.mem_of_getElem? (i := 193) rfl)) rfl
theorem q1_196 : Cond.arrayClass .boolean ∈ bw := bw_mem (tk_1 _ (List.mem_of_getElem? (i := 196) rfl)) rfl
theorem q1_197 : Cond.classLink RX10 59 RX3 ∈ bw := bw_mem (tk_1 _ (List.mem_of_getElem? (i := 197) rfl)) rfl
theorem q1_198 : Cond.instantiable RX3 1 ∈ bw := bw_mem (tk_1 _ (List.mem_of_getElem? (i := 198) rfl)) rfl
theorem q1_200 : Cond.instanceMethod yX3_init ∈ bw := bw_mem (tk_1 _ (List.mem_of_getElem? (i := 200) rfl)) rfl
theorem q1_201 : Cond.code yX3_init cX3_init 1 none ∈ bw := bw_mem (tk_1 _ (List.mem_of_getElem? (i := 201) rfl)) rfl
theorem q1_202 : Cond.methodLink RX3 3 objectInit ∈ bw := bw_mem (tk_1 _ (List.mem_of_getElem? (i := 202) rfl)) rfl
theorem q1_203 : Cond.fieldLink RX3 9 "EvenDays$Messages" "fewest" "[I" ∈ bw := bw_mem (tk_1 _ (List.mem_of_getElem? (i := 203) rfl)) rfl
theorem q1_204 : Cond.laysFinal RX3 RX3 "fewest" "[I" ∈ bw := bw_mem (tk_1 _ (List.mem_of_getElem? (i := 204) rfl)) rfl
theorem q1_207 : Cond.classLink RX10 66 RX4 ∈ bw := bw_mem (tk_1 _ (List.mem_of_getElem? (i := 207) rfl)) rfl
theorem q1_208 : Cond.instantiable RX4 2 ∈ bw := bw_mem (tk_1 _ (List.mem_of_getElem? (i := 208) rfl)) rfl
theorem q1_210 : Cond.instanceMethod yX4_init ∈ bw := bw_mem (tk_1 _ (List.mem_of_getElem? (i := 210) rfl)) rfl
theorem q1_211 : Cond.code yX4_init cX4_init 1 none ∈ bw := bw_mem (tk_1 _ (List.mem_of_getElem? (i := 211) rfl)) rfl
theorem q1_212 : Cond.methodLink RX4 3 objectInit ∈ bw := bw_mem (tk_1 _ (List.mem_of_getElem? (i := 212) rfl)) rfl
theorem q1_213 : Cond.fieldLink RX4 9 "EvenDays$Partners" "harms" "[I" ∈ bw := bw_mem (tk_1 _ (List.mem_of_getElem? (i := 213) rfl)) rfl
theorem q1_214 : Cond.fieldLink RX4 15 "EvenDays$Partners" "least" "[I" ∈ bw := bw_mem (tk_1 _ (List.mem_of_getElem? (i := 214) rfl)) rfl
theorem q1_215 : Cond.laysFinal RX4 RX4 "harms" "[I" ∈ bw := bw_mem (tk_1 _ (List.mem_of_getElem? (i := 215) rfl)) rfl
theorem q1_217 : Cond.laysFinal RX4 RX4 "least" "[I" ∈ bw := bw_mem (tk_1 _ (List.mem_of_getElem? (i := 217) rfl)) rfl
theorem q1_220 : Cond.classLink RX10 73 RX2 ∈ bw := bw_mem (tk_1 _ (List.mem_of_getElem? (i := 220) rfl)) rfl
theorem q1_221 : Cond.instantiable RX2 2 ∈ bw := bw_mem (tk_1 _ (List.mem_of_getElem? (i := 221) rfl)) rfl
theorem q1_223 : Cond.instanceMethod yX2_init ∈ bw := bw_mem (tk_1 _ (List.mem_of_getElem? (i := 223) rfl)) rfl
theorem q1_224 : Cond.code yX2_init cX2_init 1 none ∈ bw := bw_mem (tk_1 _ (List.mem_of_getElem? (i := 224) rfl)) rfl
theorem q1_225 : Cond.methodLink RX2 3 objectInit ∈ bw := bw_mem (tk_1 _ (List.mem_of_getElem? (i := 225) rfl)) rfl
theorem q1_226 : Cond.fieldLink RX2 9 "EvenDays$Marriages" "likings" "[I" ∈ bw := bw_mem (tk_1 _ (List.mem_of_getElem? (i := 226) rfl)) rfl
theorem q1_227 : Cond.fieldLink RX2 15 "EvenDays$Marriages" "greatest" "[I" ∈ bw := bw_mem (tk_1 _ (List.mem_of_getElem? (i := 227) rfl)) rfl
theorem q1_228 : Cond.laysFinal RX2 RX2 "likings" "[I" ∈ bw := bw_mem (tk_1 _ (List.mem_of_getElem? (i := 228) rfl)) rfl
theorem q1_230 : Cond.laysFinal RX2 RX2 "greatest" "[I" ∈ bw := bw_mem (tk_1 _ (List.mem_of_getElem? (i := 230) rfl)) rfl
theorem q1_233 : Cond.classLink RX10 80 RX6 ∈ bw := bw_mem (tk_1 _ (List.mem_of_getElem? (i := 233) rfl)) rfl
theorem q1_234 : Cond.instantiable RX6 3 ∈ bw := bw_mem (tk_1 _ (List.mem_of_getElem? (i := 234) rfl)) rfl
theorem q1_236 : Cond.instanceMethod yX6_init ∈ bw := bw_mem (tk_1 _ (List.mem_of_getElem? (i := 236) rfl)) rfl
theorem q1_237 : Cond.code yX6_init cX6_init 1 none ∈ bw := bw_mem (tk_1 _ (List.mem_of_getElem? (i := 237) rfl)) rfl
theorem q1_238 : Cond.methodLink RX6 3 objectInit ∈ bw := bw_mem (tk_1 _ (List.mem_of_getElem? (i := 238) rfl)) rfl
theorem q1_239 : Cond.fieldLink RX6 19 "EvenDays$Rows" "length" "I" ∈ bw := bw_mem (tk_1 _ (List.mem_of_getElem? (i := 239) rfl)) rfl
theorem q2_1 : Cond.fieldLink RX6 9 "EvenDays$Rows" "alike" "[Z" ∈ bw := bw_mem (tk_2 _ (List.mem_of_getElem? (i := 1) rfl)) rfl
theorem q2_2 : Cond.fieldLink RX6 15 "EvenDays$Rows" "least" "[I" ∈ bw := bw_mem (tk_2 _ (List.mem_of_getElem? (i := 2) rfl)) rfl
theorem q2_3 : Cond.lays RX6 RX6 "length" "I" ∈ bw := bw_mem (tk_2 _ (List.mem_of_getElem? (i := 3) rfl)) rfl
theorem q2_5 : Cond.laysFinal RX6 RX6 "alike" "[Z" ∈ bw := bw_mem (tk_2 _ (List.mem_of_getElem? (i := 5) rfl)) rfl
theorem q2_7 : Cond.laysFinal RX6 RX6 "least" "[I" ∈ bw := bw_mem (tk_2 _ (List.mem_of_getElem? (i := 7) rfl)) rfl
theorem q2_10 : Cond.fieldLink RX10 12 "EvenDays" "told" "LEvenDays$Told;" ∈ bw := bw_mem (tk_2 _ (List.mem_of_getElem? (i := 10) rfl)) rfl
theorem q2_11 : Cond.fieldLink RX10 16 "EvenDays" "draft" "LEvenDays$Told;" ∈ bw := bw_mem (tk_2 _ (List.mem_of_getElem? (i := 11) rfl)) rfl
theorem q2_12 : Cond.fieldLink RX10 22 "EvenDays" "text" "LEvenDays$Text;" ∈ bw := bw_mem (tk_2 _ (List.mem_of_getElem? (i := 12) rfl)) rfl
theorem q2_13 : Cond.fieldLink RX10 31 "EvenDays" "lines" "LEvenDays$Lines;" ∈ bw := bw_mem (tk_2 _ (List.mem_of_getElem? (i := 13) rfl)) rfl
theorem q2_14 : Cond.fieldLink RX10 38 "EvenDays" "now" "LEvenDays$Days;" ∈ bw := bw_mem (tk_2 _ (List.mem_of_getElem? (i := 14) rfl)) rfl
theorem q2_15 : Cond.fieldLink RX10 42 "EvenDays" "kept" "[LEvenDays$Days;" ∈ bw := bw_mem (tk_2 _ (List.mem_of_getElem? (i := 15) rfl)) rfl
theorem q2_16 : Cond.fieldLink RX10 46 "EvenDays" "isKept" "[Z" ∈ bw := bw_mem (tk_2 _ (List.mem_of_getElem? (i := 16) rfl)) rfl
theorem q2_17 : Cond.fieldLink RX10 55 "EvenDays" "planner" "LEvenDays$Planner;" ∈ bw := bw_mem (tk_2 _ (List.mem_of_getElem? (i := 17) rfl)) rfl
theorem q2_18 : Cond.fieldLink RX10 62 "EvenDays" "messages" "LEvenDays$Messages;" ∈ bw := bw_mem (tk_2 _ (List.mem_of_getElem? (i := 18) rfl)) rfl
theorem q2_19 : Cond.fieldLink RX10 69 "EvenDays" "partners" "LEvenDays$Partners;" ∈ bw := bw_mem (tk_2 _ (List.mem_of_getElem? (i := 19) rfl)) rfl
theorem q2_20 : Cond.fieldLink RX10 76 "EvenDays" "marriages" "LEvenDays$Marriages;" ∈ bw := bw_mem (tk_2 _ (List.mem_of_getElem? (i := 20) rfl)) rfl
theorem q2_21 : Cond.fieldLink RX10 83 "EvenDays" "rows" "LEvenDays$Rows;" ∈ bw := bw_mem (tk_2 _ (List.mem_of_getElem? (i := 21) rfl)) rfl
theorem q2_22 : Cond.laysFinal RX10 RX10 "told" "LEvenDays$Told;" ∈ bw := bw_mem (tk_2 _ (List.mem_of_getElem? (i := 22) rfl)) rfl
theorem q2_24 : Cond.laysFinal RX10 RX10 "draft" "LEvenDays$Told;" ∈ bw := bw_mem (tk_2 _ (List.mem_of_getElem? (i := 24) rfl)) rfl
theorem q2_26 : Cond.laysFinal RX10 RX10 "text" "LEvenDays$Text;" ∈ bw := bw_mem (tk_2 _ (List.mem_of_getElem? (i := 26) rfl)) rfl
theorem q2_28 : Cond.laysFinal RX10 RX10 "lines" "LEvenDays$Lines;" ∈ bw := bw_mem (tk_2 _ (List.mem_of_getElem? (i := 28) rfl)) rfl
theorem q2_30 : Cond.laysFinal RX10 RX10 "now" "LEvenDays$Days;" ∈ bw := bw_mem (tk_2 _ (List.mem_of_getElem? (i := 30) rfl)) rfl
theorem q2_32 : Cond.laysFinal RX10 RX10 "kept" "[LEvenDays$Days;" ∈ bw := bw_mem (tk_2 _ (List.mem_of_getElem? (i := 32) rfl)) rfl
theorem q2_34 : Cond.laysFinal RX10 RX10 "isKept" "[Z" ∈ bw := bw_mem (tk_2 _ (List.mem_of_getElem? (i := 34) rfl)) rfl
theorem q2_36 : Cond.laysFinal RX10 RX10 "planner" "LEvenDays$Planner;" ∈ bw := bw_mem (tk_2 _ (List.mem_of_getElem? (i := 36) rfl)) rfl
theorem q2_38 : Cond.laysFinal RX10 RX10 "messages" "LEvenDays$Messages;" ∈ bw := bw_mem (tk_2 _ (List.mem_of_getElem? (i := 38) rfl)) rfl
theorem q2_40 : Cond.laysFinal RX10 RX10 "partners" "LEvenDays$Partners;" ∈ bw := bw_mem (tk_2 _ (List.mem_of_getElem? (i := 40) rfl)) rfl
theorem q2_42 : Cond.laysFinal RX10 RX10 "marriages" "LEvenDays$Marriages;" ∈ bw := bw_mem (tk_2 _ (List.mem_of_getElem? (i := 42) rfl)) rfl
theorem q2_44 : Cond.laysFinal RX10 RX10 "rows" "LEvenDays$Rows;" ∈ bw := bw_mem (tk_2 _ (List.mem_of_getElem? (i := 44) rfl)) rfl
theorem q2_47 : Cond.methodLink RL 15 yX10_write ∈ bw := bw_mem (tk_2 _ (List.mem_of_getElem? (i := 47) rfl)) rfl
theorem q2_48 : Cond.instanceMethod yX10_write ∈ bw := bw_mem (tk_2 _ (List.mem_of_getElem? (i := 48) rfl)) rfl
theorem q2_49 : Cond.selects RX10 yX10_write yX10_write ∈ bw := bw_mem (tk_2 _ (List.mem_of_getElem? (i := 49) rfl)) rfl
theorem q2_50 : Cond.code yX10_write cX10_write 4 (some .int) ∈ bw := bw_mem (tk_2 _ (List.mem_of_getElem? (i := 50) rfl)) rfl
theorem q2_51 : Cond.methodLink RX10 87 yX10_within ∈ bw := bw_mem (tk_2 _ (List.mem_of_getElem? (i := 51) rfl)) rfl
theorem q2_52 : Cond.static yX10_within ∈ bw := bw_mem (tk_2 _ (List.mem_of_getElem? (i := 52) rfl)) rfl
theorem q2_53 : Cond.code yX10_within cX10_within 3 (some .boolean) ∈ bw := bw_mem (tk_2 _ (List.mem_of_getElem? (i := 53) rfl)) rfl
theorem q2_54 : Cond.methodLink RX10 95 yX7_append ∈ bw := bw_mem (tk_2 _ (List.mem_of_getElem? (i := 54) rfl)) rfl
theorem q2_55 : Cond.instanceMethod yX7_append ∈ bw := bw_mem (tk_2 _ (List.mem_of_getElem? (i := 55) rfl)) rfl
theorem q2_56 : Cond.selects RX7 yX7_append yX7_append ∈ bw := bw_mem (tk_2 _ (List.mem_of_getElem? (i := 56) rfl)) rfl
theorem q2_57 : Cond.code yX7_append cX7_append 5 none ∈ bw := bw_mem (tk_2 _ (List.mem_of_getElem? (i := 57) rfl)) rfl
theorem q2_59 : Cond.constantLong RX7 23 (255) ∈ bw := bw_mem (tk_2 _ (List.mem_of_getElem? (i := 59) rfl)) rfl
theorem q2_60 : Cond.methodLink RL 20 yX10_erase ∈ bw := bw_mem (tk_2 _ (List.mem_of_getElem? (i := 60) rfl)) rfl
theorem q2_61 : Cond.instanceMethod yX10_erase ∈ bw := bw_mem (tk_2 _ (List.mem_of_getElem? (i := 61) rfl)) rfl
theorem q2_62 : Cond.selects RX10 yX10_erase yX10_erase ∈ bw := bw_mem (tk_2 _ (List.mem_of_getElem? (i := 62) rfl)) rfl
theorem q2_63 : Cond.code yX10_erase cX10_erase 2 (some .int) ∈ bw := bw_mem (tk_2 _ (List.mem_of_getElem? (i := 63) rfl)) rfl
theorem q2_64 : Cond.methodLink RL 25 yX10_fault ∈ bw := bw_mem (tk_2 _ (List.mem_of_getElem? (i := 64) rfl)) rfl
theorem q2_65 : Cond.instanceMethod yX10_fault ∈ bw := bw_mem (tk_2 _ (List.mem_of_getElem? (i := 65) rfl)) rfl
theorem q2_66 : Cond.selects RX10 yX10_fault yX10_fault ∈ bw := bw_mem (tk_2 _ (List.mem_of_getElem? (i := 66) rfl)) rfl
theorem q2_67 : Cond.code yX10_fault cX10_fault 1 (some .int) ∈ bw := bw_mem (tk_2 _ (List.mem_of_getElem? (i := 67) rfl)) rfl
theorem q2_68 : Cond.methodLink RX10 99 yX9_becomeLike ∈ bw := bw_mem (tk_2 _ (List.mem_of_getElem? (i := 68) rfl)) rfl
theorem q2_69 : Cond.instanceMethod yX9_becomeLike ∈ bw := bw_mem (tk_2 _ (List.mem_of_getElem? (i := 69) rfl)) rfl
theorem q2_70 : Cond.selects RX9 yX9_becomeLike yX9_becomeLike ∈ bw := bw_mem (tk_2 _ (List.mem_of_getElem? (i := 70) rfl)) rfl
theorem q2_71 : Cond.code yX9_becomeLike cX9_becomeLike 3 none ∈ bw := bw_mem (tk_2 _ (List.mem_of_getElem? (i := 71) rfl)) rfl
theorem q2_72 : Cond.methodLink RX10 102 yX1_readInto ∈ bw := bw_mem (tk_2 _ (List.mem_of_getElem? (i := 72) rfl)) rfl
theorem q2_73 : Cond.instanceMethod yX1_readInto ∈ bw := bw_mem (tk_2 _ (List.mem_of_getElem? (i := 73) rfl)) rfl
theorem q2_74 : Cond.selects RX1 yX1_readInto yX1_readInto ∈ bw := bw_mem (tk_2 _ (List.mem_of_getElem? (i := 74) rfl)) rfl
theorem q2_75 : Cond.code yX1_readInto cX1_readInto 3 (some .int) ∈ bw := bw_mem (tk_2 _ (List.mem_of_getElem? (i := 75) rfl)) rfl
theorem q2_76 : Cond.methodLink RX1 24 yX8_rewind ∈ bw := bw_mem (tk_2 _ (List.mem_of_getElem? (i := 76) rfl)) rfl
theorem q2_77 : Cond.instanceMethod yX8_rewind ∈ bw := bw_mem (tk_2 _ (List.mem_of_getElem? (i := 77) rfl)) rfl
theorem q2_78 : Cond.selects RX8 yX8_rewind yX8_rewind ∈ bw := bw_mem (tk_2 _ (List.mem_of_getElem? (i := 78) rfl)) rfl
theorem q2_79 : Cond.code yX8_rewind cX8_rewind 1 none ∈ bw := bw_mem (tk_2 _ (List.mem_of_getElem? (i := 79) rfl)) rfl
theorem q2_80 : Cond.methodLink RX8 19 yX8_advance ∈ bw := bw_mem (tk_2 _ (List.mem_of_getElem? (i := 80) rfl)) rfl
theorem q2_81 : Cond.instanceMethod yX8_advance ∈ bw := bw_mem (tk_2 _ (List.mem_of_getElem? (i := 81) rfl)) rfl
theorem q2_82 : Cond.selects RX8 yX8_advance yX8_advance ∈ bw := bw_mem (tk_2 _ (List.mem_of_getElem? (i := 82) rfl)) rfl
theorem q2_83 : Cond.code yX8_advance cX8_advance 1 none ∈ bw := bw_mem (tk_2 _ (List.mem_of_getElem? (i := 83) rfl)) rfl
theorem q2_84 : Cond.methodLink RX8 30 yX7_signAt ∈ bw := bw_mem (tk_2 _ (List.mem_of_getElem? (i := 84) rfl)) rfl
theorem q2_85 : Cond.instanceMethod yX7_signAt ∈ bw := bw_mem (tk_2 _ (List.mem_of_getElem? (i := 85) rfl)) rfl
theorem q2_86 : Cond.selects RX7 yX7_signAt yX7_signAt ∈ bw := bw_mem (tk_2 _ (List.mem_of_getElem? (i := 86) rfl)) rfl
theorem q2_87 : Cond.code yX7_signAt cX7_signAt 2 (some .int) ∈ bw := bw_mem (tk_2 _ (List.mem_of_getElem? (i := 87) rfl)) rfl
theorem q2_88 : Cond.methodLink RX8 34 yX8_kindOfSign ∈ bw := bw_mem (tk_2 _ (List.mem_of_getElem? (i := 88) rfl)) rfl
theorem q2_89 : Cond.static yX8_kindOfSign ∈ bw := bw_mem (tk_2 _ (List.mem_of_getElem? (i := 89) rfl)) rfl
theorem q2_90 : Cond.code yX8_kindOfSign cX8_kindOfSign 1 (some .int) ∈ bw := bw_mem (tk_2 _ (List.mem_of_getElem? (i := 90) rfl)) rfl
theorem q2_91 : Cond.methodLink RX1 27 yX1_readLine ∈ bw := bw_mem (tk_2 _ (List.mem_of_getElem? (i := 91) rfl)) rfl
theorem q2_93 : Cond.instanceMethod yX1_readLine ∈ bw := bw_mem (tk_2 _ (List.mem_of_getElem? (i := 93) rfl)) rfl
theorem q2_94 : Cond.code yX1_readLine cX1_readLine 2 none ∈ bw := bw_mem (tk_2 _ (List.mem_of_getElem? (i := 94) rfl)) rfl
theorem q2_96 : Cond.methodLink RX1 50 yX8_isWord ∈ bw := bw_mem (tk_2 _ (List.mem_of_getElem? (i := 96) rfl)) rfl
theorem q2_97 : Cond.instanceMethod yX8_isWord ∈ bw := bw_mem (tk_2 _ (List.mem_of_getElem? (i := 97) rfl)) rfl
theorem q2_98 : Cond.selects RX8 yX8_isWord yX8_isWord ∈ bw := bw_mem (tk_2 _ (List.mem_of_getElem? (i := 98) rfl)) rfl
theorem q2_99 : Cond.code yX8_isWord cX8_isWord 3 (some .boolean) ∈ bw := bw_mem (tk_2 _ (List.mem_of_getElem? (i := 99) rfl)) rfl
theorem q2_100 : Cond.methodLink RX8 40 yJ0_length_8abf5 ∈ bw := bw_mem (tk_2 _ (List.mem_of_getElem? (i := 100) rfl)) rfl
theorem q2_101 : Cond.instanceMethod yJ0_length_8abf5 ∈ bw := bw_mem (tk_2 _ (List.mem_of_getElem? (i := 101) rfl)) rfl
theorem q2_102 : Cond.selects RJ0 yJ0_length_8abf5 yJ0_length_8abf5 ∈ bw := bw_mem (tk_2 _ (List.mem_of_getElem? (i := 102) rfl)) rfl
theorem q2_103 : Cond.code yJ0_length_8abf5 cJ0_length_8abf5 1 (some .int) ∈ bw := bw_mem (tk_2 _ (List.mem_of_getElem? (i := 103) rfl)) rfl
theorem q2_104 : Cond.methodLink RJ0 335 yJ0_coder_7d493 ∈ bw := bw_mem (tk_2 _ (List.mem_of_getElem? (i := 104) rfl)) rfl
theorem q2_105 : Cond.instanceMethod yJ0_coder_7d493 ∈ bw := bw_mem (tk_2 _ (List.mem_of_getElem? (i := 105) rfl)) rfl
theorem q2_106 : Cond.selects RJ0 yJ0_coder_7d493 yJ0_coder_7d493 ∈ bw := bw_mem (tk_2 _ (List.mem_of_getElem? (i := 106) rfl)) rfl
theorem q2_107 : Cond.code yJ0_coder_7d493 cJ0_coder_7d493 1 (some .byte) ∈ bw := bw_mem (tk_2 _ (List.mem_of_getElem? (i := 107) rfl)) rfl
theorem q2_108 : Cond.fieldLink RJ0 38 "java/lang/String" "COMPACT_STRINGS" "Z" ∈ bw := bw_mem (tk_2 _ (List.mem_of_getElem? (i := 108) rfl)) rfl
theorem q2_110 : Cond.methodLink RX8 45 yJ0_charAt_5068e ∈ bw := bw_mem (tk_2 _ (List.mem_of_getElem? (i := 110) rfl)) rfl
theorem q2_111 : Cond.instanceMethod yJ0_charAt_5068e ∈ bw := bw_mem (tk_2 _ (List.mem_of_getElem? (i := 111) rfl)) rfl
theorem q2_112 : Cond.selects RJ0 yJ0_charAt_5068e yJ0_charAt_5068e ∈ bw := bw_mem (tk_2 _ (List.mem_of_getElem? (i := 112) rfl)) rfl
theorem q2_113 : Cond.code yJ0_charAt_5068e cJ0_charAt_5068e 2 (some .char) ∈ bw := bw_mem (tk_2 _ (List.mem_of_getElem? (i := 113) rfl)) rfl
theorem q2_114 : Cond.methodLink RJ0 492 yJ0_isLatin1_aae02 ∈ bw := bw_mem (tk_2 _ (List.mem_of_getElem? (i := 114) rfl)) rfl
theorem q2_115 : Cond.instanceMethod yJ0_isLatin1_aae02 ∈ bw := bw_mem (tk_2 _ (List.mem_of_getElem? (i := 115) rfl)) rfl
theorem q2_116 : Cond.selects RJ0 yJ0_isLatin1_aae02 yJ0_isLatin1_aae02 ∈ bw := bw_mem (tk_2 _ (List.mem_of_getElem? (i := 116) rfl)) rfl
theorem q2_117 : Cond.code yJ0_isLatin1_aae02 cJ0_isLatin1_aae02 1 (some .boolean) ∈ bw := bw_mem (tk_2 _ (List.mem_of_getElem? (i := 117) rfl)) rfl
theorem q2_118 : Cond.methodLink RJ0 495 yJ1_charAt_3b067 ∈ bw := bw_mem (tk_2 _ (List.mem_of_getElem? (i := 118) rfl)) rfl
theorem q2_119 : Cond.static yJ1_charAt_3b067 ∈ bw := bw_mem (tk_2 _ (List.mem_of_getElem? (i := 119) rfl)) rfl
theorem q2_120 : Cond.code yJ1_charAt_3b067 cJ1_charAt_3b067 2 (some .char) ∈ bw := bw_mem (tk_2 _ (List.mem_of_getElem? (i := 120) rfl)) rfl
theorem q2_121 : Cond.methodLink RJ1 9 yJ0_checkIndex_df160 ∈ bw := bw_mem (tk_2 _ (List.mem_of_getElem? (i := 121) rfl)) rfl
theorem q2_122 : Cond.static yJ0_checkIndex_df160 ∈ bw := bw_mem (tk_2 _ (List.mem_of_getElem? (i := 122) rfl)) rfl
theorem q2_123 : Cond.code yJ0_checkIndex_df160 cJ0_checkIndex_df160 2 none ∈ bw := bw_mem (tk_2 _ (List.mem_of_getElem? (i := 123) rfl)) rfl
theorem q2_124 : Cond.fieldLink RJ0 1053 "jdk/internal/util/Preconditions" "SIOOBE_FORMATTER" "Ljava/util/function/BiFunction;" ∈ bw := bw_mem (tk_2 _ (List.mem_of_getElem? (i := 124) rfl)) rfl
theorem q2_126 : Cond.methodLink RJ0 1059 yJ3_checkIndex_8e157 ∈ bw := bw_mem (tk_2 _ (List.mem_of_getElem? (i := 126) rfl)) rfl
theorem q2_127 : Cond.static yJ3_checkIndex_8e157 ∈ bw := bw_mem (tk_2 _ (List.mem_of_getElem? (i := 127) rfl)) rfl
theorem q2_128 : Cond.code yJ3_checkIndex_8e157 cJ3_checkIndex_8e157 3 (some .int) ∈ bw := bw_mem (tk_2 _ (List.mem_of_getElem? (i := 128) rfl)) rfl
theorem q2_148 : Cond.methodLink RX1 54 yX1_readTreaty ∈ bw := bw_mem (tk_2 _ (List.mem_of_getElem? (i := 148) rfl)) rfl
theorem q2_150 : Cond.instanceMethod yX1_readTreaty ∈ bw := bw_mem (tk_2 _ (List.mem_of_getElem? (i := 150) rfl)) rfl
theorem q2_151 : Cond.code yX1_readTreaty cX1_readTreaty 4 none ∈ bw := bw_mem (tk_2 _ (List.mem_of_getElem? (i := 151) rfl)) rfl
theorem q2_152 : Cond.methodLink RX1 45 yX8_advance ∈ bw := bw_mem (tk_2 _ (List.mem_of_getElem? (i := 152) rfl)) rfl
theorem q2_153 : Cond.methodLink RX1 82 yX1_takeNumber ∈ bw := bw_mem (tk_2 _ (List.mem_of_getElem? (i := 153) rfl)) rfl
theorem q2_155 : Cond.instanceMethod yX1_takeNumber ∈ bw := bw_mem (tk_2 _ (List.mem_of_getElem? (i := 155) rfl)) rfl
theorem q2_156 : Cond.code yX1_takeNumber cX1_takeNumber 4 (some .int) ∈ bw := bw_mem (tk_2 _ (List.mem_of_getElem? (i := 156) rfl)) rfl
theorem q2_157 : Cond.methodLink RX1 123 yX8_number ∈ bw := bw_mem (tk_2 _ (List.mem_of_getElem? (i := 157) rfl)) rfl
theorem q2_158 : Cond.instanceMethod yX8_number ∈ bw := bw_mem (tk_2 _ (List.mem_of_getElem? (i := 158) rfl)) rfl
theorem q2_159 : Cond.selects RX8 yX8_number yX8_number ∈ bw := bw_mem (tk_2 _ (List.mem_of_getElem? (i := 159) rfl)) rfl
theorem q2_160 : Cond.code yX8_number cX8_number 3 (some .int) ∈ bw := bw_mem (tk_2 _ (List.mem_of_getElem? (i := 160) rfl)) rfl
theorem q2_161 : Cond.constant RX8 49 (1000000) ∈ bw := bw_mem (tk_2 _ (List.mem_of_getElem? (i := 161) rfl)) rfl
theorem q2_163 : Cond.methodLink RX1 86 yX9_settle ∈ bw := bw_mem (tk_2 _ (List.mem_of_getElem? (i := 163) rfl)) rfl
theorem q2_165 : Cond.methodLink RX1 59 yX1_readWork ∈ bw := bw_mem (tk_2 _ (List.mem_of_getElem? (i := 165) rfl)) rfl
theorem q2_167 : Cond.instanceMethod yX1_readWork ∈ bw := bw_mem (tk_2 _ (List.mem_of_getElem? (i := 167) rfl)) rfl
theorem q2_168 : Cond.code yX1_readWork cX1_readWork 7 none ∈ bw := bw_mem (tk_2 _ (List.mem_of_getElem? (i := 168) rfl)) rfl
theorem q2_169 : Cond.methodLink RX1 92 yX9_tellWork ∈ bw := bw_mem (tk_2 _ (List.mem_of_getElem? (i := 169) rfl)) rfl
theorem q2_170 : Cond.instanceMethod yX9_tellWork ∈ bw := bw_mem (tk_2 _ (List.mem_of_getElem? (i := 170) rfl)) rfl
theorem q2_171 : Cond.selects RX9 yX9_tellWork yX9_tellWork ∈ bw := bw_mem (tk_2 _ (List.mem_of_getElem? (i := 171) rfl)) rfl
theorem q2_172 : Cond.code yX9_tellWork cX9_tellWork 4 none ∈ bw := bw_mem (tk_2 _ (List.mem_of_getElem? (i := 172) rfl)) rfl
theorem q2_173 : Cond.methodLink RX1 96 yX9_tellBread ∈ bw := bw_mem (tk_2 _ (List.mem_of_getElem? (i := 173) rfl)) rfl
theorem q2_174 : Cond.instanceMethod yX9_tellBread ∈ bw := bw_mem (tk_2 _ (List.mem_of_getElem? (i := 174) rfl)) rfl
theorem q2_175 : Cond.selects RX9 yX9_tellBread yX9_tellBread ∈ bw := bw_mem (tk_2 _ (List.mem_of_getElem? (i := 175) rfl)) rfl
theorem q2_176 : Cond.code yX9_tellBread cX9_tellBread 4 none ∈ bw := bw_mem (tk_2 _ (List.mem_of_getElem? (i := 176) rfl)) rfl
theorem q2_178 : Cond.methodLink RX1 64 yX1_readKind ∈ bw := bw_mem (tk_2 _ (List.mem_of_getElem? (i := 178) rfl)) rfl
theorem q2_180 : Cond.instanceMethod yX1_readKind ∈ bw := bw_mem (tk_2 _ (List.mem_of_getElem? (i := 180) rfl)) rfl
theorem q2_181 : Cond.code yX1_readKind cX1_readKind 4 none ∈ bw := bw_mem (tk_2 _ (List.mem_of_getElem? (i := 181) rfl)) rfl
theorem q2_182 : Cond.methodLink RX1 102 yX9_tellKind ∈ bw := bw_mem (tk_2 _ (List.mem_of_getElem? (i := 182) rfl)) rfl
theorem q2_183 : Cond.instanceMethod yX9_tellKind ∈ bw := bw_mem (tk_2 _ (List.mem_of_getElem? (i := 183) rfl)) rfl
theorem q2_184 : Cond.selects RX9 yX9_tellKind yX9_tellKind ∈ bw := bw_mem (tk_2 _ (List.mem_of_getElem? (i := 184) rfl)) rfl
theorem q2_185 : Cond.code yX9_tellKind cX9_tellKind 3 none ∈ bw := bw_mem (tk_2 _ (List.mem_of_getElem? (i := 185) rfl)) rfl
theorem q2_186 : Cond.methodLink RX9 50 yX9_hasPair ∈ bw := bw_mem (tk_2 _ (List.mem_of_getElem? (i := 186) rfl)) rfl
theorem q2_187 : Cond.instanceMethod yX9_hasPair ∈ bw := bw_mem (tk_2 _ (List.mem_of_getElem? (i := 187) rfl)) rfl
theorem q2_188 : Cond.selects RX9 yX9_hasPair yX9_hasPair ∈ bw := bw_mem (tk_2 _ (List.mem_of_getElem? (i := 188) rfl)) rfl
theorem q2_189 : Cond.code yX9_hasPair cX9_hasPair 2 (some .boolean) ∈ bw := bw_mem (tk_2 _ (List.mem_of_getElem? (i := 189) rfl)) rfl
theorem q2_192 : Cond.methodLink RX1 69 yX1_readMeant ∈ bw := bw_mem (tk_2 _ (List.mem_of_getElem? (i := 192) rfl)) rfl
theorem q2_194 : Cond.instanceMethod yX1_readMeant ∈ bw := bw_mem (tk_2 _ (List.mem_of_getElem? (i := 194) rfl)) rfl
theorem q2_195 : Cond.code yX1_readMeant cX1_readMeant 8 none ∈ bw := bw_mem (tk_2 _ (List.mem_of_getElem? (i := 195) rfl)) rfl
theorem q2_196 : Cond.methodLink RX1 108 yX9_canBeDone ∈ bw := bw_mem (tk_2 _ (List.mem_of_getElem? (i := 196) rfl)) rfl
theorem q2_197 : Cond.instanceMethod yX9_canBeDone ∈ bw := bw_mem (tk_2 _ (List.mem_of_getElem? (i := 197) rfl)) rfl
theorem q2_198 : Cond.selects RX9 yX9_canBeDone yX9_canBeDone ∈ bw := bw_mem (tk_2 _ (List.mem_of_getElem? (i := 198) rfl)) rfl
theorem q2_199 : Cond.code yX9_canBeDone cX9_canBeDone 3 (some .boolean) ∈ bw := bw_mem (tk_2 _ (List.mem_of_getElem? (i := 199) rfl)) rfl
theorem q2_200 : Cond.methodLink RX9 62 yX9_breadOf ∈ bw := bw_mem (tk_2 _ (List.mem_of_getElem? (i := 200) rfl)) rfl
theorem q2_201 : Cond.instanceMethod yX9_breadOf ∈ bw := bw_mem (tk_2 _ (List.mem_of_getElem? (i := 201) rfl)) rfl
theorem q2_202 : Cond.selects RX9 yX9_breadOf yX9_breadOf ∈ bw := bw_mem (tk_2 _ (List.mem_of_getElem? (i := 202) rfl)) rfl
theorem q2_203 : Cond.code yX9_breadOf cX9_breadOf 4 (some .int) ∈ bw := bw_mem (tk_2 _ (List.mem_of_getElem? (i := 203) rfl)) rfl
theorem q2_205 : Cond.static yX10_slotIndex ∈ bw := bw_mem (tk_2 _ (List.mem_of_getElem? (i := 205) rfl)) rfl
theorem q2_206 : Cond.code yX10_slotIndex cX10_slotIndex 3 (some .int) ∈ bw := bw_mem (tk_2 _ (List.mem_of_getElem? (i := 206) rfl)) rfl
theorem q2_207 : Cond.methodLink RX10 263 yX10_personIndex ∈ bw := bw_mem (tk_2 _ (List.mem_of_getElem? (i := 207) rfl)) rfl
theorem q2_208 : Cond.static yX10_personIndex ∈ bw := bw_mem (tk_2 _ (List.mem_of_getElem? (i := 208) rfl)) rfl
theorem q2_209 : Cond.code yX10_personIndex cX10_personIndex 2 (some .int) ∈ bw := bw_mem (tk_2 _ (List.mem_of_getElem? (i := 209) rfl)) rfl
theorem q2_210 : Cond.methodLink RX1 116 yX9_tellMeant ∈ bw := bw_mem (tk_2 _ (List.mem_of_getElem? (i := 210) rfl)) rfl
theorem q2_211 : Cond.instanceMethod yX9_tellMeant ∈ bw := bw_mem (tk_2 _ (List.mem_of_getElem? (i := 211) rfl)) rfl
theorem q2_212 : Cond.selects RX9 yX9_tellMeant yX9_tellMeant ∈ bw := bw_mem (tk_2 _ (List.mem_of_getElem? (i := 212) rfl)) rfl
theorem q2_213 : Cond.code yX9_tellMeant cX9_tellMeant 5 none ∈ bw := bw_mem (tk_2 _ (List.mem_of_getElem? (i := 213) rfl)) rfl
theorem q2_215 : Cond.methodLink RX1 74 yX1_readEats ∈ bw := bw_mem (tk_2 _ (List.mem_of_getElem? (i := 215) rfl)) rfl
theorem q2_217 : Cond.instanceMethod yX1_readEats ∈ bw := bw_mem (tk_2 _ (List.mem_of_getElem? (i := 217) rfl)) rfl
theorem q2_218 : Cond.code yX1_readEats cX1_readEats 3 none ∈ bw := bw_mem (tk_2 _ (List.mem_of_getElem? (i := 218) rfl)) rfl
theorem q2_220 : Cond.methodLink RX1 79 yX1_readFine ∈ bw := bw_mem (tk_2 _ (List.mem_of_getElem? (i := 220) rfl)) rfl
theorem q2_222 : Cond.instanceMethod yX1_readFine ∈ bw := bw_mem (tk_2 _ (List.mem_of_getElem? (i := 222) rfl)) rfl
theorem q2_223 : Cond.code yX1_readFine cX1_readFine 3 none ∈ bw := bw_mem (tk_2 _ (List.mem_of_getElem? (i := 223) rfl)) rfl
theorem q2_224 : Cond.methodLink RX1 34 yX8_isEnd ∈ bw := bw_mem (tk_2 _ (List.mem_of_getElem? (i := 224) rfl)) rfl
theorem q2_225 : Cond.instanceMethod yX8_isEnd ∈ bw := bw_mem (tk_2 _ (List.mem_of_getElem? (i := 225) rfl)) rfl
theorem q2_226 : Cond.selects RX8 yX8_isEnd yX8_isEnd ∈ bw := bw_mem (tk_2 _ (List.mem_of_getElem? (i := 226) rfl)) rfl
theorem q2_227 : Cond.code yX8_isEnd cX8_isEnd 1 (some .boolean) ∈ bw := bw_mem (tk_2 _ (List.mem_of_getElem? (i := 227) rfl)) rfl
theorem q2_228 : Cond.methodLink RX1 38 yX8_isSign ∈ bw := bw_mem (tk_2 _ (List.mem_of_getElem? (i := 228) rfl)) rfl
theorem q2_229 : Cond.instanceMethod yX8_isSign ∈ bw := bw_mem (tk_2 _ (List.mem_of_getElem? (i := 229) rfl)) rfl
theorem q2_230 : Cond.selects RX8 yX8_isSign yX8_isSign ∈ bw := bw_mem (tk_2 _ (List.mem_of_getElem? (i := 230) rfl)) rfl
theorem q2_231 : Cond.code yX8_isSign cX8_isSign 2 (some .boolean) ∈ bw := bw_mem (tk_2 _ (List.mem_of_getElem? (i := 231) rfl)) rfl
theorem q2_233 : Cond.methodLink RL 29 yX10_treaty ∈ bw := bw_mem (tk_2 _ (List.mem_of_getElem? (i := 233) rfl)) rfl
theorem q2_234 : Cond.instanceMethod yX10_treaty ∈ bw := bw_mem (tk_2 _ (List.mem_of_getElem? (i := 234) rfl)) rfl
theorem q2_235 : Cond.selects RX10 yX10_treaty yX10_treaty ∈ bw := bw_mem (tk_2 _ (List.mem_of_getElem? (i := 235) rfl)) rfl
theorem q2_236 : Cond.code yX10_treaty cX10_treaty 2 (some .int) ∈ bw := bw_mem (tk_2 _ (List.mem_of_getElem? (i := 236) rfl)) rfl
theorem q2_237 : Cond.methodLink RX10 106 yX0_beginAnew ∈ bw := bw_mem (tk_2 _ (List.mem_of_getElem? (i := 237) rfl)) rfl
theorem q2_238 : Cond.methodLink RX10 109 yX5_forget ∈ bw := bw_mem (tk_2 _ (List.mem_of_getElem? (i := 238) rfl)) rfl
theorem q2_239 : Cond.instanceMethod yX5_forget ∈ bw := bw_mem (tk_2 _ (List.mem_of_getElem? (i := 239) rfl)) rfl
theorem q3_0 : Cond.selects RX5 yX5_forget yX5_forget ∈ bw := bw_mem (tk_3 _ (List.mem_of_getElem? (i := 0) rfl)) rfl
theorem q3_1 : Cond.code yX5_forget cX5_forget 1 none ∈ bw := bw_mem (tk_3 _ (List.mem_of_getElem? (i := 1) rfl)) rfl
theorem q3_2 : Cond.methodLink RL 33 yX10_work ∈ bw := bw_mem (tk_3 _ (List.mem_of_getElem? (i := 2) rfl)) rfl
theorem q3_3 : Cond.instanceMethod yX10_work ∈ bw := bw_mem (tk_3 _ (List.mem_of_getElem? (i := 3) rfl)) rfl
theorem q3_4 : Cond.selects RX10 yX10_work yX10_work ∈ bw := bw_mem (tk_3 _ (List.mem_of_getElem? (i := 4) rfl)) rfl
theorem q3_5 : Cond.code yX10_work cX10_work 3 (some .int) ∈ bw := bw_mem (tk_3 _ (List.mem_of_getElem? (i := 5) rfl)) rfl
theorem q3_6 : Cond.methodLink RX10 115 yX9_classOf ∈ bw := bw_mem (tk_3 _ (List.mem_of_getElem? (i := 6) rfl)) rfl
theorem q3_7 : Cond.instanceMethod yX9_classOf ∈ bw := bw_mem (tk_3 _ (List.mem_of_getElem? (i := 7) rfl)) rfl
theorem q3_8 : Cond.selects RX9 yX9_classOf yX9_classOf ∈ bw := bw_mem (tk_3 _ (List.mem_of_getElem? (i := 8) rfl)) rfl
theorem q3_9 : Cond.code yX9_classOf cX9_classOf 2 (some .int) ∈ bw := bw_mem (tk_3 _ (List.mem_of_getElem? (i := 9) rfl)) rfl
theorem q3_10 : Cond.methodLink RX10 119 yX9_breadOf ∈ bw := bw_mem (tk_3 _ (List.mem_of_getElem? (i := 10) rfl)) rfl
theorem q3_11 : Cond.methodLink RX10 123 yX9_worthOf ∈ bw := bw_mem (tk_3 _ (List.mem_of_getElem? (i := 11) rfl)) rfl
theorem q3_12 : Cond.instanceMethod yX9_worthOf ∈ bw := bw_mem (tk_3 _ (List.mem_of_getElem? (i := 12) rfl)) rfl
theorem q3_13 : Cond.selects RX9 yX9_worthOf yX9_worthOf ∈ bw := bw_mem (tk_3 _ (List.mem_of_getElem? (i := 13) rfl)) rfl
theorem q3_14 : Cond.code yX9_worthOf cX9_worthOf 2 (some .int) ∈ bw := bw_mem (tk_3 _ (List.mem_of_getElem? (i := 14) rfl)) rfl
theorem q3_15 : Cond.methodLink RL 38 yX10_meant ∈ bw := bw_mem (tk_3 _ (List.mem_of_getElem? (i := 15) rfl)) rfl
theorem q3_16 : Cond.instanceMethod yX10_meant ∈ bw := bw_mem (tk_3 _ (List.mem_of_getElem? (i := 16) rfl)) rfl
theorem q3_17 : Cond.selects RX10 yX10_meant yX10_meant ∈ bw := bw_mem (tk_3 _ (List.mem_of_getElem? (i := 17) rfl)) rfl
theorem q3_18 : Cond.code yX10_meant cX10_meant 5 (some .int) ∈ bw := bw_mem (tk_3 _ (List.mem_of_getElem? (i := 18) rfl)) rfl
theorem q3_19 : Cond.methodLink RX10 126 yX10_isSlot ∈ bw := bw_mem (tk_3 _ (List.mem_of_getElem? (i := 19) rfl)) rfl
theorem q3_21 : Cond.instanceMethod yX10_isSlot ∈ bw := bw_mem (tk_3 _ (List.mem_of_getElem? (i := 21) rfl)) rfl
theorem q3_22 : Cond.code yX10_isSlot cX10_isSlot 4 (some .boolean) ∈ bw := bw_mem (tk_3 _ (List.mem_of_getElem? (i := 22) rfl)) rfl
theorem q3_23 : Cond.methodLink RX10 141 yX10_isPerson ∈ bw := bw_mem (tk_3 _ (List.mem_of_getElem? (i := 23) rfl)) rfl
theorem q3_25 : Cond.instanceMethod yX10_isPerson ∈ bw := bw_mem (tk_3 _ (List.mem_of_getElem? (i := 25) rfl)) rfl
theorem q3_26 : Cond.code yX10_isPerson cX10_isPerson 3 (some .boolean) ∈ bw := bw_mem (tk_3 _ (List.mem_of_getElem? (i := 26) rfl)) rfl
theorem q3_27 : Cond.methodLink RX10 170 yX10_isValley ∈ bw := bw_mem (tk_3 _ (List.mem_of_getElem? (i := 27) rfl)) rfl
theorem q3_28 : Cond.static yX10_isValley ∈ bw := bw_mem (tk_3 _ (List.mem_of_getElem? (i := 28) rfl)) rfl
theorem q3_29 : Cond.code yX10_isValley cX10_isValley 1 (some .boolean) ∈ bw := bw_mem (tk_3 _ (List.mem_of_getElem? (i := 29) rfl)) rfl
theorem q3_30 : Cond.methodLink RX10 179 yX9_hasPair ∈ bw := bw_mem (tk_3 _ (List.mem_of_getElem? (i := 30) rfl)) rfl
theorem q3_31 : Cond.methodLink RX10 260 yX9_hasHour ∈ bw := bw_mem (tk_3 _ (List.mem_of_getElem? (i := 31) rfl)) rfl
theorem q3_32 : Cond.instanceMethod yX9_hasHour ∈ bw := bw_mem (tk_3 _ (List.mem_of_getElem? (i := 32) rfl)) rfl
theorem q3_33 : Cond.selects RX9 yX9_hasHour yX9_hasHour ∈ bw := bw_mem (tk_3 _ (List.mem_of_getElem? (i := 33) rfl)) rfl
theorem q3_34 : Cond.code yX9_hasHour cX9_hasHour 2 (some .boolean) ∈ bw := bw_mem (tk_3 _ (List.mem_of_getElem? (i := 34) rfl)) rfl
theorem q3_35 : Cond.methodLink RX10 129 yX9_meantOn ∈ bw := bw_mem (tk_3 _ (List.mem_of_getElem? (i := 35) rfl)) rfl
theorem q3_36 : Cond.instanceMethod yX9_meantOn ∈ bw := bw_mem (tk_3 _ (List.mem_of_getElem? (i := 36) rfl)) rfl
theorem q3_37 : Cond.selects RX9 yX9_meantOn yX9_meantOn ∈ bw := bw_mem (tk_3 _ (List.mem_of_getElem? (i := 37) rfl)) rfl
theorem q3_38 : Cond.code yX9_meantOn cX9_meantOn 6 (some .int) ∈ bw := bw_mem (tk_3 _ (List.mem_of_getElem? (i := 38) rfl)) rfl
theorem q3_40 : Cond.methodLink RL 43 yX10_done ∈ bw := bw_mem (tk_3 _ (List.mem_of_getElem? (i := 40) rfl)) rfl
theorem q3_41 : Cond.instanceMethod yX10_done ∈ bw := bw_mem (tk_3 _ (List.mem_of_getElem? (i := 41) rfl)) rfl
theorem q3_42 : Cond.selects RX10 yX10_done yX10_done ∈ bw := bw_mem (tk_3 _ (List.mem_of_getElem? (i := 42) rfl)) rfl
theorem q3_43 : Cond.code yX10_done cX10_done 5 (some .int) ∈ bw := bw_mem (tk_3 _ (List.mem_of_getElem? (i := 43) rfl)) rfl
theorem q3_44 : Cond.methodLink RX10 133 yX9_canBeDone ∈ bw := bw_mem (tk_3 _ (List.mem_of_getElem? (i := 44) rfl)) rfl
theorem q3_45 : Cond.methodLink RX10 137 yX0_tellOtherwise ∈ bw := bw_mem (tk_3 _ (List.mem_of_getElem? (i := 45) rfl)) rfl
theorem q3_46 : Cond.instanceMethod yX0_tellOtherwise ∈ bw := bw_mem (tk_3 _ (List.mem_of_getElem? (i := 46) rfl)) rfl
theorem q3_47 : Cond.selects RX0 yX0_tellOtherwise yX0_tellOtherwise ∈ bw := bw_mem (tk_3 _ (List.mem_of_getElem? (i := 47) rfl)) rfl
theorem q3_48 : Cond.code yX0_tellOtherwise cX0_tellOtherwise 6 none ∈ bw := bw_mem (tk_3 _ (List.mem_of_getElem? (i := 48) rfl)) rfl
theorem q3_51 : Cond.methodLink RL 47 yX10_ill ∈ bw := bw_mem (tk_3 _ (List.mem_of_getElem? (i := 51) rfl)) rfl
theorem q3_52 : Cond.instanceMethod yX10_ill ∈ bw := bw_mem (tk_3 _ (List.mem_of_getElem? (i := 52) rfl)) rfl
theorem q3_53 : Cond.selects RX10 yX10_ill yX10_ill ∈ bw := bw_mem (tk_3 _ (List.mem_of_getElem? (i := 53) rfl)) rfl
theorem q3_54 : Cond.code yX10_ill cX10_ill 5 (some .int) ∈ bw := bw_mem (tk_3 _ (List.mem_of_getElem? (i := 54) rfl)) rfl
theorem q3_55 : Cond.methodLink RX10 144 yX0_isIll ∈ bw := bw_mem (tk_3 _ (List.mem_of_getElem? (i := 55) rfl)) rfl
theorem q3_56 : Cond.instanceMethod yX0_isIll ∈ bw := bw_mem (tk_3 _ (List.mem_of_getElem? (i := 56) rfl)) rfl
theorem q3_57 : Cond.selects RX0 yX0_isIll yX0_isIll ∈ bw := bw_mem (tk_3 _ (List.mem_of_getElem? (i := 57) rfl)) rfl
theorem q3_58 : Cond.code yX0_isIll cX0_isIll 3 (some .boolean) ∈ bw := bw_mem (tk_3 _ (List.mem_of_getElem? (i := 58) rfl)) rfl
theorem q3_60 : Cond.methodLink RX10 147 yX0_tellIll ∈ bw := bw_mem (tk_3 _ (List.mem_of_getElem? (i := 60) rfl)) rfl
theorem q3_61 : Cond.instanceMethod yX0_tellIll ∈ bw := bw_mem (tk_3 _ (List.mem_of_getElem? (i := 61) rfl)) rfl
theorem q3_62 : Cond.selects RX0 yX0_tellIll yX0_tellIll ∈ bw := bw_mem (tk_3 _ (List.mem_of_getElem? (i := 62) rfl)) rfl
theorem q3_63 : Cond.code yX0_tellIll cX0_tellIll 5 none ∈ bw := bw_mem (tk_3 _ (List.mem_of_getElem? (i := 63) rfl)) rfl
theorem q3_64 : Cond.methodLink RL 52 yX10_days ∈ bw := bw_mem (tk_3 _ (List.mem_of_getElem? (i := 64) rfl)) rfl
theorem q3_65 : Cond.instanceMethod yX10_days ∈ bw := bw_mem (tk_3 _ (List.mem_of_getElem? (i := 65) rfl)) rfl
theorem q3_66 : Cond.selects RX10 yX10_days yX10_days ∈ bw := bw_mem (tk_3 _ (List.mem_of_getElem? (i := 66) rfl)) rfl
theorem q3_67 : Cond.code yX10_days cX10_days 3 (some .int) ∈ bw := bw_mem (tk_3 _ (List.mem_of_getElem? (i := 67) rfl)) rfl
theorem q3_68 : Cond.methodLink RX10 151 yX0_passOne ∈ bw := bw_mem (tk_3 _ (List.mem_of_getElem? (i := 68) rfl)) rfl
theorem q3_69 : Cond.instanceMethod yX0_passOne ∈ bw := bw_mem (tk_3 _ (List.mem_of_getElem? (i := 69) rfl)) rfl
theorem q3_70 : Cond.selects RX0 yX0_passOne yX0_passOne ∈ bw := bw_mem (tk_3 _ (List.mem_of_getElem? (i := 70) rfl)) rfl
theorem q3_71 : Cond.code yX0_passOne cX0_passOne 4 none ∈ bw := bw_mem (tk_3 _ (List.mem_of_getElem? (i := 71) rfl)) rfl
theorem q3_72 : Cond.methodLink RX0 86 yX0_makeBread ∈ bw := bw_mem (tk_3 _ (List.mem_of_getElem? (i := 72) rfl)) rfl
theorem q3_74 : Cond.instanceMethod yX0_makeBread ∈ bw := bw_mem (tk_3 _ (List.mem_of_getElem? (i := 74) rfl)) rfl
theorem q3_75 : Cond.code yX0_makeBread cX0_makeBread 5 none ∈ bw := bw_mem (tk_3 _ (List.mem_of_getElem? (i := 75) rfl)) rfl
theorem q3_76 : Cond.methodLink RX0 73 yX0_workOf ∈ bw := bw_mem (tk_3 _ (List.mem_of_getElem? (i := 76) rfl)) rfl
theorem q3_77 : Cond.instanceMethod yX0_workOf ∈ bw := bw_mem (tk_3 _ (List.mem_of_getElem? (i := 77) rfl)) rfl
theorem q3_78 : Cond.selects RX0 yX0_workOf yX0_workOf ∈ bw := bw_mem (tk_3 _ (List.mem_of_getElem? (i := 78) rfl)) rfl
theorem q3_79 : Cond.code yX0_workOf cX0_workOf 6 (some .int) ∈ bw := bw_mem (tk_3 _ (List.mem_of_getElem? (i := 79) rfl)) rfl
theorem q3_80 : Cond.methodLink RX0 65 yX0_isIll ∈ bw := bw_mem (tk_3 _ (List.mem_of_getElem? (i := 80) rfl)) rfl
theorem q3_81 : Cond.methodLink RX0 52 yX0_toldFor ∈ bw := bw_mem (tk_3 _ (List.mem_of_getElem? (i := 81) rfl)) rfl
theorem q3_83 : Cond.instanceMethod yX0_toldFor ∈ bw := bw_mem (tk_3 _ (List.mem_of_getElem? (i := 83) rfl)) rfl
theorem q3_84 : Cond.code yX0_toldFor cX0_toldFor 5 (some .int) ∈ bw := bw_mem (tk_3 _ (List.mem_of_getElem? (i := 84) rfl)) rfl
theorem q3_85 : Cond.methodLink RX0 55 yX0_odd ∈ bw := bw_mem (tk_3 _ (List.mem_of_getElem? (i := 85) rfl)) rfl
theorem q3_87 : Cond.instanceMethod yX0_odd ∈ bw := bw_mem (tk_3 _ (List.mem_of_getElem? (i := 87) rfl)) rfl
theorem q3_88 : Cond.code yX0_odd cX0_odd 1 (some .int) ∈ bw := bw_mem (tk_3 _ (List.mem_of_getElem? (i := 88) rfl)) rfl
theorem q3_89 : Cond.methodLink RX0 59 yX9_meantOn ∈ bw := bw_mem (tk_3 _ (List.mem_of_getElem? (i := 89) rfl)) rfl
theorem q3_90 : Cond.methodLink RX0 69 yX9_mayDo ∈ bw := bw_mem (tk_3 _ (List.mem_of_getElem? (i := 90) rfl)) rfl
theorem q3_91 : Cond.instanceMethod yX9_mayDo ∈ bw := bw_mem (tk_3 _ (List.mem_of_getElem? (i := 91) rfl)) rfl
theorem q3_92 : Cond.selects RX9 yX9_mayDo yX9_mayDo ∈ bw := bw_mem (tk_3 _ (List.mem_of_getElem? (i := 92) rfl)) rfl
theorem q3_93 : Cond.code yX9_mayDo cX9_mayDo 6 (some .boolean) ∈ bw := bw_mem (tk_3 _ (List.mem_of_getElem? (i := 93) rfl)) rfl
theorem q3_94 : Cond.methodLink RX9 66 yX9_kindOf ∈ bw := bw_mem (tk_3 _ (List.mem_of_getElem? (i := 94) rfl)) rfl
theorem q3_95 : Cond.instanceMethod yX9_kindOf ∈ bw := bw_mem (tk_3 _ (List.mem_of_getElem? (i := 95) rfl)) rfl
theorem q3_96 : Cond.selects RX9 yX9_kindOf yX9_kindOf ∈ bw := bw_mem (tk_3 _ (List.mem_of_getElem? (i := 96) rfl)) rfl
theorem q3_97 : Cond.code yX9_kindOf cX9_kindOf 2 (some .int) ∈ bw := bw_mem (tk_3 _ (List.mem_of_getElem? (i := 97) rfl)) rfl
theorem q3_98 : Cond.methodLink RX9 70 yX9_classOf ∈ bw := bw_mem (tk_3 _ (List.mem_of_getElem? (i := 98) rfl)) rfl
theorem q3_99 : Cond.methodLink RX0 100 yX9_breadMade ∈ bw := bw_mem (tk_3 _ (List.mem_of_getElem? (i := 99) rfl)) rfl
theorem q3_100 : Cond.instanceMethod yX9_breadMade ∈ bw := bw_mem (tk_3 _ (List.mem_of_getElem? (i := 100) rfl)) rfl
theorem q3_101 : Cond.selects RX9 yX9_breadMade yX9_breadMade ∈ bw := bw_mem (tk_3 _ (List.mem_of_getElem? (i := 101) rfl)) rfl
theorem q3_102 : Cond.code yX9_breadMade cX9_breadMade 5 (some .int) ∈ bw := bw_mem (tk_3 _ (List.mem_of_getElem? (i := 102) rfl)) rfl
theorem q3_103 : Cond.methodLink RX0 90 yX0_isBreach ∈ bw := bw_mem (tk_3 _ (List.mem_of_getElem? (i := 103) rfl)) rfl
theorem q3_104 : Cond.instanceMethod yX0_isBreach ∈ bw := bw_mem (tk_3 _ (List.mem_of_getElem? (i := 104) rfl)) rfl
theorem q3_105 : Cond.selects RX0 yX0_isBreach yX0_isBreach ∈ bw := bw_mem (tk_3 _ (List.mem_of_getElem? (i := 105) rfl)) rfl
theorem q3_106 : Cond.code yX0_isBreach cX0_isBreach 6 (some .boolean) ∈ bw := bw_mem (tk_3 _ (List.mem_of_getElem? (i := 106) rfl)) rfl
theorem q3_107 : Cond.methodLink RX0 77 yX9_keepsTreaty ∈ bw := bw_mem (tk_3 _ (List.mem_of_getElem? (i := 107) rfl)) rfl
theorem q3_108 : Cond.instanceMethod yX9_keepsTreaty ∈ bw := bw_mem (tk_3 _ (List.mem_of_getElem? (i := 108) rfl)) rfl
theorem q3_109 : Cond.selects RX9 yX9_keepsTreaty yX9_keepsTreaty ∈ bw := bw_mem (tk_3 _ (List.mem_of_getElem? (i := 109) rfl)) rfl
theorem q3_110 : Cond.code yX9_keepsTreaty cX9_keepsTreaty 6 (some .boolean) ∈ bw := bw_mem (tk_3 _ (List.mem_of_getElem? (i := 110) rfl)) rfl
theorem q3_111 : Cond.methodLink RX0 94 yX0_blame ∈ bw := bw_mem (tk_3 _ (List.mem_of_getElem? (i := 111) rfl)) rfl
theorem q3_113 : Cond.instanceMethod yX0_blame ∈ bw := bw_mem (tk_3 _ (List.mem_of_getElem? (i := 113) rfl)) rfl
theorem q3_114 : Cond.code yX0_blame cX0_blame 6 none ∈ bw := bw_mem (tk_3 _ (List.mem_of_getElem? (i := 114) rfl)) rfl
theorem q3_115 : Cond.methodLink RX0 103 yX0_isToldOtherwise ∈ bw := bw_mem (tk_3 _ (List.mem_of_getElem? (i := 115) rfl)) rfl
theorem q3_117 : Cond.instanceMethod yX0_isToldOtherwise ∈ bw := bw_mem (tk_3 _ (List.mem_of_getElem? (i := 117) rfl)) rfl
theorem q3_118 : Cond.code yX0_isToldOtherwise cX0_isToldOtherwise 6 (some .boolean) ∈ bw := bw_mem (tk_3 _ (List.mem_of_getElem? (i := 118) rfl)) rfl
theorem q3_119 : Cond.methodLink RX0 110 yX0_addFault ∈ bw := bw_mem (tk_3 _ (List.mem_of_getElem? (i := 119) rfl)) rfl
theorem q3_121 : Cond.instanceMethod yX0_addFault ∈ bw := bw_mem (tk_3 _ (List.mem_of_getElem? (i := 121) rfl)) rfl
theorem q3_122 : Cond.code yX0_addFault cX0_addFault 5 none ∈ bw := bw_mem (tk_3 _ (List.mem_of_getElem? (i := 122) rfl)) rfl
theorem q3_123 : Cond.methodLink RL 57 yX10_person ∈ bw := bw_mem (tk_3 _ (List.mem_of_getElem? (i := 123) rfl)) rfl
theorem q3_124 : Cond.instanceMethod yX10_person ∈ bw := bw_mem (tk_3 _ (List.mem_of_getElem? (i := 124) rfl)) rfl
theorem q3_125 : Cond.selects RX10 yX10_person yX10_person ∈ bw := bw_mem (tk_3 _ (List.mem_of_getElem? (i := 125) rfl)) rfl
theorem q3_126 : Cond.code yX10_person cX10_person 4 (some .int) ∈ bw := bw_mem (tk_3 _ (List.mem_of_getElem? (i := 126) rfl)) rfl
theorem q3_127 : Cond.methodLink RX10 157 yX0_faultsOf ∈ bw := bw_mem (tk_3 _ (List.mem_of_getElem? (i := 127) rfl)) rfl
theorem q3_128 : Cond.instanceMethod yX0_faultsOf ∈ bw := bw_mem (tk_3 _ (List.mem_of_getElem? (i := 128) rfl)) rfl
theorem q3_129 : Cond.selects RX0 yX0_faultsOf yX0_faultsOf ∈ bw := bw_mem (tk_3 _ (List.mem_of_getElem? (i := 129) rfl)) rfl
theorem q3_130 : Cond.code yX0_faultsOf cX0_faultsOf 4 (some .int) ∈ bw := bw_mem (tk_3 _ (List.mem_of_getElem? (i := 130) rfl)) rfl
theorem q3_131 : Cond.methodLink RX10 160 yX0_owedBy ∈ bw := bw_mem (tk_3 _ (List.mem_of_getElem? (i := 131) rfl)) rfl
theorem q3_132 : Cond.instanceMethod yX0_owedBy ∈ bw := bw_mem (tk_3 _ (List.mem_of_getElem? (i := 132) rfl)) rfl
theorem q3_133 : Cond.selects RX0 yX0_owedBy yX0_owedBy ∈ bw := bw_mem (tk_3 _ (List.mem_of_getElem? (i := 133) rfl)) rfl
theorem q3_134 : Cond.code yX0_owedBy cX0_owedBy 4 (some .int) ∈ bw := bw_mem (tk_3 _ (List.mem_of_getElem? (i := 134) rfl)) rfl
theorem q3_135 : Cond.methodLink RX10 166 yX0_workOf ∈ bw := bw_mem (tk_3 _ (List.mem_of_getElem? (i := 135) rfl)) rfl
theorem q3_136 : Cond.methodLink RL 62 yX10_bread ∈ bw := bw_mem (tk_3 _ (List.mem_of_getElem? (i := 136) rfl)) rfl
theorem q3_137 : Cond.instanceMethod yX10_bread ∈ bw := bw_mem (tk_3 _ (List.mem_of_getElem? (i := 137) rfl)) rfl
theorem q3_138 : Cond.selects RX10 yX10_bread yX10_bread ∈ bw := bw_mem (tk_3 _ (List.mem_of_getElem? (i := 138) rfl)) rfl
theorem q3_139 : Cond.code yX10_bread cX10_bread 2 (some .int) ∈ bw := bw_mem (tk_3 _ (List.mem_of_getElem? (i := 139) rfl)) rfl
theorem q3_140 : Cond.constant RX10 178 (100000) ∈ bw := bw_mem (tk_3 _ (List.mem_of_getElem? (i := 140) rfl)) rfl
theorem q3_141 : Cond.methodLink RL 66 yX10_breaches ∈ bw := bw_mem (tk_3 _ (List.mem_of_getElem? (i := 141) rfl)) rfl
theorem q3_142 : Cond.instanceMethod yX10_breaches ∈ bw := bw_mem (tk_3 _ (List.mem_of_getElem? (i := 142) rfl)) rfl
theorem q3_143 : Cond.selects RX10 yX10_breaches yX10_breaches ∈ bw := bw_mem (tk_3 _ (List.mem_of_getElem? (i := 143) rfl)) rfl
theorem q3_144 : Cond.code yX10_breaches cX10_breaches 4 (some .int) ∈ bw := bw_mem (tk_3 _ (List.mem_of_getElem? (i := 144) rfl)) rfl
theorem q3_145 : Cond.methodLink RX10 182 yX0_isBreach ∈ bw := bw_mem (tk_3 _ (List.mem_of_getElem? (i := 145) rfl)) rfl
theorem q3_146 : Cond.methodLink RL 70 yX10_as ∈ bw := bw_mem (tk_3 _ (List.mem_of_getElem? (i := 146) rfl)) rfl
theorem q3_147 : Cond.instanceMethod yX10_as ∈ bw := bw_mem (tk_3 _ (List.mem_of_getElem? (i := 147) rfl)) rfl
theorem q3_148 : Cond.selects RX10 yX10_as yX10_as ∈ bw := bw_mem (tk_3 _ (List.mem_of_getElem? (i := 148) rfl)) rfl
theorem q3_149 : Cond.code yX10_as cX10_as 3 (some .int) ∈ bw := bw_mem (tk_3 _ (List.mem_of_getElem? (i := 149) rfl)) rfl
theorem q3_150 : Cond.fieldLink RX10 186 "EvenDays" "KIND_ABOVE" "[I" ∈ bw := bw_mem (tk_3 _ (List.mem_of_getElem? (i := 150) rfl)) rfl
theorem q3_152 : Cond.methodLink RX10 189 yX9_kindOf ∈ bw := bw_mem (tk_3 _ (List.mem_of_getElem? (i := 152) rfl)) rfl
theorem q3_153 : Cond.methodLink RX10 192 yX10_isSuch ∈ bw := bw_mem (tk_3 _ (List.mem_of_getElem? (i := 153) rfl)) rfl
theorem q3_154 : Cond.static yX10_isSuch ∈ bw := bw_mem (tk_3 _ (List.mem_of_getElem? (i := 154) rfl)) rfl
theorem q3_155 : Cond.code yX10_isSuch cX10_isSuch 4 (some .boolean) ∈ bw := bw_mem (tk_3 _ (List.mem_of_getElem? (i := 155) rfl)) rfl
theorem q3_156 : Cond.methodLink RL 74 yX10_plan ∈ bw := bw_mem (tk_3 _ (List.mem_of_getElem? (i := 156) rfl)) rfl
theorem q3_157 : Cond.instanceMethod yX10_plan ∈ bw := bw_mem (tk_3 _ (List.mem_of_getElem? (i := 157) rfl)) rfl
theorem q3_158 : Cond.selects RX10 yX10_plan yX10_plan ∈ bw := bw_mem (tk_3 _ (List.mem_of_getElem? (i := 158) rfl)) rfl
theorem q3_159 : Cond.code yX10_plan cX10_plan 5 (some .int) ∈ bw := bw_mem (tk_3 _ (List.mem_of_getElem? (i := 159) rfl)) rfl
theorem q3_160 : Cond.methodLink RX10 195 yX10_isPlanAsked ∈ bw := bw_mem (tk_3 _ (List.mem_of_getElem? (i := 160) rfl)) rfl
theorem q3_161 : Cond.static yX10_isPlanAsked ∈ bw := bw_mem (tk_3 _ (List.mem_of_getElem? (i := 161) rfl)) rfl
theorem q3_162 : Cond.code yX10_isPlanAsked cX10_isPlanAsked 2 (some .boolean) ∈ bw := bw_mem (tk_3 _ (List.mem_of_getElem? (i := 162) rfl)) rfl
theorem q3_163 : Cond.methodLink RX10 198 yX5_greatestWorth ∈ bw := bw_mem (tk_3 _ (List.mem_of_getElem? (i := 163) rfl)) rfl
theorem q3_164 : Cond.instanceMethod yX5_greatestWorth ∈ bw := bw_mem (tk_3 _ (List.mem_of_getElem? (i := 164) rfl)) rfl
theorem q3_165 : Cond.selects RX5 yX5_greatestWorth yX5_greatestWorth ∈ bw := bw_mem (tk_3 _ (List.mem_of_getElem? (i := 165) rfl)) rfl
theorem q3_166 : Cond.code yX5_greatestWorth cX5_greatestWorth 3 (some .int) ∈ bw := bw_mem (tk_3 _ (List.mem_of_getElem? (i := 166) rfl)) rfl
theorem q3_168 : Cond.methodLink RX5 30 yX5_reckon ∈ bw := bw_mem (tk_3 _ (List.mem_of_getElem? (i := 168) rfl)) rfl
theorem q3_170 : Cond.instanceMethod yX5_reckon ∈ bw := bw_mem (tk_3 _ (List.mem_of_getElem? (i := 170) rfl)) rfl
theorem q3_171 : Cond.code yX5_reckon cX5_reckon 4 none ∈ bw := bw_mem (tk_3 _ (List.mem_of_getElem? (i := 171) rfl)) rfl
theorem q3_172 : Cond.methodLink RX5 34 yX5_rowOf ∈ bw := bw_mem (tk_3 _ (List.mem_of_getElem? (i := 172) rfl)) rfl
theorem q3_174 : Cond.instanceMethod yX5_rowOf ∈ bw := bw_mem (tk_3 _ (List.mem_of_getElem? (i := 174) rfl)) rfl
theorem q3_175 : Cond.code yX5_rowOf cX5_rowOf 4 (some .int) ∈ bw := bw_mem (tk_3 _ (List.mem_of_getElem? (i := 175) rfl)) rfl
theorem q3_176 : Cond.methodLink RX5 56 yX5_clearRow ∈ bw := bw_mem (tk_3 _ (List.mem_of_getElem? (i := 176) rfl)) rfl
theorem q3_178 : Cond.instanceMethod yX5_clearRow ∈ bw := bw_mem (tk_3 _ (List.mem_of_getElem? (i := 178) rfl)) rfl
theorem q3_179 : Cond.code yX5_clearRow cX5_clearRow 4 none ∈ bw := bw_mem (tk_3 _ (List.mem_of_getElem? (i := 179) rfl)) rfl
theorem q3_180 : Cond.methodLink RX5 59 yX5_offer ∈ bw := bw_mem (tk_3 _ (List.mem_of_getElem? (i := 180) rfl)) rfl
theorem q3_182 : Cond.instanceMethod yX5_offer ∈ bw := bw_mem (tk_3 _ (List.mem_of_getElem? (i := 182) rfl)) rfl
theorem q3_183 : Cond.code yX5_offer cX5_offer 5 none ∈ bw := bw_mem (tk_3 _ (List.mem_of_getElem? (i := 183) rfl)) rfl
theorem q3_184 : Cond.methodLink RX5 63 yX5_findWorths ∈ bw := bw_mem (tk_3 _ (List.mem_of_getElem? (i := 184) rfl)) rfl
theorem q3_186 : Cond.instanceMethod yX5_findWorths ∈ bw := bw_mem (tk_3 _ (List.mem_of_getElem? (i := 186) rfl)) rfl
theorem q3_187 : Cond.code yX5_findWorths cX5_findWorths 7 none ∈ bw := bw_mem (tk_3 _ (List.mem_of_getElem? (i := 187) rfl)) rfl
theorem q3_188 : Cond.methodLink RX5 72 yJ7_fill_53178 ∈ bw := bw_mem (tk_3 _ (List.mem_of_getElem? (i := 188) rfl)) rfl
theorem q3_189 : Cond.methodLink RX5 78 yX5_isAllowed ∈ bw := bw_mem (tk_3 _ (List.mem_of_getElem? (i := 189) rfl)) rfl
theorem q3_191 : Cond.instanceMethod yX5_isAllowed ∈ bw := bw_mem (tk_3 _ (List.mem_of_getElem? (i := 191) rfl)) rfl
theorem q3_192 : Cond.code yX5_isAllowed cX5_isAllowed 6 (some .boolean) ∈ bw := bw_mem (tk_3 _ (List.mem_of_getElem? (i := 192) rfl)) rfl
theorem q3_193 : Cond.methodLink RX5 88 yX9_mayDo ∈ bw := bw_mem (tk_3 _ (List.mem_of_getElem? (i := 193) rfl)) rfl
theorem q3_194 : Cond.methodLink RX5 92 yX9_keepsTreaty ∈ bw := bw_mem (tk_3 _ (List.mem_of_getElem? (i := 194) rfl)) rfl
theorem q3_195 : Cond.methodLink RX5 82 yX5_madeBy ∈ bw := bw_mem (tk_3 _ (List.mem_of_getElem? (i := 195) rfl)) rfl
theorem q3_197 : Cond.instanceMethod yX5_madeBy ∈ bw := bw_mem (tk_3 _ (List.mem_of_getElem? (i := 197) rfl)) rfl
theorem q3_198 : Cond.code yX5_madeBy cX5_madeBy 4 (some .int) ∈ bw := bw_mem (tk_3 _ (List.mem_of_getElem? (i := 198) rfl)) rfl
theorem q3_199 : Cond.methodLink RX5 95 yX9_breadMade ∈ bw := bw_mem (tk_3 _ (List.mem_of_getElem? (i := 199) rfl)) rfl
theorem q3_200 : Cond.methodLink RX5 85 yX5_worthOf ∈ bw := bw_mem (tk_3 _ (List.mem_of_getElem? (i := 200) rfl)) rfl
theorem q3_202 : Cond.instanceMethod yX5_worthOf ∈ bw := bw_mem (tk_3 _ (List.mem_of_getElem? (i := 202) rfl)) rfl
theorem q3_203 : Cond.code yX5_worthOf cX5_worthOf 3 (some .int) ∈ bw := bw_mem (tk_3 _ (List.mem_of_getElem? (i := 203) rfl)) rfl
theorem q3_204 : Cond.methodLink RX5 98 yX9_worthOf ∈ bw := bw_mem (tk_3 _ (List.mem_of_getElem? (i := 204) rfl)) rfl
theorem q3_205 : Cond.methodLink RX5 48 yJ9_max_7cf53 ∈ bw := bw_mem (tk_3 _ (List.mem_of_getElem? (i := 205) rfl)) rfl
theorem q3_206 : Cond.static yJ9_max_7cf53 ∈ bw := bw_mem (tk_3 _ (List.mem_of_getElem? (i := 206) rfl)) rfl
theorem q3_207 : Cond.code yJ9_max_7cf53 cJ9_max_7cf53 2 (some .int) ∈ bw := bw_mem (tk_3 _ (List.mem_of_getElem? (i := 207) rfl)) rfl
theorem q3_208 : Cond.methodLink RX5 66 yX5_reckonRow ∈ bw := bw_mem (tk_3 _ (List.mem_of_getElem? (i := 208) rfl)) rfl
theorem q3_210 : Cond.instanceMethod yX5_reckonRow ∈ bw := bw_mem (tk_3 _ (List.mem_of_getElem? (i := 210) rfl)) rfl
theorem q3_211 : Cond.code yX5_reckonRow cX5_reckonRow 4 none ∈ bw := bw_mem (tk_3 _ (List.mem_of_getElem? (i := 211) rfl)) rfl
theorem q3_212 : Cond.methodLink RX5 69 yX5_offerAll ∈ bw := bw_mem (tk_3 _ (List.mem_of_getElem? (i := 212) rfl)) rfl
theorem q3_214 : Cond.instanceMethod yX5_offerAll ∈ bw := bw_mem (tk_3 _ (List.mem_of_getElem? (i := 214) rfl)) rfl
theorem q3_215 : Cond.code yX5_offerAll cX5_offerAll 6 none ∈ bw := bw_mem (tk_3 _ (List.mem_of_getElem? (i := 215) rfl)) rfl
theorem q3_216 : Cond.methodLink RX5 38 yX5_bestFrom ∈ bw := bw_mem (tk_3 _ (List.mem_of_getElem? (i := 216) rfl)) rfl
theorem q3_218 : Cond.instanceMethod yX5_bestFrom ∈ bw := bw_mem (tk_3 _ (List.mem_of_getElem? (i := 218) rfl)) rfl
theorem q3_219 : Cond.code yX5_bestFrom cX5_bestFrom 4 (some .int) ∈ bw := bw_mem (tk_3 _ (List.mem_of_getElem? (i := 219) rfl)) rfl
theorem q3_220 : Cond.methodLink RX10 204 yX5_follow ∈ bw := bw_mem (tk_3 _ (List.mem_of_getElem? (i := 220) rfl)) rfl
theorem q3_221 : Cond.instanceMethod yX5_follow ∈ bw := bw_mem (tk_3 _ (List.mem_of_getElem? (i := 221) rfl)) rfl
theorem q3_222 : Cond.selects RX5 yX5_follow yX5_follow ∈ bw := bw_mem (tk_3 _ (List.mem_of_getElem? (i := 222) rfl)) rfl
theorem q3_223 : Cond.code yX5_follow cX5_follow 9 (some .int) ∈ bw := bw_mem (tk_3 _ (List.mem_of_getElem? (i := 223) rfl)) rfl
theorem q3_224 : Cond.methodLink RX5 101 yX5_choose ∈ bw := bw_mem (tk_3 _ (List.mem_of_getElem? (i := 224) rfl)) rfl
theorem q3_226 : Cond.instanceMethod yX5_choose ∈ bw := bw_mem (tk_3 _ (List.mem_of_getElem? (i := 226) rfl)) rfl
theorem q3_227 : Cond.code yX5_choose cX5_choose 10 none ∈ bw := bw_mem (tk_3 _ (List.mem_of_getElem? (i := 227) rfl)) rfl
theorem q3_228 : Cond.methodLink RL 78 yX10_planned ∈ bw := bw_mem (tk_3 _ (List.mem_of_getElem? (i := 228) rfl)) rfl
theorem q3_229 : Cond.instanceMethod yX10_planned ∈ bw := bw_mem (tk_3 _ (List.mem_of_getElem? (i := 229) rfl)) rfl
theorem q3_230 : Cond.selects RX10 yX10_planned yX10_planned ∈ bw := bw_mem (tk_3 _ (List.mem_of_getElem? (i := 230) rfl)) rfl
theorem q3_231 : Cond.code yX10_planned cX10_planned 6 (some .int) ∈ bw := bw_mem (tk_3 _ (List.mem_of_getElem? (i := 231) rfl)) rfl
theorem q3_232 : Cond.methodLink RL 83 yX10_news ∈ bw := bw_mem (tk_3 _ (List.mem_of_getElem? (i := 232) rfl)) rfl
theorem q3_233 : Cond.instanceMethod yX10_news ∈ bw := bw_mem (tk_3 _ (List.mem_of_getElem? (i := 233) rfl)) rfl
theorem q3_234 : Cond.selects RX10 yX10_news yX10_news ∈ bw := bw_mem (tk_3 _ (List.mem_of_getElem? (i := 234) rfl)) rfl
theorem q3_235 : Cond.code yX10_news cX10_news 5 (some .int) ∈ bw := bw_mem (tk_3 _ (List.mem_of_getElem? (i := 235) rfl)) rfl
theorem q3_236 : Cond.methodLink RX10 213 yX3_toBeAlike ∈ bw := bw_mem (tk_3 _ (List.mem_of_getElem? (i := 236) rfl)) rfl
theorem q3_237 : Cond.instanceMethod yX3_toBeAlike ∈ bw := bw_mem (tk_3 _ (List.mem_of_getElem? (i := 237) rfl)) rfl
theorem q3_238 : Cond.selects RX3 yX3_toBeAlike yX3_toBeAlike ∈ bw := bw_mem (tk_3 _ (List.mem_of_getElem? (i := 238) rfl)) rfl
theorem q3_239 : Cond.code yX3_toBeAlike cX3_toBeAlike 8 (some .int) ∈ bw := bw_mem (tk_3 _ (List.mem_of_getElem? (i := 239) rfl)) rfl
theorem q4_0 : Cond.methodLink RX3 15 yX3_classIn ∈ bw := bw_mem (tk_4 _ (List.mem_of_getElem? (i := 0) rfl)) rfl
theorem q4_1 : Cond.static yX3_classIn ∈ bw := bw_mem (tk_4 _ (List.mem_of_getElem? (i := 1) rfl)) rfl
theorem q4_2 : Cond.code yX3_classIn cX3_classIn 2 (some .int) ∈ bw := bw_mem (tk_4 _ (List.mem_of_getElem? (i := 2) rfl)) rfl
theorem q4_3 : Cond.methodLink RX10 217 yX3_toBeNeverAlike ∈ bw := bw_mem (tk_4 _ (List.mem_of_getElem? (i := 3) rfl)) rfl
theorem q4_4 : Cond.instanceMethod yX3_toBeNeverAlike ∈ bw := bw_mem (tk_4 _ (List.mem_of_getElem? (i := 4) rfl)) rfl
theorem q4_5 : Cond.selects RX3 yX3_toBeNeverAlike yX3_toBeNeverAlike ∈ bw := bw_mem (tk_4 _ (List.mem_of_getElem? (i := 5) rfl)) rfl
theorem q4_6 : Cond.code yX3_toBeNeverAlike cX3_toBeNeverAlike 8 (some .int) ∈ bw := bw_mem (tk_4 _ (List.mem_of_getElem? (i := 6) rfl)) rfl
theorem q4_7 : Cond.constant RX3 19 (1000000) ∈ bw := bw_mem (tk_4 _ (List.mem_of_getElem? (i := 7) rfl)) rfl
theorem q4_8 : Cond.methodLink RX3 20 yX3_leastOfAll ∈ bw := bw_mem (tk_4 _ (List.mem_of_getElem? (i := 8) rfl)) rfl
theorem q4_10 : Cond.instanceMethod yX3_leastOfAll ∈ bw := bw_mem (tk_4 _ (List.mem_of_getElem? (i := 10) rfl)) rfl
theorem q4_11 : Cond.code yX3_leastOfAll cX3_leastOfAll 3 (some .int) ∈ bw := bw_mem (tk_4 _ (List.mem_of_getElem? (i := 11) rfl)) rfl
theorem q4_12 : Cond.methodLink RX3 24 yJ9_min_7cf53 ∈ bw := bw_mem (tk_4 _ (List.mem_of_getElem? (i := 12) rfl)) rfl
theorem q4_13 : Cond.static yJ9_min_7cf53 ∈ bw := bw_mem (tk_4 _ (List.mem_of_getElem? (i := 13) rfl)) rfl
theorem q4_14 : Cond.code yJ9_min_7cf53 cJ9_min_7cf53 2 (some .int) ∈ bw := bw_mem (tk_4 _ (List.mem_of_getElem? (i := 14) rfl)) rfl
theorem q4_15 : Cond.methodLink RL 88 yX10_harm ∈ bw := bw_mem (tk_4 _ (List.mem_of_getElem? (i := 15) rfl)) rfl
theorem q4_16 : Cond.instanceMethod yX10_harm ∈ bw := bw_mem (tk_4 _ (List.mem_of_getElem? (i := 16) rfl)) rfl
theorem q4_17 : Cond.selects RX10 yX10_harm yX10_harm ∈ bw := bw_mem (tk_4 _ (List.mem_of_getElem? (i := 17) rfl)) rfl
theorem q4_18 : Cond.code yX10_harm cX10_harm 4 (some .int) ∈ bw := bw_mem (tk_4 _ (List.mem_of_getElem? (i := 18) rfl)) rfl
theorem q4_19 : Cond.methodLink RX10 220 yX4_changeHarm ∈ bw := bw_mem (tk_4 _ (List.mem_of_getElem? (i := 19) rfl)) rfl
theorem q4_20 : Cond.instanceMethod yX4_changeHarm ∈ bw := bw_mem (tk_4 _ (List.mem_of_getElem? (i := 20) rfl)) rfl
theorem q4_21 : Cond.selects RX4 yX4_changeHarm yX4_changeHarm ∈ bw := bw_mem (tk_4 _ (List.mem_of_getElem? (i := 21) rfl)) rfl
theorem q4_22 : Cond.code yX4_changeHarm cX4_changeHarm 6 (some .int) ∈ bw := bw_mem (tk_4 _ (List.mem_of_getElem? (i := 22) rfl)) rfl
theorem q4_24 : Cond.methodLink RL 92 yX10_anew ∈ bw := bw_mem (tk_4 _ (List.mem_of_getElem? (i := 24) rfl)) rfl
theorem q4_25 : Cond.instanceMethod yX10_anew ∈ bw := bw_mem (tk_4 _ (List.mem_of_getElem? (i := 25) rfl)) rfl
theorem q4_26 : Cond.selects RX10 yX10_anew yX10_anew ∈ bw := bw_mem (tk_4 _ (List.mem_of_getElem? (i := 26) rfl)) rfl
theorem q4_27 : Cond.code yX10_anew cX10_anew 2 (some .int) ∈ bw := bw_mem (tk_4 _ (List.mem_of_getElem? (i := 27) rfl)) rfl
theorem q4_28 : Cond.methodLink RX10 223 yX4_leastHarm ∈ bw := bw_mem (tk_4 _ (List.mem_of_getElem? (i := 28) rfl)) rfl
theorem q4_29 : Cond.instanceMethod yX4_leastHarm ∈ bw := bw_mem (tk_4 _ (List.mem_of_getElem? (i := 29) rfl)) rfl
theorem q4_30 : Cond.selects RX4 yX4_leastHarm yX4_leastHarm ∈ bw := bw_mem (tk_4 _ (List.mem_of_getElem? (i := 30) rfl)) rfl
theorem q4_31 : Cond.code yX4_leastHarm cX4_leastHarm 11 (some .int) ∈ bw := bw_mem (tk_4 _ (List.mem_of_getElem? (i := 31) rfl)) rfl
theorem q4_32 : Cond.methodLink RX4 22 yJ9_min_7cf53 ∈ bw := bw_mem (tk_4 _ (List.mem_of_getElem? (i := 32) rfl)) rfl
theorem q4_33 : Cond.methodLink RX4 28 yJ6_bitCount_0f7a4 ∈ bw := bw_mem (tk_4 _ (List.mem_of_getElem? (i := 33) rfl)) rfl
theorem q4_34 : Cond.static yJ6_bitCount_0f7a4 ∈ bw := bw_mem (tk_4 _ (List.mem_of_getElem? (i := 34) rfl)) rfl
theorem q4_35 : Cond.code yJ6_bitCount_0f7a4 cJ6_bitCount_0f7a4 1 (some .int) ∈ bw := bw_mem (tk_4 _ (List.mem_of_getElem? (i := 35) rfl)) rfl
theorem q4_36 : Cond.constant RJ6 265 (1431655765) ∈ bw := bw_mem (tk_4 _ (List.mem_of_getElem? (i := 36) rfl)) rfl
theorem q4_37 : Cond.constant RJ6 266 (858993459) ∈ bw := bw_mem (tk_4 _ (List.mem_of_getElem? (i := 37) rfl)) rfl
theorem q4_38 : Cond.constant RJ6 267 (252645135) ∈ bw := bw_mem (tk_4 _ (List.mem_of_getElem? (i := 38) rfl)) rfl
theorem q4_39 : Cond.constant RX4 34 (1000000) ∈ bw := bw_mem (tk_4 _ (List.mem_of_getElem? (i := 39) rfl)) rfl
theorem q4_40 : Cond.methodLink RX4 35 yX4_leastWith ∈ bw := bw_mem (tk_4 _ (List.mem_of_getElem? (i := 40) rfl)) rfl
theorem q4_42 : Cond.instanceMethod yX4_leastWith ∈ bw := bw_mem (tk_4 _ (List.mem_of_getElem? (i := 42) rfl)) rfl
theorem q4_43 : Cond.code yX4_leastWith cX4_leastWith 6 (some .int) ∈ bw := bw_mem (tk_4 _ (List.mem_of_getElem? (i := 43) rfl)) rfl
theorem q4_44 : Cond.methodLink RX10 226 yX4_partnerOf ∈ bw := bw_mem (tk_4 _ (List.mem_of_getElem? (i := 44) rfl)) rfl
theorem q4_45 : Cond.instanceMethod yX4_partnerOf ∈ bw := bw_mem (tk_4 _ (List.mem_of_getElem? (i := 45) rfl)) rfl
theorem q4_46 : Cond.selects RX4 yX4_partnerOf yX4_partnerOf ∈ bw := bw_mem (tk_4 _ (List.mem_of_getElem? (i := 46) rfl)) rfl
theorem q4_47 : Cond.code yX4_partnerOf cX4_partnerOf 6 (some .int) ∈ bw := bw_mem (tk_4 _ (List.mem_of_getElem? (i := 47) rfl)) rfl
theorem q4_48 : Cond.methodLink RX4 39 yX4_leastHarm ∈ bw := bw_mem (tk_4 _ (List.mem_of_getElem? (i := 48) rfl)) rfl
theorem q4_49 : Cond.methodLink RX4 42 yX4_firstBest ∈ bw := bw_mem (tk_4 _ (List.mem_of_getElem? (i := 49) rfl)) rfl
theorem q4_51 : Cond.instanceMethod yX4_firstBest ∈ bw := bw_mem (tk_4 _ (List.mem_of_getElem? (i := 51) rfl)) rfl
theorem q4_52 : Cond.code yX4_firstBest cX4_firstBest 6 (some .int) ∈ bw := bw_mem (tk_4 _ (List.mem_of_getElem? (i := 52) rfl)) rfl
theorem q4_53 : Cond.methodLink RL 96 yX10_forced ∈ bw := bw_mem (tk_4 _ (List.mem_of_getElem? (i := 53) rfl)) rfl
theorem q4_54 : Cond.instanceMethod yX10_forced ∈ bw := bw_mem (tk_4 _ (List.mem_of_getElem? (i := 54) rfl)) rfl
theorem q4_55 : Cond.selects RX10 yX10_forced yX10_forced ∈ bw := bw_mem (tk_4 _ (List.mem_of_getElem? (i := 55) rfl)) rfl
theorem q4_56 : Cond.code yX10_forced cX10_forced 3 (some .int) ∈ bw := bw_mem (tk_4 _ (List.mem_of_getElem? (i := 56) rfl)) rfl
theorem q4_57 : Cond.methodLink RL 100 yX10_like ∈ bw := bw_mem (tk_4 _ (List.mem_of_getElem? (i := 57) rfl)) rfl
theorem q4_58 : Cond.instanceMethod yX10_like ∈ bw := bw_mem (tk_4 _ (List.mem_of_getElem? (i := 58) rfl)) rfl
theorem q4_59 : Cond.selects RX10 yX10_like yX10_like ∈ bw := bw_mem (tk_4 _ (List.mem_of_getElem? (i := 59) rfl)) rfl
theorem q4_60 : Cond.code yX10_like cX10_like 5 (some .int) ∈ bw := bw_mem (tk_4 _ (List.mem_of_getElem? (i := 60) rfl)) rfl
theorem q4_61 : Cond.methodLink RX10 229 yX2_changeLiking ∈ bw := bw_mem (tk_4 _ (List.mem_of_getElem? (i := 61) rfl)) rfl
theorem q4_62 : Cond.instanceMethod yX2_changeLiking ∈ bw := bw_mem (tk_4 _ (List.mem_of_getElem? (i := 62) rfl)) rfl
theorem q4_63 : Cond.selects RX2 yX2_changeLiking yX2_changeLiking ∈ bw := bw_mem (tk_4 _ (List.mem_of_getElem? (i := 63) rfl)) rfl
theorem q4_64 : Cond.code yX2_changeLiking cX2_changeLiking 7 (some .int) ∈ bw := bw_mem (tk_4 _ (List.mem_of_getElem? (i := 64) rfl)) rfl
theorem q4_65 : Cond.methodLink RX2 27 yX2_indexOf ∈ bw := bw_mem (tk_4 _ (List.mem_of_getElem? (i := 65) rfl)) rfl
theorem q4_66 : Cond.static yX2_indexOf ∈ bw := bw_mem (tk_4 _ (List.mem_of_getElem? (i := 66) rfl)) rfl
theorem q4_67 : Cond.code yX2_indexOf cX2_indexOf 3 (some .int) ∈ bw := bw_mem (tk_4 _ (List.mem_of_getElem? (i := 67) rfl)) rfl
theorem q4_68 : Cond.methodLink RX2 18 yJ9_min_7cf53 ∈ bw := bw_mem (tk_4 _ (List.mem_of_getElem? (i := 68) rfl)) rfl
theorem q4_69 : Cond.methodLink RX2 24 yJ9_max_7cf53 ∈ bw := bw_mem (tk_4 _ (List.mem_of_getElem? (i := 69) rfl)) rfl
theorem q4_71 : Cond.methodLink RL 104 yX10_fours ∈ bw := bw_mem (tk_4 _ (List.mem_of_getElem? (i := 71) rfl)) rfl
theorem q4_72 : Cond.instanceMethod yX10_fours ∈ bw := bw_mem (tk_4 _ (List.mem_of_getElem? (i := 72) rfl)) rfl
theorem q4_73 : Cond.selects RX10 yX10_fours yX10_fours ∈ bw := bw_mem (tk_4 _ (List.mem_of_getElem? (i := 73) rfl)) rfl
theorem q4_74 : Cond.code yX10_fours cX10_fours 2 (some .int) ∈ bw := bw_mem (tk_4 _ (List.mem_of_getElem? (i := 74) rfl)) rfl
theorem q4_75 : Cond.methodLink RX10 232 yX2_greatestSum ∈ bw := bw_mem (tk_4 _ (List.mem_of_getElem? (i := 75) rfl)) rfl
theorem q4_76 : Cond.instanceMethod yX2_greatestSum ∈ bw := bw_mem (tk_4 _ (List.mem_of_getElem? (i := 76) rfl)) rfl
theorem q4_77 : Cond.selects RX2 yX2_greatestSum yX2_greatestSum ∈ bw := bw_mem (tk_4 _ (List.mem_of_getElem? (i := 77) rfl)) rfl
theorem q4_78 : Cond.code yX2_greatestSum cX2_greatestSum 2 (some .int) ∈ bw := bw_mem (tk_4 _ (List.mem_of_getElem? (i := 78) rfl)) rfl
theorem q4_79 : Cond.methodLink RX2 35 yX2_greatestOf ∈ bw := bw_mem (tk_4 _ (List.mem_of_getElem? (i := 79) rfl)) rfl
theorem q4_81 : Cond.instanceMethod yX2_greatestOf ∈ bw := bw_mem (tk_4 _ (List.mem_of_getElem? (i := 81) rfl)) rfl
theorem q4_82 : Cond.code yX2_greatestOf cX2_greatestOf 4 (some .int) ∈ bw := bw_mem (tk_4 _ (List.mem_of_getElem? (i := 82) rfl)) rfl
theorem q4_83 : Cond.methodLink RX2 39 yX2_greatestOfSet ∈ bw := bw_mem (tk_4 _ (List.mem_of_getElem? (i := 83) rfl)) rfl
theorem q4_85 : Cond.instanceMethod yX2_greatestOfSet ∈ bw := bw_mem (tk_4 _ (List.mem_of_getElem? (i := 85) rfl)) rfl
theorem q4_86 : Cond.code yX2_greatestOfSet cX2_greatestOfSet 8 (some .int) ∈ bw := bw_mem (tk_4 _ (List.mem_of_getElem? (i := 86) rfl)) rfl
theorem q4_87 : Cond.methodLink RX2 45 yJ6_bitCount_0f7a4 ∈ bw := bw_mem (tk_4 _ (List.mem_of_getElem? (i := 87) rfl)) rfl
theorem q4_88 : Cond.methodLink RX2 42 yX2_greatestKnown ∈ bw := bw_mem (tk_4 _ (List.mem_of_getElem? (i := 88) rfl)) rfl
theorem q4_90 : Cond.instanceMethod yX2_greatestKnown ∈ bw := bw_mem (tk_4 _ (List.mem_of_getElem? (i := 90) rfl)) rfl
theorem q4_91 : Cond.code yX2_greatestKnown cX2_greatestKnown 2 (some .int) ∈ bw := bw_mem (tk_4 _ (List.mem_of_getElem? (i := 91) rfl)) rfl
theorem q4_92 : Cond.methodLink RX2 50 yX2_valueOf ∈ bw := bw_mem (tk_4 _ (List.mem_of_getElem? (i := 92) rfl)) rfl
theorem q4_94 : Cond.instanceMethod yX2_valueOf ∈ bw := bw_mem (tk_4 _ (List.mem_of_getElem? (i := 94) rfl)) rfl
theorem q4_95 : Cond.code yX2_valueOf cX2_valueOf 6 (some .int) ∈ bw := bw_mem (tk_4 _ (List.mem_of_getElem? (i := 95) rfl)) rfl
theorem q4_96 : Cond.methodLink RX10 235 yX2_mostFours ∈ bw := bw_mem (tk_4 _ (List.mem_of_getElem? (i := 96) rfl)) rfl
theorem q4_97 : Cond.instanceMethod yX2_mostFours ∈ bw := bw_mem (tk_4 _ (List.mem_of_getElem? (i := 97) rfl)) rfl
theorem q4_98 : Cond.selects RX2 yX2_mostFours yX2_mostFours ∈ bw := bw_mem (tk_4 _ (List.mem_of_getElem? (i := 98) rfl)) rfl
theorem q4_99 : Cond.code yX2_mostFours cX2_mostFours 2 (some .int) ∈ bw := bw_mem (tk_4 _ (List.mem_of_getElem? (i := 99) rfl)) rfl
theorem q4_100 : Cond.methodLink RL 108 yX10_record ∈ bw := bw_mem (tk_4 _ (List.mem_of_getElem? (i := 100) rfl)) rfl
theorem q4_101 : Cond.instanceMethod yX10_record ∈ bw := bw_mem (tk_4 _ (List.mem_of_getElem? (i := 101) rfl)) rfl
theorem q4_102 : Cond.selects RX10 yX10_record yX10_record ∈ bw := bw_mem (tk_4 _ (List.mem_of_getElem? (i := 102) rfl)) rfl
theorem q4_103 : Cond.code yX10_record cX10_record 2 (some .int) ∈ bw := bw_mem (tk_4 _ (List.mem_of_getElem? (i := 103) rfl)) rfl
theorem q4_104 : Cond.methodLink RX10 239 yX6_append ∈ bw := bw_mem (tk_4 _ (List.mem_of_getElem? (i := 104) rfl)) rfl
theorem q4_105 : Cond.instanceMethod yX6_append ∈ bw := bw_mem (tk_4 _ (List.mem_of_getElem? (i := 105) rfl)) rfl
theorem q4_106 : Cond.selects RX6 yX6_append yX6_append ∈ bw := bw_mem (tk_4 _ (List.mem_of_getElem? (i := 106) rfl)) rfl
theorem q4_107 : Cond.code yX6_append cX6_append 2 none ∈ bw := bw_mem (tk_4 _ (List.mem_of_getElem? (i := 107) rfl)) rfl
theorem q4_108 : Cond.methodLink RL 113 yX10_burn ∈ bw := bw_mem (tk_4 _ (List.mem_of_getElem? (i := 108) rfl)) rfl
theorem q4_109 : Cond.instanceMethod yX10_burn ∈ bw := bw_mem (tk_4 _ (List.mem_of_getElem? (i := 109) rfl)) rfl
theorem q4_110 : Cond.selects RX10 yX10_burn yX10_burn ∈ bw := bw_mem (tk_4 _ (List.mem_of_getElem? (i := 110) rfl)) rfl
theorem q4_111 : Cond.code yX10_burn cX10_burn 2 (some .int) ∈ bw := bw_mem (tk_4 _ (List.mem_of_getElem? (i := 111) rfl)) rfl
theorem q4_112 : Cond.methodLink RL 117 yX10_slips ∈ bw := bw_mem (tk_4 _ (List.mem_of_getElem? (i := 112) rfl)) rfl
theorem q4_113 : Cond.instanceMethod yX10_slips ∈ bw := bw_mem (tk_4 _ (List.mem_of_getElem? (i := 113) rfl)) rfl
theorem q4_114 : Cond.selects RX10 yX10_slips yX10_slips ∈ bw := bw_mem (tk_4 _ (List.mem_of_getElem? (i := 114) rfl)) rfl
theorem q4_115 : Cond.code yX10_slips cX10_slips 4 (some .int) ∈ bw := bw_mem (tk_4 _ (List.mem_of_getElem? (i := 115) rfl)) rfl
theorem q4_116 : Cond.methodLink RX10 242 yX6_leastCost ∈ bw := bw_mem (tk_4 _ (List.mem_of_getElem? (i := 116) rfl)) rfl
theorem q4_117 : Cond.instanceMethod yX6_leastCost ∈ bw := bw_mem (tk_4 _ (List.mem_of_getElem? (i := 117) rfl)) rfl
theorem q4_118 : Cond.selects RX6 yX6_leastCost yX6_leastCost ∈ bw := bw_mem (tk_4 _ (List.mem_of_getElem? (i := 118) rfl)) rfl
theorem q4_119 : Cond.code yX6_leastCost cX6_leastCost 3 (some .int) ∈ bw := bw_mem (tk_4 _ (List.mem_of_getElem? (i := 119) rfl)) rfl
theorem q4_120 : Cond.methodLink RX6 23 yX6_reckon ∈ bw := bw_mem (tk_4 _ (List.mem_of_getElem? (i := 120) rfl)) rfl
theorem q4_122 : Cond.instanceMethod yX6_reckon ∈ bw := bw_mem (tk_4 _ (List.mem_of_getElem? (i := 122) rfl)) rfl
theorem q4_123 : Cond.code yX6_reckon cX6_reckon 7 (some .int) ∈ bw := bw_mem (tk_4 _ (List.mem_of_getElem? (i := 123) rfl)) rfl
theorem q4_124 : Cond.methodLink RX6 34 yJ7_fill_53178 ∈ bw := bw_mem (tk_4 _ (List.mem_of_getElem? (i := 124) rfl)) rfl
theorem q4_125 : Cond.methodLink RX6 40 yX6_leastFrom ∈ bw := bw_mem (tk_4 _ (List.mem_of_getElem? (i := 125) rfl)) rfl
theorem q4_127 : Cond.instanceMethod yX6_leastFrom ∈ bw := bw_mem (tk_4 _ (List.mem_of_getElem? (i := 127) rfl)) rfl
theorem q4_128 : Cond.code yX6_leastFrom cX6_leastFrom 4 (some .int) ∈ bw := bw_mem (tk_4 _ (List.mem_of_getElem? (i := 128) rfl)) rfl
theorem q4_130 : Cond.methodLink RX6 31 yX6_slipTo ∈ bw := bw_mem (tk_4 _ (List.mem_of_getElem? (i := 130) rfl)) rfl
theorem q4_132 : Cond.instanceMethod yX6_slipTo ∈ bw := bw_mem (tk_4 _ (List.mem_of_getElem? (i := 132) rfl)) rfl
theorem q4_133 : Cond.code yX6_slipTo cX6_slipTo 4 (some .int) ∈ bw := bw_mem (tk_4 _ (List.mem_of_getElem? (i := 133) rfl)) rfl
theorem q4_134 : Cond.methodLink RX6 43 yJ9_min_7cf53 ∈ bw := bw_mem (tk_4 _ (List.mem_of_getElem? (i := 134) rfl)) rfl
theorem q4_135 : Cond.methodLink RX6 27 yX6_costOf ∈ bw := bw_mem (tk_4 _ (List.mem_of_getElem? (i := 135) rfl)) rfl
theorem q4_137 : Cond.instanceMethod yX6_costOf ∈ bw := bw_mem (tk_4 _ (List.mem_of_getElem? (i := 137) rfl)) rfl
theorem q4_138 : Cond.code yX6_costOf cX6_costOf 6 (some .int) ∈ bw := bw_mem (tk_4 _ (List.mem_of_getElem? (i := 138) rfl)) rfl
theorem q4_139 : Cond.methodLink RX10 245 yX6_fewestSlips ∈ bw := bw_mem (tk_4 _ (List.mem_of_getElem? (i := 139) rfl)) rfl
theorem q4_140 : Cond.instanceMethod yX6_fewestSlips ∈ bw := bw_mem (tk_4 _ (List.mem_of_getElem? (i := 140) rfl)) rfl
theorem q4_141 : Cond.selects RX6 yX6_fewestSlips yX6_fewestSlips ∈ bw := bw_mem (tk_4 _ (List.mem_of_getElem? (i := 141) rfl)) rfl
theorem q4_142 : Cond.code yX6_fewestSlips cX6_fewestSlips 3 (some .int) ∈ bw := bw_mem (tk_4 _ (List.mem_of_getElem? (i := 142) rfl)) rfl
theorem q4_143 : Cond.methodLink RX10 248 yX6_firstSlip ∈ bw := bw_mem (tk_4 _ (List.mem_of_getElem? (i := 143) rfl)) rfl
theorem q4_144 : Cond.instanceMethod yX6_firstSlip ∈ bw := bw_mem (tk_4 _ (List.mem_of_getElem? (i := 144) rfl)) rfl
theorem q4_145 : Cond.selects RX6 yX6_firstSlip yX6_firstSlip ∈ bw := bw_mem (tk_4 _ (List.mem_of_getElem? (i := 145) rfl)) rfl
theorem q4_146 : Cond.code yX6_firstSlip cX6_firstSlip 7 (some .int) ∈ bw := bw_mem (tk_4 _ (List.mem_of_getElem? (i := 146) rfl)) rfl
theorem q4_147 : Cond.methodLink RL 121 yX10_keep ∈ bw := bw_mem (tk_4 _ (List.mem_of_getElem? (i := 147) rfl)) rfl
theorem q4_148 : Cond.instanceMethod yX10_keep ∈ bw := bw_mem (tk_4 _ (List.mem_of_getElem? (i := 148) rfl)) rfl
theorem q4_149 : Cond.selects RX10 yX10_keep yX10_keep ∈ bw := bw_mem (tk_4 _ (List.mem_of_getElem? (i := 149) rfl)) rfl
theorem q4_150 : Cond.code yX10_keep cX10_keep 2 (some .int) ∈ bw := bw_mem (tk_4 _ (List.mem_of_getElem? (i := 150) rfl)) rfl
theorem q4_151 : Cond.methodLink RX10 251 yX0_becomeLike ∈ bw := bw_mem (tk_4 _ (List.mem_of_getElem? (i := 151) rfl)) rfl
theorem q4_152 : Cond.instanceMethod yX0_becomeLike ∈ bw := bw_mem (tk_4 _ (List.mem_of_getElem? (i := 152) rfl)) rfl
theorem q4_153 : Cond.selects RX0 yX0_becomeLike yX0_becomeLike ∈ bw := bw_mem (tk_4 _ (List.mem_of_getElem? (i := 153) rfl)) rfl
theorem q4_154 : Cond.code yX0_becomeLike cX0_becomeLike 3 none ∈ bw := bw_mem (tk_4 _ (List.mem_of_getElem? (i := 154) rfl)) rfl
theorem q4_155 : Cond.methodLink RL 125 yX10_back ∈ bw := bw_mem (tk_4 _ (List.mem_of_getElem? (i := 155) rfl)) rfl
theorem q4_156 : Cond.instanceMethod yX10_back ∈ bw := bw_mem (tk_4 _ (List.mem_of_getElem? (i := 156) rfl)) rfl
theorem q4_157 : Cond.selects RX10 yX10_back yX10_back ∈ bw := bw_mem (tk_4 _ (List.mem_of_getElem? (i := 157) rfl)) rfl
theorem q4_158 : Cond.code yX10_back cX10_back 2 (some .int) ∈ bw := bw_mem (tk_4 _ (List.mem_of_getElem? (i := 158) rfl)) rfl
theorem q4_159 : Cond.methodLink RL 129 yX10_count ∈ bw := bw_mem (tk_4 _ (List.mem_of_getElem? (i := 159) rfl)) rfl
theorem q4_160 : Cond.instanceMethod yX10_count ∈ bw := bw_mem (tk_4 _ (List.mem_of_getElem? (i := 160) rfl)) rfl
theorem q4_161 : Cond.selects RX10 yX10_count yX10_count ∈ bw := bw_mem (tk_4 _ (List.mem_of_getElem? (i := 161) rfl)) rfl
theorem q4_162 : Cond.code yX10_count cX10_count 2 (some .int) ∈ bw := bw_mem (tk_4 _ (List.mem_of_getElem? (i := 162) rfl)) rfl
theorem q4_168 : Cond.methodLink RX11 1 objectInit ∈ bw := bw_mem (tk_4 _ (List.mem_of_getElem? (i := 168) rfl)) rfl
theorem q4_169 : Cond.methodLink RX11 75 yX11_begin ∈ bw := bw_mem (tk_4 _ (List.mem_of_getElem? (i := 169) rfl)) rfl
theorem q4_171 : Cond.instanceMethod yX11_begin ∈ bw := bw_mem (tk_4 _ (List.mem_of_getElem? (i := 171) rfl)) rfl
theorem q4_172 : Cond.code yX11_begin cX11_begin 2 none ∈ bw := bw_mem (tk_4 _ (List.mem_of_getElem? (i := 172) rfl)) rfl
theorem q4_173 : Cond.fieldLink RX11 7 "EvenDaysModel" "row" "[I" ∈ bw := bw_mem (tk_4 _ (List.mem_of_getElem? (i := 173) rfl)) rfl
theorem q4_174 : Cond.fieldLink RX11 13 "EvenDaysModel" "isKept" "[Z" ∈ bw := bw_mem (tk_4 _ (List.mem_of_getElem? (i := 174) rfl)) rfl
theorem q4_175 : Cond.fieldLink RX11 17 "EvenDaysModel" "text" "[I" ∈ bw := bw_mem (tk_4 _ (List.mem_of_getElem? (i := 175) rfl)) rfl
theorem q4_176 : Cond.fieldLink RX11 84 "EvenDaysModel" "length" "I" ∈ bw := bw_mem (tk_4 _ (List.mem_of_getElem? (i := 176) rfl)) rfl
theorem q4_177 : Cond.fieldLink RX11 20 "EvenDaysModel" "read" "[I" ∈ bw := bw_mem (tk_4 _ (List.mem_of_getElem? (i := 177) rfl)) rfl
theorem q4_178 : Cond.fieldLink RX11 112 "EvenDaysModel" "readMany" "I" ∈ bw := bw_mem (tk_4 _ (List.mem_of_getElem? (i := 178) rfl)) rfl
theorem q4_179 : Cond.fieldLink RX11 23 "EvenDaysModel" "pairs" "I" ∈ bw := bw_mem (tk_4 _ (List.mem_of_getElem? (i := 179) rfl)) rfl
theorem q4_180 : Cond.fieldLink RX11 27 "EvenDaysModel" "hours" "I" ∈ bw := bw_mem (tk_4 _ (List.mem_of_getElem? (i := 180) rfl)) rfl
theorem q4_181 : Cond.fieldLink RX11 30 "EvenDaysModel" "works" "[I" ∈ bw := bw_mem (tk_4 _ (List.mem_of_getElem? (i := 181) rfl)) rfl
theorem q4_182 : Cond.fieldLink RX11 33 "EvenDaysModel" "kinds" "[I" ∈ bw := bw_mem (tk_4 _ (List.mem_of_getElem? (i := 182) rfl)) rfl
theorem q4_183 : Cond.fieldLink RX11 36 "EvenDaysModel" "means" "[I" ∈ bw := bw_mem (tk_4 _ (List.mem_of_getElem? (i := 183) rfl)) rfl
theorem q4_184 : Cond.fieldLink RX11 150 "EvenDaysModel" "eats" "I" ∈ bw := bw_mem (tk_4 _ (List.mem_of_getElem? (i := 184) rfl)) rfl
theorem q4_185 : Cond.fieldLink RX11 39 "EvenDaysModel" "fine" "I" ∈ bw := bw_mem (tk_4 _ (List.mem_of_getElem? (i := 185) rfl)) rfl
theorem q4_186 : Cond.fieldLink RX11 89 "EvenDaysModel" "at" "I" ∈ bw := bw_mem (tk_4 _ (List.mem_of_getElem? (i := 186) rfl)) rfl
theorem q4_187 : Cond.fieldLink RX11 92 "EvenDaysModel" "place" "I" ∈ bw := bw_mem (tk_4 _ (List.mem_of_getElem? (i := 187) rfl)) rfl
theorem q4_188 : Cond.fieldLink RX11 99 "EvenDaysModel" "end" "I" ∈ bw := bw_mem (tk_4 _ (List.mem_of_getElem? (i := 188) rfl)) rfl
theorem q4_189 : Cond.fieldLink RX11 126 "EvenDaysModel" "readPairs" "I" ∈ bw := bw_mem (tk_4 _ (List.mem_of_getElem? (i := 189) rfl)) rfl
theorem q4_190 : Cond.fieldLink RX11 129 "EvenDaysModel" "readHours" "I" ∈ bw := bw_mem (tk_4 _ (List.mem_of_getElem? (i := 190) rfl)) rfl
theorem q4_191 : Cond.fieldLink RX11 42 "EvenDaysModel" "readMay" "[Z" ∈ bw := bw_mem (tk_4 _ (List.mem_of_getElem? (i := 191) rfl)) rfl
theorem q4_192 : Cond.fieldLink RX11 45 "EvenDaysModel" "worths" "[I" ∈ bw := bw_mem (tk_4 _ (List.mem_of_getElem? (i := 192) rfl)) rfl
theorem q4_193 : Cond.fieldLink RX11 48 "EvenDaysModel" "chosen" "[I" ∈ bw := bw_mem (tk_4 _ (List.mem_of_getElem? (i := 193) rfl)) rfl
theorem q4_194 : Cond.fieldLink RX11 217 "EvenDaysModel" "chosenBread" "I" ∈ bw := bw_mem (tk_4 _ (List.mem_of_getElem? (i := 194) rfl)) rfl
theorem q4_195 : Cond.fieldLink RX11 51 "EvenDaysModel" "fewest" "[I" ∈ bw := bw_mem (tk_4 _ (List.mem_of_getElem? (i := 195) rfl)) rfl
theorem q4_196 : Cond.fieldLink RX11 54 "EvenDaysModel" "then" "[I" ∈ bw := bw_mem (tk_4 _ (List.mem_of_getElem? (i := 196) rfl)) rfl
theorem q4_197 : Cond.fieldLink RX11 57 "EvenDaysModel" "harms" "[I" ∈ bw := bw_mem (tk_4 _ (List.mem_of_getElem? (i := 197) rfl)) rfl
theorem q4_198 : Cond.fieldLink RX11 60 "EvenDaysModel" "rests" "[I" ∈ bw := bw_mem (tk_4 _ (List.mem_of_getElem? (i := 198) rfl)) rfl
theorem q4_199 : Cond.fieldLink RX11 63 "EvenDaysModel" "likes" "[I" ∈ bw := bw_mem (tk_4 _ (List.mem_of_getElem? (i := 199) rfl)) rfl
theorem q4_200 : Cond.fieldLink RX11 66 "EvenDaysModel" "sums" "[I" ∈ bw := bw_mem (tk_4 _ (List.mem_of_getElem? (i := 200) rfl)) rfl
theorem q4_201 : Cond.fieldLink RX11 69 "EvenDaysModel" "rows" "[I" ∈ bw := bw_mem (tk_4 _ (List.mem_of_getElem? (i := 201) rfl)) rfl
theorem q4_202 : Cond.fieldLink RX11 246 "EvenDaysModel" "rowMany" "I" ∈ bw := bw_mem (tk_4 _ (List.mem_of_getElem? (i := 202) rfl)) rfl
theorem q4_203 : Cond.fieldLink RX11 72 "EvenDaysModel" "costs" "[I" ∈ bw := bw_mem (tk_4 _ (List.mem_of_getElem? (i := 203) rfl)) rfl
theorem q4_204 : Cond.laysFinal RX11 RX11 "row" "[I" ∈ bw := bw_mem (tk_4 _ (List.mem_of_getElem? (i := 204) rfl)) rfl
theorem q4_206 : Cond.laysFinal RX11 RX11 "isKept" "[Z" ∈ bw := bw_mem (tk_4 _ (List.mem_of_getElem? (i := 206) rfl)) rfl
theorem q4_208 : Cond.laysFinal RX11 RX11 "text" "[I" ∈ bw := bw_mem (tk_4 _ (List.mem_of_getElem? (i := 208) rfl)) rfl
theorem q4_210 : Cond.lays RX11 RX11 "length" "I" ∈ bw := bw_mem (tk_4 _ (List.mem_of_getElem? (i := 210) rfl)) rfl
theorem q4_212 : Cond.laysFinal RX11 RX11 "read" "[I" ∈ bw := bw_mem (tk_4 _ (List.mem_of_getElem? (i := 212) rfl)) rfl
theorem q4_214 : Cond.lays RX11 RX11 "readMany" "I" ∈ bw := bw_mem (tk_4 _ (List.mem_of_getElem? (i := 214) rfl)) rfl
theorem q4_216 : Cond.lays RX11 RX11 "pairs" "I" ∈ bw := bw_mem (tk_4 _ (List.mem_of_getElem? (i := 216) rfl)) rfl
theorem q4_218 : Cond.lays RX11 RX11 "hours" "I" ∈ bw := bw_mem (tk_4 _ (List.mem_of_getElem? (i := 218) rfl)) rfl
theorem q4_220 : Cond.laysFinal RX11 RX11 "works" "[I" ∈ bw := bw_mem (tk_4 _ (List.mem_of_getElem? (i := 220) rfl)) rfl
theorem q4_222 : Cond.laysFinal RX11 RX11 "kinds" "[I" ∈ bw := bw_mem (tk_4 _ (List.mem_of_getElem? (i := 222) rfl)) rfl
theorem q4_224 : Cond.laysFinal RX11 RX11 "means" "[I" ∈ bw := bw_mem (tk_4 _ (List.mem_of_getElem? (i := 224) rfl)) rfl
theorem q4_226 : Cond.lays RX11 RX11 "eats" "I" ∈ bw := bw_mem (tk_4 _ (List.mem_of_getElem? (i := 226) rfl)) rfl
theorem q4_228 : Cond.lays RX11 RX11 "fine" "I" ∈ bw := bw_mem (tk_4 _ (List.mem_of_getElem? (i := 228) rfl)) rfl
theorem q4_230 : Cond.lays RX11 RX11 "at" "I" ∈ bw := bw_mem (tk_4 _ (List.mem_of_getElem? (i := 230) rfl)) rfl
theorem q4_232 : Cond.lays RX11 RX11 "place" "I" ∈ bw := bw_mem (tk_4 _ (List.mem_of_getElem? (i := 232) rfl)) rfl
theorem q4_234 : Cond.lays RX11 RX11 "end" "I" ∈ bw := bw_mem (tk_4 _ (List.mem_of_getElem? (i := 234) rfl)) rfl
theorem q4_236 : Cond.lays RX11 RX11 "readPairs" "I" ∈ bw := bw_mem (tk_4 _ (List.mem_of_getElem? (i := 236) rfl)) rfl
theorem q4_238 : Cond.lays RX11 RX11 "readHours" "I" ∈ bw := bw_mem (tk_4 _ (List.mem_of_getElem? (i := 238) rfl)) rfl
theorem q5_0 : Cond.laysFinal RX11 RX11 "readMay" "[Z" ∈ bw := bw_mem (tk_5 _ (List.mem_of_getElem? (i := 0) rfl)) rfl
theorem q5_2 : Cond.laysFinal RX11 RX11 "worths" "[I" ∈ bw := bw_mem (tk_5 _ (List.mem_of_getElem? (i := 2) rfl)) rfl
theorem q5_4 : Cond.laysFinal RX11 RX11 "chosen" "[I" ∈ bw := bw_mem (tk_5 _ (List.mem_of_getElem? (i := 4) rfl)) rfl
theorem q5_6 : Cond.lays RX11 RX11 "chosenBread" "I" ∈ bw := bw_mem (tk_5 _ (List.mem_of_getElem? (i := 6) rfl)) rfl
theorem q5_8 : Cond.laysFinal RX11 RX11 "fewest" "[I" ∈ bw := bw_mem (tk_5 _ (List.mem_of_getElem? (i := 8) rfl)) rfl
theorem q5_10 : Cond.laysFinal RX11 RX11 "then" "[I" ∈ bw := bw_mem (tk_5 _ (List.mem_of_getElem? (i := 10) rfl)) rfl
theorem q5_12 : Cond.laysFinal RX11 RX11 "harms" "[I" ∈ bw := bw_mem (tk_5 _ (List.mem_of_getElem? (i := 12) rfl)) rfl
theorem q5_14 : Cond.laysFinal RX11 RX11 "rests" "[I" ∈ bw := bw_mem (tk_5 _ (List.mem_of_getElem? (i := 14) rfl)) rfl
theorem q5_16 : Cond.laysFinal RX11 RX11 "likes" "[I" ∈ bw := bw_mem (tk_5 _ (List.mem_of_getElem? (i := 16) rfl)) rfl
theorem q5_18 : Cond.laysFinal RX11 RX11 "sums" "[I" ∈ bw := bw_mem (tk_5 _ (List.mem_of_getElem? (i := 18) rfl)) rfl
theorem q5_20 : Cond.laysFinal RX11 RX11 "rows" "[I" ∈ bw := bw_mem (tk_5 _ (List.mem_of_getElem? (i := 20) rfl)) rfl
theorem q5_22 : Cond.lays RX11 RX11 "rowMany" "I" ∈ bw := bw_mem (tk_5 _ (List.mem_of_getElem? (i := 22) rfl)) rfl
theorem q5_24 : Cond.laysFinal RX11 RX11 "costs" "[I" ∈ bw := bw_mem (tk_5 _ (List.mem_of_getElem? (i := 24) rfl)) rfl
theorem q5_27 : Cond.methodLink RL 19 yX11_write ∈ bw := bw_mem (tk_5 _ (List.mem_of_getElem? (i := 27) rfl)) rfl
theorem q5_28 : Cond.instanceMethod yX11_write ∈ bw := bw_mem (tk_5 _ (List.mem_of_getElem? (i := 28) rfl)) rfl
theorem q5_29 : Cond.selects RX11 yX11_write yX11_write ∈ bw := bw_mem (tk_5 _ (List.mem_of_getElem? (i := 29) rfl)) rfl
theorem q5_30 : Cond.code yX11_write cX11_write 5 (some .int) ∈ bw := bw_mem (tk_5 _ (List.mem_of_getElem? (i := 30) rfl)) rfl
theorem q5_31 : Cond.constantLong RX11 78 (8) ∈ bw := bw_mem (tk_5 _ (List.mem_of_getElem? (i := 31) rfl)) rfl
theorem q5_32 : Cond.methodLink RX11 80 yX11_in ∈ bw := bw_mem (tk_5 _ (List.mem_of_getElem? (i := 32) rfl)) rfl
theorem q5_33 : Cond.static yX11_in ∈ bw := bw_mem (tk_5 _ (List.mem_of_getElem? (i := 33) rfl)) rfl
theorem q5_34 : Cond.code yX11_in cX11_in 6 (some .boolean) ∈ bw := bw_mem (tk_5 _ (List.mem_of_getElem? (i := 34) rfl)) rfl
theorem q5_35 : Cond.constantLong RX11 87 (255) ∈ bw := bw_mem (tk_5 _ (List.mem_of_getElem? (i := 35) rfl)) rfl
theorem q5_36 : Cond.methodLink RL 24 yX11_erase ∈ bw := bw_mem (tk_5 _ (List.mem_of_getElem? (i := 36) rfl)) rfl
theorem q5_37 : Cond.instanceMethod yX11_erase ∈ bw := bw_mem (tk_5 _ (List.mem_of_getElem? (i := 37) rfl)) rfl
theorem q5_38 : Cond.selects RX11 yX11_erase yX11_erase ∈ bw := bw_mem (tk_5 _ (List.mem_of_getElem? (i := 38) rfl)) rfl
theorem q5_39 : Cond.code yX11_erase cX11_erase 2 (some .int) ∈ bw := bw_mem (tk_5 _ (List.mem_of_getElem? (i := 39) rfl)) rfl
theorem q5_40 : Cond.methodLink RL 28 yX11_fault ∈ bw := bw_mem (tk_5 _ (List.mem_of_getElem? (i := 40) rfl)) rfl
theorem q5_41 : Cond.instanceMethod yX11_fault ∈ bw := bw_mem (tk_5 _ (List.mem_of_getElem? (i := 41) rfl)) rfl
theorem q5_42 : Cond.selects RX11 yX11_fault yX11_fault ∈ bw := bw_mem (tk_5 _ (List.mem_of_getElem? (i := 42) rfl)) rfl
theorem q5_43 : Cond.code yX11_fault cX11_fault 2 (some .int) ∈ bw := bw_mem (tk_5 _ (List.mem_of_getElem? (i := 43) rfl)) rfl
theorem q5_44 : Cond.methodLink RX11 115 yX11_token ∈ bw := bw_mem (tk_5 _ (List.mem_of_getElem? (i := 44) rfl)) rfl
theorem q5_46 : Cond.instanceMethod yX11_token ∈ bw := bw_mem (tk_5 _ (List.mem_of_getElem? (i := 46) rfl)) rfl
theorem q5_47 : Cond.code yX11_token cX11_token 1 none ∈ bw := bw_mem (tk_5 _ (List.mem_of_getElem? (i := 47) rfl)) rfl
theorem q5_48 : Cond.methodLink RX11 95 yX11_sort ∈ bw := bw_mem (tk_5 _ (List.mem_of_getElem? (i := 48) rfl)) rfl
theorem q5_49 : Cond.static yX11_sort ∈ bw := bw_mem (tk_5 _ (List.mem_of_getElem? (i := 49) rfl)) rfl
theorem q5_50 : Cond.code yX11_sort cX11_sort 1 (some .int) ∈ bw := bw_mem (tk_5 _ (List.mem_of_getElem? (i := 50) rfl)) rfl
theorem q5_51 : Cond.methodLink RX11 143 yX11_readsLine ∈ bw := bw_mem (tk_5 _ (List.mem_of_getElem? (i := 51) rfl)) rfl
theorem q5_53 : Cond.instanceMethod yX11_readsLine ∈ bw := bw_mem (tk_5 _ (List.mem_of_getElem? (i := 53) rfl)) rfl
theorem q5_54 : Cond.code yX11_readsLine cX11_readsLine 3 (some .boolean) ∈ bw := bw_mem (tk_5 _ (List.mem_of_getElem? (i := 54) rfl)) rfl
theorem q5_55 : Cond.methodLink RX11 136 yX11_wordOf ∈ bw := bw_mem (tk_5 _ (List.mem_of_getElem? (i := 55) rfl)) rfl
theorem q5_57 : Cond.instanceMethod yX11_wordOf ∈ bw := bw_mem (tk_5 _ (List.mem_of_getElem? (i := 57) rfl)) rfl
theorem q5_58 : Cond.code yX11_wordOf cX11_wordOf 1 (some .int) ∈ bw := bw_mem (tk_5 _ (List.mem_of_getElem? (i := 58) rfl)) rfl
theorem q5_59 : Cond.constant RX11 102 (859870804) ∈ bw := bw_mem (tk_5 _ (List.mem_of_getElem? (i := 59) rfl)) rfl
theorem q5_60 : Cond.methodLink RX11 103 yX11_isWord ∈ bw := bw_mem (tk_5 _ (List.mem_of_getElem? (i := 60) rfl)) rfl
theorem q5_62 : Cond.instanceMethod yX11_isWord ∈ bw := bw_mem (tk_5 _ (List.mem_of_getElem? (i := 62) rfl)) rfl
theorem q5_63 : Cond.code yX11_isWord cX11_isWord 5 (some .boolean) ∈ bw := bw_mem (tk_5 _ (List.mem_of_getElem? (i := 63) rfl)) rfl
theorem q5_64 : Cond.constant RX11 107 (379383) ∈ bw := bw_mem (tk_5 _ (List.mem_of_getElem? (i := 64) rfl)) rfl
theorem q5_65 : Cond.constant RX11 108 (145707) ∈ bw := bw_mem (tk_5 _ (List.mem_of_getElem? (i := 65) rfl)) rfl
theorem q5_66 : Cond.constant RX11 109 (21431469) ∈ bw := bw_mem (tk_5 _ (List.mem_of_getElem? (i := 66) rfl)) rfl
theorem q5_67 : Cond.constant RX11 110 (643109) ∈ bw := bw_mem (tk_5 _ (List.mem_of_getElem? (i := 67) rfl)) rfl
theorem q5_68 : Cond.constant RX11 111 (178470) ∈ bw := bw_mem (tk_5 _ (List.mem_of_getElem? (i := 68) rfl)) rfl
theorem q5_69 : Cond.methodLink RX11 140 yX11_readsRest ∈ bw := bw_mem (tk_5 _ (List.mem_of_getElem? (i := 69) rfl)) rfl
theorem q5_71 : Cond.instanceMethod yX11_readsRest ∈ bw := bw_mem (tk_5 _ (List.mem_of_getElem? (i := 71) rfl)) rfl
theorem q5_72 : Cond.code yX11_readsRest cX11_readsRest 2 (some .boolean) ∈ bw := bw_mem (tk_5 _ (List.mem_of_getElem? (i := 72) rfl)) rfl
theorem q5_73 : Cond.methodLink RX11 118 yX11_reads ∈ bw := bw_mem (tk_5 _ (List.mem_of_getElem? (i := 73) rfl)) rfl
theorem q5_75 : Cond.instanceMethod yX11_reads ∈ bw := bw_mem (tk_5 _ (List.mem_of_getElem? (i := 75) rfl)) rfl
theorem q5_76 : Cond.code yX11_reads cX11_reads 6 (some .boolean) ∈ bw := bw_mem (tk_5 _ (List.mem_of_getElem? (i := 76) rfl)) rfl
theorem q5_77 : Cond.methodLink RX11 122 yX11_readsBread ∈ bw := bw_mem (tk_5 _ (List.mem_of_getElem? (i := 77) rfl)) rfl
theorem q5_79 : Cond.instanceMethod yX11_readsBread ∈ bw := bw_mem (tk_5 _ (List.mem_of_getElem? (i := 79) rfl)) rfl
theorem q5_80 : Cond.code yX11_readsBread cX11_readsBread 2 (some .boolean) ∈ bw := bw_mem (tk_5 _ (List.mem_of_getElem? (i := 80) rfl)) rfl
theorem q5_81 : Cond.methodLink RX11 132 yX11_readsWork ∈ bw := bw_mem (tk_5 _ (List.mem_of_getElem? (i := 81) rfl)) rfl
theorem q5_83 : Cond.instanceMethod yX11_readsWork ∈ bw := bw_mem (tk_5 _ (List.mem_of_getElem? (i := 83) rfl)) rfl
theorem q5_84 : Cond.code yX11_readsWork cX11_readsWork 4 (some .boolean) ∈ bw := bw_mem (tk_5 _ (List.mem_of_getElem? (i := 84) rfl)) rfl
theorem q5_85 : Cond.methodLink RL 32 yX11_treaty ∈ bw := bw_mem (tk_5 _ (List.mem_of_getElem? (i := 85) rfl)) rfl
theorem q5_86 : Cond.instanceMethod yX11_treaty ∈ bw := bw_mem (tk_5 _ (List.mem_of_getElem? (i := 86) rfl)) rfl
theorem q5_87 : Cond.selects RX11 yX11_treaty yX11_treaty ∈ bw := bw_mem (tk_5 _ (List.mem_of_getElem? (i := 87) rfl)) rfl
theorem q5_88 : Cond.code yX11_treaty cX11_treaty 2 (some .int) ∈ bw := bw_mem (tk_5 _ (List.mem_of_getElem? (i := 88) rfl)) rfl
theorem q5_89 : Cond.methodLink RX11 153 yX11_fault ∈ bw := bw_mem (tk_5 _ (List.mem_of_getElem? (i := 89) rfl)) rfl
theorem q5_90 : Cond.methodLink RX11 156 yX11_tell ∈ bw := bw_mem (tk_5 _ (List.mem_of_getElem? (i := 90) rfl)) rfl
theorem q5_92 : Cond.instanceMethod yX11_tell ∈ bw := bw_mem (tk_5 _ (List.mem_of_getElem? (i := 92) rfl)) rfl
theorem q5_93 : Cond.code yX11_tell cX11_tell 5 none ∈ bw := bw_mem (tk_5 _ (List.mem_of_getElem? (i := 93) rfl)) rfl
theorem q5_94 : Cond.methodLink RX11 146 yX11_meantAt ∈ bw := bw_mem (tk_5 _ (List.mem_of_getElem? (i := 94) rfl)) rfl
theorem q5_95 : Cond.static yX11_meantAt ∈ bw := bw_mem (tk_5 _ (List.mem_of_getElem? (i := 95) rfl)) rfl
theorem q5_96 : Cond.code yX11_meantAt cX11_meantAt 4 (some .int) ∈ bw := bw_mem (tk_5 _ (List.mem_of_getElem? (i := 96) rfl)) rfl
theorem q5_97 : Cond.methodLink RL 37 yX11_work ∈ bw := bw_mem (tk_5 _ (List.mem_of_getElem? (i := 97) rfl)) rfl
theorem q5_98 : Cond.instanceMethod yX11_work ∈ bw := bw_mem (tk_5 _ (List.mem_of_getElem? (i := 98) rfl)) rfl
theorem q5_99 : Cond.selects RX11 yX11_work yX11_work ∈ bw := bw_mem (tk_5 _ (List.mem_of_getElem? (i := 99) rfl)) rfl
theorem q5_100 : Cond.code yX11_work cX11_work 3 (some .int) ∈ bw := bw_mem (tk_5 _ (List.mem_of_getElem? (i := 100) rfl)) rfl
theorem q5_101 : Cond.constantLong RX11 160 (5) ∈ bw := bw_mem (tk_5 _ (List.mem_of_getElem? (i := 101) rfl)) rfl
theorem q5_102 : Cond.constantLong RX11 162 (3) ∈ bw := bw_mem (tk_5 _ (List.mem_of_getElem? (i := 102) rfl)) rfl
theorem q5_103 : Cond.methodLink RL 42 yX11_meant ∈ bw := bw_mem (tk_5 _ (List.mem_of_getElem? (i := 103) rfl)) rfl
theorem q5_104 : Cond.instanceMethod yX11_meant ∈ bw := bw_mem (tk_5 _ (List.mem_of_getElem? (i := 104) rfl)) rfl
theorem q5_105 : Cond.selects RX11 yX11_meant yX11_meant ∈ bw := bw_mem (tk_5 _ (List.mem_of_getElem? (i := 105) rfl)) rfl
theorem q5_106 : Cond.code yX11_meant cX11_meant 5 (some .int) ∈ bw := bw_mem (tk_5 _ (List.mem_of_getElem? (i := 106) rfl)) rfl
theorem q5_107 : Cond.methodLink RX11 164 yX11_isValley ∈ bw := bw_mem (tk_5 _ (List.mem_of_getElem? (i := 107) rfl)) rfl
theorem q5_108 : Cond.static yX11_isValley ∈ bw := bw_mem (tk_5 _ (List.mem_of_getElem? (i := 108) rfl)) rfl
theorem q5_109 : Cond.code yX11_isValley cX11_isValley 1 (some .boolean) ∈ bw := bw_mem (tk_5 _ (List.mem_of_getElem? (i := 109) rfl)) rfl
theorem q5_110 : Cond.methodLink RX11 167 yX11_isPair ∈ bw := bw_mem (tk_5 _ (List.mem_of_getElem? (i := 110) rfl)) rfl
theorem q5_112 : Cond.instanceMethod yX11_isPair ∈ bw := bw_mem (tk_5 _ (List.mem_of_getElem? (i := 112) rfl)) rfl
theorem q5_113 : Cond.code yX11_isPair cX11_isPair 2 (some .boolean) ∈ bw := bw_mem (tk_5 _ (List.mem_of_getElem? (i := 113) rfl)) rfl
theorem q5_114 : Cond.methodLink RX11 170 yX11_isHour ∈ bw := bw_mem (tk_5 _ (List.mem_of_getElem? (i := 114) rfl)) rfl
theorem q5_116 : Cond.instanceMethod yX11_isHour ∈ bw := bw_mem (tk_5 _ (List.mem_of_getElem? (i := 116) rfl)) rfl
theorem q5_117 : Cond.code yX11_isHour cX11_isHour 2 (some .boolean) ∈ bw := bw_mem (tk_5 _ (List.mem_of_getElem? (i := 117) rfl)) rfl
theorem q5_118 : Cond.methodLink RL 46 yX11_done ∈ bw := bw_mem (tk_5 _ (List.mem_of_getElem? (i := 118) rfl)) rfl
theorem q5_119 : Cond.instanceMethod yX11_done ∈ bw := bw_mem (tk_5 _ (List.mem_of_getElem? (i := 119) rfl)) rfl
theorem q5_120 : Cond.selects RX11 yX11_done yX11_done ∈ bw := bw_mem (tk_5 _ (List.mem_of_getElem? (i := 120) rfl)) rfl
theorem q5_121 : Cond.code yX11_done cX11_done 5 (some .int) ∈ bw := bw_mem (tk_5 _ (List.mem_of_getElem? (i := 121) rfl)) rfl
theorem q5_122 : Cond.methodLink RL 51 yX11_ill ∈ bw := bw_mem (tk_5 _ (List.mem_of_getElem? (i := 122) rfl)) rfl
theorem q5_123 : Cond.instanceMethod yX11_ill ∈ bw := bw_mem (tk_5 _ (List.mem_of_getElem? (i := 123) rfl)) rfl
theorem q5_124 : Cond.selects RX11 yX11_ill yX11_ill ∈ bw := bw_mem (tk_5 _ (List.mem_of_getElem? (i := 124) rfl)) rfl
theorem q5_125 : Cond.code yX11_ill cX11_ill 5 (some .int) ∈ bw := bw_mem (tk_5 _ (List.mem_of_getElem? (i := 125) rfl)) rfl
theorem q5_126 : Cond.methodLink RL 56 yX11_days ∈ bw := bw_mem (tk_5 _ (List.mem_of_getElem? (i := 126) rfl)) rfl
theorem q5_127 : Cond.instanceMethod yX11_days ∈ bw := bw_mem (tk_5 _ (List.mem_of_getElem? (i := 127) rfl)) rfl
theorem q5_128 : Cond.selects RX11 yX11_days yX11_days ∈ bw := bw_mem (tk_5 _ (List.mem_of_getElem? (i := 128) rfl)) rfl
theorem q5_129 : Cond.code yX11_days cX11_days 3 (some .int) ∈ bw := bw_mem (tk_5 _ (List.mem_of_getElem? (i := 129) rfl)) rfl
theorem q5_130 : Cond.constantLong RX11 194 (99) ∈ bw := bw_mem (tk_5 _ (List.mem_of_getElem? (i := 130) rfl)) rfl
theorem q5_131 : Cond.methodLink RX11 196 yX11_day ∈ bw := bw_mem (tk_5 _ (List.mem_of_getElem? (i := 131) rfl)) rfl
theorem q5_133 : Cond.instanceMethod yX11_day ∈ bw := bw_mem (tk_5 _ (List.mem_of_getElem? (i := 133) rfl)) rfl
theorem q5_134 : Cond.code yX11_day cX11_day 5 none ∈ bw := bw_mem (tk_5 _ (List.mem_of_getElem? (i := 134) rfl)) rfl
theorem q5_135 : Cond.methodLink RX11 184 yX11_isBreach ∈ bw := bw_mem (tk_5 _ (List.mem_of_getElem? (i := 135) rfl)) rfl
theorem q5_137 : Cond.instanceMethod yX11_isBreach ∈ bw := bw_mem (tk_5 _ (List.mem_of_getElem? (i := 137) rfl)) rfl
theorem q5_138 : Cond.code yX11_isBreach cX11_isBreach 4 (some .boolean) ∈ bw := bw_mem (tk_5 _ (List.mem_of_getElem? (i := 138) rfl)) rfl
theorem q5_139 : Cond.methodLink RX11 181 yX11_does ∈ bw := bw_mem (tk_5 _ (List.mem_of_getElem? (i := 139) rfl)) rfl
theorem q5_141 : Cond.instanceMethod yX11_does ∈ bw := bw_mem (tk_5 _ (List.mem_of_getElem? (i := 141) rfl)) rfl
theorem q5_142 : Cond.code yX11_does cX11_does 6 (some .int) ∈ bw := bw_mem (tk_5 _ (List.mem_of_getElem? (i := 142) rfl)) rfl
theorem q5_143 : Cond.methodLink RX11 173 yX11_meansOf ∈ bw := bw_mem (tk_5 _ (List.mem_of_getElem? (i := 143) rfl)) rfl
theorem q5_145 : Cond.instanceMethod yX11_meansOf ∈ bw := bw_mem (tk_5 _ (List.mem_of_getElem? (i := 145) rfl)) rfl
theorem q5_146 : Cond.code yX11_meansOf cX11_meansOf 4 (some .int) ∈ bw := bw_mem (tk_5 _ (List.mem_of_getElem? (i := 146) rfl)) rfl
theorem q5_147 : Cond.methodLink RX11 177 yX11_may ∈ bw := bw_mem (tk_5 _ (List.mem_of_getElem? (i := 147) rfl)) rfl
theorem q5_149 : Cond.instanceMethod yX11_may ∈ bw := bw_mem (tk_5 _ (List.mem_of_getElem? (i := 149) rfl)) rfl
theorem q5_150 : Cond.code yX11_may cX11_may 7 (some .boolean) ∈ bw := bw_mem (tk_5 _ (List.mem_of_getElem? (i := 150) rfl)) rfl
theorem q5_151 : Cond.methodLink RX11 187 yX11_strays ∈ bw := bw_mem (tk_5 _ (List.mem_of_getElem? (i := 151) rfl)) rfl
theorem q5_153 : Cond.instanceMethod yX11_strays ∈ bw := bw_mem (tk_5 _ (List.mem_of_getElem? (i := 153) rfl)) rfl
theorem q5_154 : Cond.code yX11_strays cX11_strays 5 (some .boolean) ∈ bw := bw_mem (tk_5 _ (List.mem_of_getElem? (i := 154) rfl)) rfl
theorem q5_155 : Cond.methodLink RX11 190 yX11_charge ∈ bw := bw_mem (tk_5 _ (List.mem_of_getElem? (i := 155) rfl)) rfl
theorem q5_157 : Cond.instanceMethod yX11_charge ∈ bw := bw_mem (tk_5 _ (List.mem_of_getElem? (i := 157) rfl)) rfl
theorem q5_158 : Cond.code yX11_charge cX11_charge 3 none ∈ bw := bw_mem (tk_5 _ (List.mem_of_getElem? (i := 158) rfl)) rfl
theorem q5_159 : Cond.methodLink RL 61 yX11_person ∈ bw := bw_mem (tk_5 _ (List.mem_of_getElem? (i := 159) rfl)) rfl
theorem q5_160 : Cond.instanceMethod yX11_person ∈ bw := bw_mem (tk_5 _ (List.mem_of_getElem? (i := 160) rfl)) rfl
theorem q5_161 : Cond.selects RX11 yX11_person yX11_person ∈ bw := bw_mem (tk_5 _ (List.mem_of_getElem? (i := 161) rfl)) rfl
theorem q5_162 : Cond.code yX11_person cX11_person 4 (some .int) ∈ bw := bw_mem (tk_5 _ (List.mem_of_getElem? (i := 162) rfl)) rfl
theorem q5_163 : Cond.constantLong RX11 199 (10) ∈ bw := bw_mem (tk_5 _ (List.mem_of_getElem? (i := 163) rfl)) rfl
theorem q5_164 : Cond.methodLink RL 65 yX11_bread ∈ bw := bw_mem (tk_5 _ (List.mem_of_getElem? (i := 164) rfl)) rfl
theorem q5_165 : Cond.instanceMethod yX11_bread ∈ bw := bw_mem (tk_5 _ (List.mem_of_getElem? (i := 165) rfl)) rfl
theorem q5_166 : Cond.selects RX11 yX11_bread yX11_bread ∈ bw := bw_mem (tk_5 _ (List.mem_of_getElem? (i := 166) rfl)) rfl
theorem q5_167 : Cond.code yX11_bread cX11_bread 2 (some .int) ∈ bw := bw_mem (tk_5 _ (List.mem_of_getElem? (i := 167) rfl)) rfl
theorem q5_168 : Cond.constant RX11 201 (100000) ∈ bw := bw_mem (tk_5 _ (List.mem_of_getElem? (i := 168) rfl)) rfl
theorem q5_169 : Cond.methodLink RL 69 yX11_breaches ∈ bw := bw_mem (tk_5 _ (List.mem_of_getElem? (i := 169) rfl)) rfl
theorem q5_170 : Cond.instanceMethod yX11_breaches ∈ bw := bw_mem (tk_5 _ (List.mem_of_getElem? (i := 170) rfl)) rfl
theorem q5_171 : Cond.selects RX11 yX11_breaches yX11_breaches ∈ bw := bw_mem (tk_5 _ (List.mem_of_getElem? (i := 171) rfl)) rfl
theorem q5_172 : Cond.code yX11_breaches cX11_breaches 4 (some .int) ∈ bw := bw_mem (tk_5 _ (List.mem_of_getElem? (i := 172) rfl)) rfl
theorem q5_173 : Cond.methodLink RL 73 yX11_as ∈ bw := bw_mem (tk_5 _ (List.mem_of_getElem? (i := 173) rfl)) rfl
theorem q5_174 : Cond.instanceMethod yX11_as ∈ bw := bw_mem (tk_5 _ (List.mem_of_getElem? (i := 174) rfl)) rfl
theorem q5_175 : Cond.selects RX11 yX11_as yX11_as ∈ bw := bw_mem (tk_5 _ (List.mem_of_getElem? (i := 175) rfl)) rfl
theorem q5_176 : Cond.code yX11_as cX11_as 5 (some .int) ∈ bw := bw_mem (tk_5 _ (List.mem_of_getElem? (i := 176) rfl)) rfl
theorem q5_177 : Cond.constantLong RX11 202 (6) ∈ bw := bw_mem (tk_5 _ (List.mem_of_getElem? (i := 177) rfl)) rfl
theorem q5_178 : Cond.methodLink RL 77 yX11_plan ∈ bw := bw_mem (tk_5 _ (List.mem_of_getElem? (i := 178) rfl)) rfl
theorem q5_179 : Cond.instanceMethod yX11_plan ∈ bw := bw_mem (tk_5 _ (List.mem_of_getElem? (i := 179) rfl)) rfl
theorem q5_180 : Cond.selects RX11 yX11_plan yX11_plan ∈ bw := bw_mem (tk_5 _ (List.mem_of_getElem? (i := 180) rfl)) rfl
theorem q5_181 : Cond.code yX11_plan cX11_plan 4 (some .int) ∈ bw := bw_mem (tk_5 _ (List.mem_of_getElem? (i := 181) rfl)) rfl
theorem q5_182 : Cond.methodLink RX11 222 yX11_isPlan ∈ bw := bw_mem (tk_5 _ (List.mem_of_getElem? (i := 182) rfl)) rfl
theorem q5_183 : Cond.static yX11_isPlan ∈ bw := bw_mem (tk_5 _ (List.mem_of_getElem? (i := 183) rfl)) rfl
theorem q5_184 : Cond.code yX11_isPlan cX11_isPlan 2 (some .boolean) ∈ bw := bw_mem (tk_5 _ (List.mem_of_getElem? (i := 184) rfl)) rfl
theorem q5_185 : Cond.constantLong RX11 220 (200) ∈ bw := bw_mem (tk_5 _ (List.mem_of_getElem? (i := 185) rfl)) rfl
theorem q5_186 : Cond.methodLink RX11 225 yX11_choose ∈ bw := bw_mem (tk_5 _ (List.mem_of_getElem? (i := 186) rfl)) rfl
theorem q5_188 : Cond.instanceMethod yX11_choose ∈ bw := bw_mem (tk_5 _ (List.mem_of_getElem? (i := 188) rfl)) rfl
theorem q5_189 : Cond.code yX11_choose cX11_choose 7 (some .boolean) ∈ bw := bw_mem (tk_5 _ (List.mem_of_getElem? (i := 189) rfl)) rfl
theorem q5_190 : Cond.methodLink RX11 214 yX11_layWorths ∈ bw := bw_mem (tk_5 _ (List.mem_of_getElem? (i := 190) rfl)) rfl
theorem q5_192 : Cond.instanceMethod yX11_layWorths ∈ bw := bw_mem (tk_5 _ (List.mem_of_getElem? (i := 192) rfl)) rfl
theorem q5_193 : Cond.code yX11_layWorths cX11_layWorths 9 none ∈ bw := bw_mem (tk_5 _ (List.mem_of_getElem? (i := 193) rfl)) rfl
theorem q5_194 : Cond.methodLink RX11 210 yX11_worthBy ∈ bw := bw_mem (tk_5 _ (List.mem_of_getElem? (i := 194) rfl)) rfl
theorem q5_196 : Cond.instanceMethod yX11_worthBy ∈ bw := bw_mem (tk_5 _ (List.mem_of_getElem? (i := 196) rfl)) rfl
theorem q5_197 : Cond.code yX11_worthBy cX11_worthBy 8 (some .int) ∈ bw := bw_mem (tk_5 _ (List.mem_of_getElem? (i := 197) rfl)) rfl
theorem q5_198 : Cond.methodLink RX11 204 yX11_fits ∈ bw := bw_mem (tk_5 _ (List.mem_of_getElem? (i := 198) rfl)) rfl
theorem q5_200 : Cond.instanceMethod yX11_fits ∈ bw := bw_mem (tk_5 _ (List.mem_of_getElem? (i := 200) rfl)) rfl
theorem q5_201 : Cond.code yX11_fits cX11_fits 8 (some .boolean) ∈ bw := bw_mem (tk_5 _ (List.mem_of_getElem? (i := 201) rfl)) rfl
theorem q5_202 : Cond.methodLink RX11 207 yX11_breadOf ∈ bw := bw_mem (tk_5 _ (List.mem_of_getElem? (i := 202) rfl)) rfl
theorem q5_204 : Cond.instanceMethod yX11_breadOf ∈ bw := bw_mem (tk_5 _ (List.mem_of_getElem? (i := 204) rfl)) rfl
theorem q5_205 : Cond.code yX11_breadOf cX11_breadOf 6 (some .int) ∈ bw := bw_mem (tk_5 _ (List.mem_of_getElem? (i := 205) rfl)) rfl
theorem q5_206 : Cond.methodLink RL 82 yX11_planned ∈ bw := bw_mem (tk_5 _ (List.mem_of_getElem? (i := 206) rfl)) rfl
theorem q5_207 : Cond.instanceMethod yX11_planned ∈ bw := bw_mem (tk_5 _ (List.mem_of_getElem? (i := 207) rfl)) rfl
theorem q5_208 : Cond.selects RX11 yX11_planned yX11_planned ∈ bw := bw_mem (tk_5 _ (List.mem_of_getElem? (i := 208) rfl)) rfl
theorem q5_209 : Cond.code yX11_planned cX11_planned 6 (some .int) ∈ bw := bw_mem (tk_5 _ (List.mem_of_getElem? (i := 209) rfl)) rfl
theorem q5_210 : Cond.methodLink RL 87 yX11_news ∈ bw := bw_mem (tk_5 _ (List.mem_of_getElem? (i := 210) rfl)) rfl
theorem q5_211 : Cond.instanceMethod yX11_news ∈ bw := bw_mem (tk_5 _ (List.mem_of_getElem? (i := 211) rfl)) rfl
theorem q5_212 : Cond.selects RX11 yX11_news yX11_news ∈ bw := bw_mem (tk_5 _ (List.mem_of_getElem? (i := 212) rfl)) rfl
theorem q5_213 : Cond.code yX11_news cX11_news 10 (some .int) ∈ bw := bw_mem (tk_5 _ (List.mem_of_getElem? (i := 213) rfl)) rfl
theorem q5_214 : Cond.constantLong RX11 228 (12) ∈ bw := bw_mem (tk_5 _ (List.mem_of_getElem? (i := 214) rfl)) rfl
theorem q5_215 : Cond.constantLong RX11 230 (9) ∈ bw := bw_mem (tk_5 _ (List.mem_of_getElem? (i := 215) rfl)) rfl
theorem q5_216 : Cond.constant RX11 232 (268435456) ∈ bw := bw_mem (tk_5 _ (List.mem_of_getElem? (i := 216) rfl)) rfl
theorem q5_217 : Cond.methodLink RX11 233 yX11_classAt ∈ bw := bw_mem (tk_5 _ (List.mem_of_getElem? (i := 217) rfl)) rfl
theorem q5_218 : Cond.static yX11_classAt ∈ bw := bw_mem (tk_5 _ (List.mem_of_getElem? (i := 218) rfl)) rfl
theorem q5_219 : Cond.code yX11_classAt cX11_classAt 2 (some .int) ∈ bw := bw_mem (tk_5 _ (List.mem_of_getElem? (i := 219) rfl)) rfl
theorem q5_220 : Cond.methodLink RL 91 yX11_harm ∈ bw := bw_mem (tk_5 _ (List.mem_of_getElem? (i := 220) rfl)) rfl
theorem q5_221 : Cond.instanceMethod yX11_harm ∈ bw := bw_mem (tk_5 _ (List.mem_of_getElem? (i := 221) rfl)) rfl
theorem q5_222 : Cond.selects RX11 yX11_harm yX11_harm ∈ bw := bw_mem (tk_5 _ (List.mem_of_getElem? (i := 222) rfl)) rfl
theorem q5_223 : Cond.code yX11_harm cX11_harm 5 (some .int) ∈ bw := bw_mem (tk_5 _ (List.mem_of_getElem? (i := 223) rfl)) rfl
theorem q5_224 : Cond.methodLink RL 95 yX11_anew ∈ bw := bw_mem (tk_5 _ (List.mem_of_getElem? (i := 224) rfl)) rfl
theorem q5_225 : Cond.instanceMethod yX11_anew ∈ bw := bw_mem (tk_5 _ (List.mem_of_getElem? (i := 225) rfl)) rfl
theorem q5_226 : Cond.selects RX11 yX11_anew yX11_anew ∈ bw := bw_mem (tk_5 _ (List.mem_of_getElem? (i := 226) rfl)) rfl
theorem q5_227 : Cond.code yX11_anew cX11_anew 6 (some .int) ∈ bw := bw_mem (tk_5 _ (List.mem_of_getElem? (i := 227) rfl)) rfl
theorem q5_228 : Cond.methodLink RX11 243 yX11_layRests ∈ bw := bw_mem (tk_5 _ (List.mem_of_getElem? (i := 228) rfl)) rfl
theorem q5_230 : Cond.instanceMethod yX11_layRests ∈ bw := bw_mem (tk_5 _ (List.mem_of_getElem? (i := 230) rfl)) rfl
theorem q5_231 : Cond.code yX11_layRests cX11_layRests 7 (some .int) ∈ bw := bw_mem (tk_5 _ (List.mem_of_getElem? (i := 231) rfl)) rfl
theorem q5_232 : Cond.methodLink RX11 237 yX11_bits ∈ bw := bw_mem (tk_5 _ (List.mem_of_getElem? (i := 232) rfl)) rfl
theorem q5_233 : Cond.static yX11_bits ∈ bw := bw_mem (tk_5 _ (List.mem_of_getElem? (i := 233) rfl)) rfl
theorem q5_234 : Cond.code yX11_bits cX11_bits 3 (some .int) ∈ bw := bw_mem (tk_5 _ (List.mem_of_getElem? (i := 234) rfl)) rfl
theorem q5_235 : Cond.methodLink RX11 240 yX11_harmBy ∈ bw := bw_mem (tk_5 _ (List.mem_of_getElem? (i := 235) rfl)) rfl
theorem q5_237 : Cond.instanceMethod yX11_harmBy ∈ bw := bw_mem (tk_5 _ (List.mem_of_getElem? (i := 237) rfl)) rfl
theorem q5_238 : Cond.code yX11_harmBy cX11_harmBy 7 (some .int) ∈ bw := bw_mem (tk_5 _ (List.mem_of_getElem? (i := 238) rfl)) rfl
theorem q5_239 : Cond.methodLink RL 99 yX11_forced ∈ bw := bw_mem (tk_5 _ (List.mem_of_getElem? (i := 239) rfl)) rfl
theorem q6_0 : Cond.instanceMethod yX11_forced ∈ bw := bw_mem (tk_6 _ (List.mem_of_getElem? (i := 0) rfl)) rfl
theorem q6_1 : Cond.selects RX11 yX11_forced yX11_forced ∈ bw := bw_mem (tk_6 _ (List.mem_of_getElem? (i := 1) rfl)) rfl
theorem q6_2 : Cond.code yX11_forced cX11_forced 3 (some .int) ∈ bw := bw_mem (tk_6 _ (List.mem_of_getElem? (i := 2) rfl)) rfl
theorem q6_3 : Cond.methodLink RL 103 yX11_like ∈ bw := bw_mem (tk_6 _ (List.mem_of_getElem? (i := 3) rfl)) rfl
theorem q6_4 : Cond.instanceMethod yX11_like ∈ bw := bw_mem (tk_6 _ (List.mem_of_getElem? (i := 4) rfl)) rfl
theorem q6_5 : Cond.selects RX11 yX11_like yX11_like ∈ bw := bw_mem (tk_6 _ (List.mem_of_getElem? (i := 5) rfl)) rfl
theorem q6_6 : Cond.code yX11_like cX11_like 6 (some .int) ∈ bw := bw_mem (tk_6 _ (List.mem_of_getElem? (i := 6) rfl)) rfl
theorem q6_7 : Cond.methodLink RL 107 yX11_fours ∈ bw := bw_mem (tk_6 _ (List.mem_of_getElem? (i := 7) rfl)) rfl
theorem q6_8 : Cond.instanceMethod yX11_fours ∈ bw := bw_mem (tk_6 _ (List.mem_of_getElem? (i := 8) rfl)) rfl
theorem q6_9 : Cond.selects RX11 yX11_fours yX11_fours ∈ bw := bw_mem (tk_6 _ (List.mem_of_getElem? (i := 9) rfl)) rfl
theorem q6_10 : Cond.code yX11_fours cX11_fours 10 (some .int) ∈ bw := bw_mem (tk_6 _ (List.mem_of_getElem? (i := 10) rfl)) rfl
theorem q6_11 : Cond.methodLink RL 112 yX11_record ∈ bw := bw_mem (tk_6 _ (List.mem_of_getElem? (i := 11) rfl)) rfl
theorem q6_12 : Cond.instanceMethod yX11_record ∈ bw := bw_mem (tk_6 _ (List.mem_of_getElem? (i := 12) rfl)) rfl
theorem q6_13 : Cond.selects RX11 yX11_record yX11_record ∈ bw := bw_mem (tk_6 _ (List.mem_of_getElem? (i := 13) rfl)) rfl
theorem q6_14 : Cond.code yX11_record cX11_record 2 (some .int) ∈ bw := bw_mem (tk_6 _ (List.mem_of_getElem? (i := 14) rfl)) rfl
theorem q6_15 : Cond.methodLink RL 116 yX11_burn ∈ bw := bw_mem (tk_6 _ (List.mem_of_getElem? (i := 15) rfl)) rfl
theorem q6_16 : Cond.instanceMethod yX11_burn ∈ bw := bw_mem (tk_6 _ (List.mem_of_getElem? (i := 16) rfl)) rfl
theorem q6_17 : Cond.selects RX11 yX11_burn yX11_burn ∈ bw := bw_mem (tk_6 _ (List.mem_of_getElem? (i := 17) rfl)) rfl
theorem q6_18 : Cond.code yX11_burn cX11_burn 2 (some .int) ∈ bw := bw_mem (tk_6 _ (List.mem_of_getElem? (i := 18) rfl)) rfl
theorem q6_19 : Cond.methodLink RL 120 yX11_slips ∈ bw := bw_mem (tk_6 _ (List.mem_of_getElem? (i := 19) rfl)) rfl
theorem q6_20 : Cond.instanceMethod yX11_slips ∈ bw := bw_mem (tk_6 _ (List.mem_of_getElem? (i := 20) rfl)) rfl
theorem q6_21 : Cond.selects RX11 yX11_slips yX11_slips ∈ bw := bw_mem (tk_6 _ (List.mem_of_getElem? (i := 21) rfl)) rfl
theorem q6_22 : Cond.code yX11_slips cX11_slips 8 (some .int) ∈ bw := bw_mem (tk_6 _ (List.mem_of_getElem? (i := 22) rfl)) rfl
theorem q6_23 : Cond.constantLong RX11 252 (2) ∈ bw := bw_mem (tk_6 _ (List.mem_of_getElem? (i := 23) rfl)) rfl
theorem q6_24 : Cond.methodLink RX11 249 yX11_stays ∈ bw := bw_mem (tk_6 _ (List.mem_of_getElem? (i := 24) rfl)) rfl
theorem q6_26 : Cond.instanceMethod yX11_stays ∈ bw := bw_mem (tk_6 _ (List.mem_of_getElem? (i := 26) rfl)) rfl
theorem q6_27 : Cond.code yX11_stays cX11_stays 5 (some .int) ∈ bw := bw_mem (tk_6 _ (List.mem_of_getElem? (i := 27) rfl)) rfl
theorem q6_28 : Cond.methodLink RX11 254 yX11_slipped ∈ bw := bw_mem (tk_6 _ (List.mem_of_getElem? (i := 28) rfl)) rfl
theorem q6_30 : Cond.instanceMethod yX11_slipped ∈ bw := bw_mem (tk_6 _ (List.mem_of_getElem? (i := 30) rfl)) rfl
theorem q6_31 : Cond.code yX11_slipped cX11_slipped 5 (some .int) ∈ bw := bw_mem (tk_6 _ (List.mem_of_getElem? (i := 31) rfl)) rfl
theorem q6_32 : Cond.methodLink RL 124 yX11_keep ∈ bw := bw_mem (tk_6 _ (List.mem_of_getElem? (i := 32) rfl)) rfl
theorem q6_33 : Cond.instanceMethod yX11_keep ∈ bw := bw_mem (tk_6 _ (List.mem_of_getElem? (i := 33) rfl)) rfl
theorem q6_34 : Cond.selects RX11 yX11_keep yX11_keep ∈ bw := bw_mem (tk_6 _ (List.mem_of_getElem? (i := 34) rfl)) rfl
theorem q6_35 : Cond.code yX11_keep cX11_keep 2 (some .int) ∈ bw := bw_mem (tk_6 _ (List.mem_of_getElem? (i := 35) rfl)) rfl
theorem q6_36 : Cond.methodLink RX11 257 yX11_copy ∈ bw := bw_mem (tk_6 _ (List.mem_of_getElem? (i := 36) rfl)) rfl
theorem q6_38 : Cond.instanceMethod yX11_copy ∈ bw := bw_mem (tk_6 _ (List.mem_of_getElem? (i := 38) rfl)) rfl
theorem q6_39 : Cond.code yX11_copy cX11_copy 4 none ∈ bw := bw_mem (tk_6 _ (List.mem_of_getElem? (i := 39) rfl)) rfl
theorem q6_40 : Cond.methodLink RL 128 yX11_back ∈ bw := bw_mem (tk_6 _ (List.mem_of_getElem? (i := 40) rfl)) rfl
theorem q6_41 : Cond.instanceMethod yX11_back ∈ bw := bw_mem (tk_6 _ (List.mem_of_getElem? (i := 41) rfl)) rfl
theorem q6_42 : Cond.selects RX11 yX11_back yX11_back ∈ bw := bw_mem (tk_6 _ (List.mem_of_getElem? (i := 42) rfl)) rfl
theorem q6_43 : Cond.code yX11_back cX11_back 2 (some .int) ∈ bw := bw_mem (tk_6 _ (List.mem_of_getElem? (i := 43) rfl)) rfl
theorem q6_44 : Cond.methodLink RL 132 yX11_count ∈ bw := bw_mem (tk_6 _ (List.mem_of_getElem? (i := 44) rfl)) rfl
theorem q6_45 : Cond.instanceMethod yX11_count ∈ bw := bw_mem (tk_6 _ (List.mem_of_getElem? (i := 45) rfl)) rfl
theorem q6_46 : Cond.selects RX11 yX11_count yX11_count ∈ bw := bw_mem (tk_6 _ (List.mem_of_getElem? (i := 46) rfl)) rfl
theorem q6_47 : Cond.code yX11_count cX11_count 2 (some .int) ∈ bw := bw_mem (tk_6 _ (List.mem_of_getElem? (i := 47) rfl)) rfl
theorem q6_48 : Cond.constantLong RX11 260 (7) ∈ bw := bw_mem (tk_6 _ (List.mem_of_getElem? (i := 48) rfl)) rfl
theorem q6_49 : Cond.constantLong RL 13 (4294967295) ∈ bw := bw_mem (tk_6 _ (List.mem_of_getElem? (i := 49) rfl)) rfl
theorem q6_50 : Cond.fieldLink RJ0 9 "java/lang/String" "value" "[B" ∈ bw := bw_mem (tk_6 _ (List.mem_of_getElem? (i := 50) rfl)) rfl
theorem q6_51 : Cond.fieldLink RJ0 15 "java/lang/String" "coder" "B" ∈ bw := bw_mem (tk_6 _ (List.mem_of_getElem? (i := 51) rfl)) rfl
theorem pk_1 : ∀ q ∈ lw_privs_1, Cond.selects q.1.cls q.1 q.1 ∈ lw_tbl := fun q h => List.mem_append_left _ (List.mem_map.mpr ⟨q, List.mem_append_left _ h, rfl⟩)
theorem pk_2 : ∀ q ∈ lw_privs_2, Cond.selects q.1.cls q.1 q.1 ∈ lw_tbl := fun q h => List.mem_append_left _ (List.mem_map.mpr ⟨q, List.mem_append_right _ (List.mem_append_left _ h), rfl⟩)
theorem pk_3 : ∀ q ∈ lw_privs_3, Cond.selects q.1.cls q.1 q.1 ∈ lw_tbl := fun q h => List.mem_append_left _ (List.mem_map.mpr ⟨q, List.mem_append_right _ (List.mem_append_right _ (List.mem_append_left _ h)), rfl⟩)
theorem pk_4 : ∀ q ∈ lw_privs_4, Cond.selects q.1.cls q.1 q.1 ∈ lw_tbl := fun q h => List.mem_append_left _ (List.mem_map.mpr ⟨q, List.mem_append_right _ (List.mem_append_right _ (List.mem_append_right _ (List.mem_append_left _ h))), rfl⟩)
theorem pk_5 : ∀ q ∈ lw_privs_5, Cond.selects q.1.cls q.1 q.1 ∈ lw_tbl := fun q h => List.mem_append_left _ (List.mem_map.mpr ⟨q, List.mem_append_right _ (List.mem_append_right _ (List.mem_append_right _ (List.mem_append_right _ (h)))), rfl⟩)
theorem qp1_0 : Cond.selects RX1 yX1_readLine yX1_readLine ∈ bw := bw_mem (pk_1 (yX1_readLine, 3) (List.mem_of_getElem? (i := 0) rfl)) rfl
theorem qp1_1 : Cond.selects RX1 yX1_readTreaty yX1_readTreaty ∈ bw := bw_mem (pk_1 (yX1_readTreaty, 3) (List.mem_of_getElem? (i := 1) rfl)) rfl
theorem qp1_2 : Cond.selects RX1 yX1_takeNumber yX1_takeNumber ∈ bw := bw_mem (pk_1 (yX1_takeNumber, 3) (List.mem_of_getElem? (i := 2) rfl)) rfl
theorem qp1_3 : Cond.selects RX1 yX1_readWork yX1_readWork ∈ bw := bw_mem (pk_1 (yX1_readWork, 3) (List.mem_of_getElem? (i := 3) rfl)) rfl
theorem qp1_4 : Cond.selects RX1 yX1_readKind yX1_readKind ∈ bw := bw_mem (pk_1 (yX1_readKind, 3) (List.mem_of_getElem? (i := 4) rfl)) rfl
theorem qp1_5 : Cond.selects RX1 yX1_readMeant yX1_readMeant ∈ bw := bw_mem (pk_1 (yX1_readMeant, 3) (List.mem_of_getElem? (i := 5) rfl)) rfl
theorem qp1_6 : Cond.selects RX1 yX1_readEats yX1_readEats ∈ bw := bw_mem (pk_1 (yX1_readEats, 3) (List.mem_of_getElem? (i := 6) rfl)) rfl
theorem qp1_7 : Cond.selects RX1 yX1_readFine yX1_readFine ∈ bw := bw_mem (pk_1 (yX1_readFine, 3) (List.mem_of_getElem? (i := 7) rfl)) rfl
theorem qp1_8 : Cond.selects RX10 yX10_isSlot yX10_isSlot ∈ bw := bw_mem (pk_1 (yX10_isSlot, 12) (List.mem_of_getElem? (i := 8) rfl)) rfl
theorem qp1_9 : Cond.selects RX10 yX10_isPerson yX10_isPerson ∈ bw := bw_mem (pk_1 (yX10_isPerson, 12) (List.mem_of_getElem? (i := 9) rfl)) rfl
theorem qp1_10 : Cond.selects RX0 yX0_makeBread yX0_makeBread ∈ bw := bw_mem (pk_1 (yX0_makeBread, 6) (List.mem_of_getElem? (i := 10) rfl)) rfl
theorem qp1_11 : Cond.selects RX0 yX0_toldFor yX0_toldFor ∈ bw := bw_mem (pk_1 (yX0_toldFor, 6) (List.mem_of_getElem? (i := 11) rfl)) rfl
theorem qp1_12 : Cond.selects RX0 yX0_odd yX0_odd ∈ bw := bw_mem (pk_1 (yX0_odd, 6) (List.mem_of_getElem? (i := 12) rfl)) rfl
theorem qp1_13 : Cond.selects RX0 yX0_blame yX0_blame ∈ bw := bw_mem (pk_1 (yX0_blame, 6) (List.mem_of_getElem? (i := 13) rfl)) rfl
theorem qp1_14 : Cond.selects RX0 yX0_isToldOtherwise yX0_isToldOtherwise ∈ bw := bw_mem (pk_1 (yX0_isToldOtherwise, 6) (List.mem_of_getElem? (i := 14) rfl)) rfl
theorem qp1_15 : Cond.selects RX0 yX0_addFault yX0_addFault ∈ bw := bw_mem (pk_1 (yX0_addFault, 6) (List.mem_of_getElem? (i := 15) rfl)) rfl
theorem qp2_0 : Cond.selects RX5 yX5_reckon yX5_reckon ∈ bw := bw_mem (pk_2 (yX5_reckon, 6) (List.mem_of_getElem? (i := 0) rfl)) rfl
theorem qp2_1 : Cond.selects RX5 yX5_rowOf yX5_rowOf ∈ bw := bw_mem (pk_2 (yX5_rowOf, 6) (List.mem_of_getElem? (i := 1) rfl)) rfl
theorem qp2_2 : Cond.selects RX5 yX5_clearRow yX5_clearRow ∈ bw := bw_mem (pk_2 (yX5_clearRow, 6) (List.mem_of_getElem? (i := 2) rfl)) rfl
theorem qp2_3 : Cond.selects RX5 yX5_offer yX5_offer ∈ bw := bw_mem (pk_2 (yX5_offer, 6) (List.mem_of_getElem? (i := 3) rfl)) rfl
theorem qp2_4 : Cond.selects RX5 yX5_findWorths yX5_findWorths ∈ bw := bw_mem (pk_2 (yX5_findWorths, 6) (List.mem_of_getElem? (i := 4) rfl)) rfl
theorem qp2_5 : Cond.selects RX5 yX5_isAllowed yX5_isAllowed ∈ bw := bw_mem (pk_2 (yX5_isAllowed, 6) (List.mem_of_getElem? (i := 5) rfl)) rfl
theorem qp2_6 : Cond.selects RX5 yX5_madeBy yX5_madeBy ∈ bw := bw_mem (pk_2 (yX5_madeBy, 6) (List.mem_of_getElem? (i := 6) rfl)) rfl
theorem qp2_7 : Cond.selects RX5 yX5_worthOf yX5_worthOf ∈ bw := bw_mem (pk_2 (yX5_worthOf, 6) (List.mem_of_getElem? (i := 7) rfl)) rfl
theorem qp2_8 : Cond.selects RX5 yX5_reckonRow yX5_reckonRow ∈ bw := bw_mem (pk_2 (yX5_reckonRow, 6) (List.mem_of_getElem? (i := 8) rfl)) rfl
theorem qp2_9 : Cond.selects RX5 yX5_offerAll yX5_offerAll ∈ bw := bw_mem (pk_2 (yX5_offerAll, 6) (List.mem_of_getElem? (i := 9) rfl)) rfl
theorem qp2_10 : Cond.selects RX5 yX5_bestFrom yX5_bestFrom ∈ bw := bw_mem (pk_2 (yX5_bestFrom, 6) (List.mem_of_getElem? (i := 10) rfl)) rfl
theorem qp2_11 : Cond.selects RX5 yX5_choose yX5_choose ∈ bw := bw_mem (pk_2 (yX5_choose, 6) (List.mem_of_getElem? (i := 11) rfl)) rfl
theorem qp2_12 : Cond.selects RX3 yX3_leastOfAll yX3_leastOfAll ∈ bw := bw_mem (pk_2 (yX3_leastOfAll, 1) (List.mem_of_getElem? (i := 12) rfl)) rfl
theorem qp2_13 : Cond.selects RX4 yX4_leastWith yX4_leastWith ∈ bw := bw_mem (pk_2 (yX4_leastWith, 2) (List.mem_of_getElem? (i := 13) rfl)) rfl
theorem qp2_14 : Cond.selects RX4 yX4_firstBest yX4_firstBest ∈ bw := bw_mem (pk_2 (yX4_firstBest, 2) (List.mem_of_getElem? (i := 14) rfl)) rfl
theorem qp2_15 : Cond.selects RX2 yX2_greatestOf yX2_greatestOf ∈ bw := bw_mem (pk_2 (yX2_greatestOf, 2) (List.mem_of_getElem? (i := 15) rfl)) rfl
theorem qp3_0 : Cond.selects RX2 yX2_greatestOfSet yX2_greatestOfSet ∈ bw := bw_mem (pk_3 (yX2_greatestOfSet, 2) (List.mem_of_getElem? (i := 0) rfl)) rfl
theorem qp3_1 : Cond.selects RX2 yX2_greatestKnown yX2_greatestKnown ∈ bw := bw_mem (pk_3 (yX2_greatestKnown, 2) (List.mem_of_getElem? (i := 1) rfl)) rfl
theorem qp3_2 : Cond.selects RX2 yX2_valueOf yX2_valueOf ∈ bw := bw_mem (pk_3 (yX2_valueOf, 2) (List.mem_of_getElem? (i := 2) rfl)) rfl
theorem qp3_3 : Cond.selects RX6 yX6_reckon yX6_reckon ∈ bw := bw_mem (pk_3 (yX6_reckon, 3) (List.mem_of_getElem? (i := 3) rfl)) rfl
theorem qp3_4 : Cond.selects RX6 yX6_leastFrom yX6_leastFrom ∈ bw := bw_mem (pk_3 (yX6_leastFrom, 3) (List.mem_of_getElem? (i := 4) rfl)) rfl
theorem qp3_5 : Cond.selects RX6 yX6_slipTo yX6_slipTo ∈ bw := bw_mem (pk_3 (yX6_slipTo, 3) (List.mem_of_getElem? (i := 5) rfl)) rfl
theorem qp3_6 : Cond.selects RX6 yX6_costOf yX6_costOf ∈ bw := bw_mem (pk_3 (yX6_costOf, 3) (List.mem_of_getElem? (i := 6) rfl)) rfl
theorem qp3_7 : Cond.selects RX11 yX11_begin yX11_begin ∈ bw := bw_mem (pk_3 (yX11_begin, 31) (List.mem_of_getElem? (i := 7) rfl)) rfl
theorem qp3_8 : Cond.selects RX11 yX11_token yX11_token ∈ bw := bw_mem (pk_3 (yX11_token, 31) (List.mem_of_getElem? (i := 8) rfl)) rfl
theorem qp3_9 : Cond.selects RX11 yX11_readsLine yX11_readsLine ∈ bw := bw_mem (pk_3 (yX11_readsLine, 31) (List.mem_of_getElem? (i := 9) rfl)) rfl
theorem qp3_10 : Cond.selects RX11 yX11_wordOf yX11_wordOf ∈ bw := bw_mem (pk_3 (yX11_wordOf, 31) (List.mem_of_getElem? (i := 10) rfl)) rfl
theorem qp3_11 : Cond.selects RX11 yX11_isWord yX11_isWord ∈ bw := bw_mem (pk_3 (yX11_isWord, 31) (List.mem_of_getElem? (i := 11) rfl)) rfl
theorem qp3_12 : Cond.selects RX11 yX11_readsRest yX11_readsRest ∈ bw := bw_mem (pk_3 (yX11_readsRest, 31) (List.mem_of_getElem? (i := 12) rfl)) rfl
theorem qp3_13 : Cond.selects RX11 yX11_reads yX11_reads ∈ bw := bw_mem (pk_3 (yX11_reads, 31) (List.mem_of_getElem? (i := 13) rfl)) rfl
theorem qp3_14 : Cond.selects RX11 yX11_readsBread yX11_readsBread ∈ bw := bw_mem (pk_3 (yX11_readsBread, 31) (List.mem_of_getElem? (i := 14) rfl)) rfl
theorem qp3_15 : Cond.selects RX11 yX11_readsWork yX11_readsWork ∈ bw := bw_mem (pk_3 (yX11_readsWork, 31) (List.mem_of_getElem? (i := 15) rfl)) rfl
theorem qp4_0 : Cond.selects RX11 yX11_tell yX11_tell ∈ bw := bw_mem (pk_4 (yX11_tell, 31) (List.mem_of_getElem? (i := 0) rfl)) rfl
theorem qp4_1 : Cond.selects RX11 yX11_isPair yX11_isPair ∈ bw := bw_mem (pk_4 (yX11_isPair, 31) (List.mem_of_getElem? (i := 1) rfl)) rfl
theorem qp4_2 : Cond.selects RX11 yX11_isHour yX11_isHour ∈ bw := bw_mem (pk_4 (yX11_isHour, 31) (List.mem_of_getElem? (i := 2) rfl)) rfl
theorem qp4_3 : Cond.selects RX11 yX11_day yX11_day ∈ bw := bw_mem (pk_4 (yX11_day, 31) (List.mem_of_getElem? (i := 3) rfl)) rfl
theorem qp4_4 : Cond.selects RX11 yX11_isBreach yX11_isBreach ∈ bw := bw_mem (pk_4 (yX11_isBreach, 31) (List.mem_of_getElem? (i := 4) rfl)) rfl
theorem qp4_5 : Cond.selects RX11 yX11_does yX11_does ∈ bw := bw_mem (pk_4 (yX11_does, 31) (List.mem_of_getElem? (i := 5) rfl)) rfl
theorem qp4_6 : Cond.selects RX11 yX11_meansOf yX11_meansOf ∈ bw := bw_mem (pk_4 (yX11_meansOf, 31) (List.mem_of_getElem? (i := 6) rfl)) rfl
theorem qp4_7 : Cond.selects RX11 yX11_may yX11_may ∈ bw := bw_mem (pk_4 (yX11_may, 31) (List.mem_of_getElem? (i := 7) rfl)) rfl
theorem qp4_8 : Cond.selects RX11 yX11_strays yX11_strays ∈ bw := bw_mem (pk_4 (yX11_strays, 31) (List.mem_of_getElem? (i := 8) rfl)) rfl
theorem qp4_9 : Cond.selects RX11 yX11_charge yX11_charge ∈ bw := bw_mem (pk_4 (yX11_charge, 31) (List.mem_of_getElem? (i := 9) rfl)) rfl
theorem qp4_10 : Cond.selects RX11 yX11_choose yX11_choose ∈ bw := bw_mem (pk_4 (yX11_choose, 31) (List.mem_of_getElem? (i := 10) rfl)) rfl
theorem qp4_11 : Cond.selects RX11 yX11_layWorths yX11_layWorths ∈ bw := bw_mem (pk_4 (yX11_layWorths, 31) (List.mem_of_getElem? (i := 11) rfl)) rfl
theorem qp4_12 : Cond.selects RX11 yX11_worthBy yX11_worthBy ∈ bw := bw_mem (pk_4 (yX11_worthBy, 31) (List.mem_of_getElem? (i := 12) rfl)) rfl
theorem qp4_13 : Cond.selects RX11 yX11_fits yX11_fits ∈ bw := bw_mem (pk_4 (yX11_fits, 31) (List.mem_of_getElem? (i := 13) rfl)) rfl
theorem qp4_14 : Cond.selects RX11 yX11_breadOf yX11_breadOf ∈ bw := bw_mem (pk_4 (yX11_breadOf, 31) (List.mem_of_getElem? (i := 14) rfl)) rfl
theorem qp4_15 : Cond.selects RX11 yX11_layRests yX11_layRests ∈ bw := bw_mem (pk_4 (yX11_layRests, 31) (List.mem_of_getElem? (i := 15) rfl)) rfl
theorem qp5_0 : Cond.selects RX11 yX11_harmBy yX11_harmBy ∈ bw := bw_mem (pk_5 (yX11_harmBy, 31) (List.mem_of_getElem? (i := 0) rfl)) rfl
theorem qp5_1 : Cond.selects RX11 yX11_stays yX11_stays ∈ bw := bw_mem (pk_5 (yX11_stays, 31) (List.mem_of_getElem? (i := 1) rfl)) rfl
theorem qp5_2 : Cond.selects RX11 yX11_slipped yX11_slipped ∈ bw := bw_mem (pk_5 (yX11_slipped, 31) (List.mem_of_getElem? (i := 2) rfl)) rfl
theorem qp5_3 : Cond.selects RX11 yX11_copy yX11_copy ∈ bw := bw_mem (pk_5 (yX11_copy, 31) (List.mem_of_getElem? (i := 3) rfl)) rfl
theorem nq_0 : Cond.fieldLinkNest RX5 53 "EvenDays$Told" "pairs" "I" "EvenDays" ∈ ev_nw := List.mem_of_getElem? (i := 0) rfl
theorem nq_1 : Cond.fieldLinkNest RX1 99 "EvenDays$Told" "pairs" "I" "EvenDays" ∈ ev_nw := List.mem_of_getElem? (i := 1) rfl
theorem nq_2 : Cond.fieldLinkNest RX0 80 "EvenDays$Told" "pairs" "I" "EvenDays" ∈ ev_nw := List.mem_of_getElem? (i := 2) rfl
theorem nq_3 : Cond.fieldLinkNest RX10 201 "EvenDays$Told" "pairs" "I" "EvenDays" ∈ ev_nw := List.mem_of_getElem? (i := 3) rfl
theorem nq_4 : Cond.fieldLinkNest RX5 42 "EvenDays$Told" "hours" "I" "EvenDays" ∈ ev_nw := List.mem_of_getElem? (i := 4) rfl
theorem nq_5 : Cond.fieldLinkNest RX1 105 "EvenDays$Told" "hours" "I" "EvenDays" ∈ ev_nw := List.mem_of_getElem? (i := 5) rfl
theorem nq_6 : Cond.fieldLinkNest RX10 163 "EvenDays$Told" "hours" "I" "EvenDays" ∈ ev_nw := List.mem_of_getElem? (i := 6) rfl
theorem nq_7 : Cond.fieldLinkNest RX0 83 "EvenDays$Told" "hours" "I" "EvenDays" ∈ ev_nw := List.mem_of_getElem? (i := 7) rfl
theorem nq_8 : Cond.fieldLinkNest RX1 119 "EvenDays$Told" "eats" "I" "EvenDays" ∈ ev_nw := List.mem_of_getElem? (i := 8) rfl
theorem nq_9 : Cond.fieldLinkNest RX0 97 "EvenDays$Told" "eats" "I" "EvenDays" ∈ ev_nw := List.mem_of_getElem? (i := 9) rfl
theorem nq_10 : Cond.fieldLinkNest RX10 254 "EvenDays$Told" "eats" "I" "EvenDays" ∈ ev_nw := List.mem_of_getElem? (i := 10) rfl
theorem nq_11 : Cond.fieldLinkNest RX1 121 "EvenDays$Told" "fine" "I" "EvenDays" ∈ ev_nw := List.mem_of_getElem? (i := 11) rfl
theorem nq_12 : Cond.fieldLinkNest RX0 107 "EvenDays$Told" "fine" "I" "EvenDays" ∈ ev_nw := List.mem_of_getElem? (i := 12) rfl
theorem nq_13 : Cond.fieldLinkNest RX10 257 "EvenDays$Told" "fine" "I" "EvenDays" ∈ ev_nw := List.mem_of_getElem? (i := 13) rfl
theorem nq_14 : Cond.methodLinkNest RX10 21 yX7_init "EvenDays" ∈ ev_nw := List.mem_of_getElem? (i := 14) rfl
theorem nq_15 : Cond.fieldLinkNest RX10 91 "EvenDays$Text" "length" "I" "EvenDays" ∈ ev_nw := List.mem_of_getElem? (i := 15) rfl
theorem nq_16 : Cond.fieldLinkNest RX8 25 "EvenDays$Text" "length" "I" "EvenDays" ∈ ev_nw := List.mem_of_getElem? (i := 16) rfl
theorem nq_17 : Cond.fieldLinkNest RX1 42 "EvenDays$Tokens" "begin" "I" "EvenDays" ∈ ev_nw := List.mem_of_getElem? (i := 17) rfl
theorem nq_18 : Cond.fieldLinkNest RX10 112 "EvenDays$Lines" "read" "I" "EvenDays" ∈ ev_nw := List.mem_of_getElem? (i := 18) rfl
theorem nq_19 : Cond.fieldLinkNest RX10 154 "EvenDays$Days" "gone" "I" "EvenDays" ∈ ev_nw := List.mem_of_getElem? (i := 19) rfl
theorem nq_20 : Cond.fieldLinkNest RX10 174 "EvenDays$Days" "bread" "[I" "EvenDays" ∈ ev_nw := List.mem_of_getElem? (i := 20) rfl
theorem nq_21 : Cond.fieldLinkNest RX10 207 "EvenDays$Planner" "one" "I" "EvenDays" ∈ ev_nw := List.mem_of_getElem? (i := 21) rfl
theorem nq_22 : Cond.fieldLinkNest RX10 210 "EvenDays$Planner" "other" "I" "EvenDays" ∈ ev_nw := List.mem_of_getElem? (i := 22) rfl
theorem nq_23 : Cond.methodLinkNest RX10 61 yX3_init "EvenDays" ∈ ev_nw := List.mem_of_getElem? (i := 23) rfl
theorem nq_24 : Cond.methodLinkNest RX10 68 yX4_init "EvenDays" ∈ ev_nw := List.mem_of_getElem? (i := 24) rfl
theorem nq_25 : Cond.methodLinkNest RX10 75 yX2_init "EvenDays" ∈ ev_nw := List.mem_of_getElem? (i := 25) rfl
theorem nq_26 : Cond.methodLinkNest RX10 82 yX6_init "EvenDays" ∈ ev_nw := List.mem_of_getElem? (i := 26) rfl
theorem nq_27 : Cond.fieldLinkNest RX10 238 "EvenDays$Rows" "length" "I" "EvenDays" ∈ ev_nw := List.mem_of_getElem? (i := 27) rfl
theorem nq_28 : Cond.methodLinkNest RX7 19 yX10_within "EvenDays" ∈ ev_nw := List.mem_of_getElem? (i := 28) rfl
theorem nq_29 : Cond.methodLinkNest RX1 127 yX10_within "EvenDays" ∈ ev_nw := List.mem_of_getElem? (i := 29) rfl
theorem nq_30 : Cond.methodLinkNest RX9 54 yX10_within "EvenDays" ∈ ev_nw := List.mem_of_getElem? (i := 30) rfl
theorem nq_31 : Cond.methodLinkNest RX1 112 yX10_slotIndex "EvenDays" ∈ ev_nw := List.mem_of_getElem? (i := 31) rfl
theorem nq_32 : Cond.methodLinkNest RX9 58 yX10_slotIndex "EvenDays" ∈ ev_nw := List.mem_of_getElem? (i := 32) rfl
theorem nq_33 : Cond.methodLinkNest RX0 40 yX10_slotIndex "EvenDays" ∈ ev_nw := List.mem_of_getElem? (i := 33) rfl
theorem nq_34 : Cond.methodLinkNest RX0 44 yX10_within "EvenDays" ∈ ev_nw := List.mem_of_getElem? (i := 34) rfl
theorem nq_35 : Cond.methodLinkNest RX0 48 yX10_personIndex "EvenDays" ∈ ev_nw := List.mem_of_getElem? (i := 35) rfl
theorem nq_36 : Cond.methodLinkNest RX5 26 yX10_within "EvenDays" ∈ ev_nw := List.mem_of_getElem? (i := 36) rfl
theorem nq_37 : Cond.methodLinkNest RX4 18 yX10_within "EvenDays" ∈ ev_nw := List.mem_of_getElem? (i := 37) rfl
theorem nq_38 : Cond.methodLinkNest RX2 31 yX10_within "EvenDays" ∈ ev_nw := List.mem_of_getElem? (i := 38) rfl
theorem nq_39 : Cond.methodLinkNest RX6 48 yX10_within "EvenDays" ∈ ev_nw := List.mem_of_getElem? (i := 39) rfl
theorem cf_X0 : clF 0 RX0 TX0 6 tyX0 := ⟨rfl, (show ∀ w ∈ u_ws RX0 TX0 6, w ∈ bw from List.forall_mem_cons.mpr ⟨q1_155, List.forall_mem_cons.mpr ⟨q1_157, List.forall_mem_cons.mpr ⟨q1_159, List.forall_mem_cons.mpr ⟨q1_161, List.forall_mem_cons.mpr ⟨q1_163, List.forall_mem_cons.mpr ⟨q1_165, fun _ h => absurd h List.not_mem_nil⟩⟩⟩⟩⟩⟩), tyX0_ok, nmX0⟩
theorem cf_X1 : clF 1 RX1 TX1 3 tyX1 := ⟨rfl, (show ∀ w ∈ u_ws RX1 TX1 3, w ∈ bw from List.forall_mem_cons.mpr ⟨q1_129, List.forall_mem_cons.mpr ⟨q1_131, List.forall_mem_cons.mpr ⟨q1_133, fun _ h => absurd h List.not_mem_nil⟩⟩⟩), tyX1_ok, nmX1⟩
theorem cf_X2 : clF 2 RX2 TX2 2 tyX2 := ⟨rfl, (show ∀ w ∈ u_ws RX2 TX2 2, w ∈ bw from List.forall_mem_cons.mpr ⟨q1_228, List.forall_mem_cons.mpr ⟨q1_230, fun _ h => absurd h List.not_mem_nil⟩⟩), tyX2_ok, nmX2⟩
theorem cf_X3 : clF 3 RX3 TX3 1 tyX3 := ⟨rfl, (show ∀ w ∈ u_ws RX3 TX3 1, w ∈ bw from List.forall_mem_cons.mpr ⟨q1_204, fun _ h => absurd h List.not_mem_nil⟩), tyX3_ok, nmX3⟩
theorem cf_X4 : clF 4 RX4 TX4 2 tyX4 := ⟨rfl, (show ∀ w ∈ u_ws RX4 TX4 2, w ∈ bw from List.forall_mem_cons.mpr ⟨q1_215, List.forall_mem_cons.mpr ⟨q1_217, fun _ h => absurd h List.not_mem_nil⟩⟩), tyX4_ok, nmX4⟩
theorem cf_X5 : clF 5 RX5 TX5 6 tyX5 := ⟨rfl, (show ∀ w ∈ u_ws RX5 TX5 6, w ∈ bw from List.forall_mem_cons.mpr ⟨q1_183, List.forall_mem_cons.mpr ⟨q1_185, List.forall_mem_cons.mpr ⟨q1_187, List.forall_mem_cons.mpr ⟨q1_189, List.forall_mem_cons.mpr ⟨q1_191, List.forall_mem_cons.mpr ⟨q1_193, fun _ h => absurd h List.not_mem_nil⟩⟩⟩⟩⟩⟩), tyX5_ok, nmX5⟩
theorem cf_X6 : clF 6 RX6 TX6 3 tyX6 := ⟨rfl, (show ∀ w ∈ u_ws RX6 TX6 3, w ∈ bw from List.forall_mem_cons.mpr ⟨q2_3, List.forall_mem_cons.mpr ⟨q2_5, List.forall_mem_cons.mpr ⟨q2_7, fun _ h => absurd h List.not_mem_nil⟩⟩⟩), tyX6_ok, nmX6⟩
theorem cf_X7 : clF 7 RX7 TX7 2 tyX7 := ⟨rfl, (show ∀ w ∈ u_ws RX7 TX7 2, w ∈ bw from List.forall_mem_cons.mpr ⟨q1_94, List.forall_mem_cons.mpr ⟨q1_96, fun _ h => absurd h List.not_mem_nil⟩⟩), tyX7_ok, nmX7⟩
theorem cf_X8 : clF 8 RX8 TX8 4 tyX8 := ⟨rfl, (show ∀ w ∈ u_ws RX8 TX8 4, w ∈ bw from List.forall_mem_cons.mpr ⟨q1_116, List.forall_mem_cons.mpr ⟨q1_118, List.forall_mem_cons.mpr ⟨q1_120, List.forall_mem_cons.mpr ⟨q1_122, fun _ h => absurd h List.not_mem_nil⟩⟩⟩⟩), tyX8_ok, nmX8⟩
theorem cf_X9 : clF 9 RX9 TX9 9 tyX9 := ⟨rfl, (show ∀ w ∈ u_ws RX9 TX9 9, w ∈ bw from List.forall_mem_cons.mpr ⟨q1_64, List.forall_mem_cons.mpr ⟨q1_66, List.forall_mem_cons.mpr ⟨q1_68, List.forall_mem_cons.mpr ⟨q1_70, List.forall_mem_cons.mpr ⟨q1_72, List.forall_mem_cons.mpr ⟨q1_74, List.forall_mem_cons.mpr ⟨q1_76, List.forall_mem_cons.mpr ⟨q1_78, List.forall_mem_cons.mpr ⟨q1_80, fun _ h => absurd h List.not_mem_nil⟩⟩⟩⟩⟩⟩⟩⟩⟩), tyX9_ok, nmX9⟩
theorem cf_X10 : clF 10 RX10 TX10 12 tyX10 := ⟨rfl, (show ∀ w ∈ u_ws RX10 TX10 12, w ∈ bw from List.forall_mem_cons.mpr ⟨q2_22, List.forall_mem_cons.mpr ⟨q2_24, List.forall_mem_cons.mpr ⟨q2_26, List.forall_mem_cons.mpr ⟨q2_28, List.forall_mem_cons.mpr ⟨q2_30, List.forall_mem_cons.mpr ⟨q2_32, List.forall_mem_cons.mpr ⟨q2_34, List.forall_mem_cons.mpr ⟨q2_36, List.forall_mem_cons.mpr ⟨q2_38, List.forall_mem_cons.mpr ⟨q2_40, List.forall_mem_cons.mpr ⟨q2_42, List.forall_mem_cons.mpr ⟨q2_44, fun _ h => absurd h List.not_mem_nil⟩⟩⟩⟩⟩⟩⟩⟩⟩⟩⟩⟩), tyX10_ok, nmX10⟩
theorem cf_X11 : clF 11 RX11 TX11 31 tyX11 := ⟨rfl, (show ∀ w ∈ u_ws RX11 TX11 31, w ∈ bw from List.forall_mem_cons.mpr ⟨q4_204, List.forall_mem_cons.mpr ⟨q4_206, List.forall_mem_cons.mpr ⟨q4_208, List.forall_mem_cons.mpr ⟨q4_210, List.forall_mem_cons.mpr ⟨q4_212, List.forall_mem_cons.mpr ⟨q4_214, List.forall_mem_cons.mpr ⟨q4_216, List.forall_mem_cons.mpr ⟨q4_218, List.forall_mem_cons.mpr ⟨q4_220, List.forall_mem_cons.mpr ⟨q4_222, List.forall_mem_cons.mpr ⟨q4_224, List.forall_mem_cons.mpr ⟨q4_226, List.forall_mem_cons.mpr ⟨q4_228, List.forall_mem_cons.mpr ⟨q4_230, List.forall_mem_cons.mpr ⟨q4_232, List.forall_mem_cons.mpr ⟨q4_234, List.forall_mem_cons.mpr ⟨q4_236, List.forall_mem_cons.mpr ⟨q4_238, List.forall_mem_cons.mpr ⟨q5_0, List.forall_mem_cons.mpr ⟨q5_2, List.forall_mem_cons.mpr ⟨q5_4, List.forall_mem_cons.mpr ⟨q5_6, List.forall_mem_cons.mpr ⟨q5_8, List.forall_mem_cons.mpr ⟨q5_10, List.forall_mem_cons.mpr ⟨q5_12, List.forall_mem_cons.mpr ⟨q5_14, List.forall_mem_cons.mpr ⟨q5_16, List.forall_mem_cons.mpr ⟨q5_18, List.forall_mem_cons.mpr ⟨q5_20, List.forall_mem_cons.mpr ⟨q5_22, List.forall_mem_cons.mpr ⟨q5_24, fun _ h => absurd h List.not_mem_nil⟩⟩⟩⟩⟩⟩⟩⟩⟩⟩⟩⟩⟩⟩⟩⟩⟩⟩⟩⟩⟩⟩⟩⟩⟩⟩⟩⟩⟩⟩⟩), tyX11_ok, nmX11⟩
theorem md_J0_charAt_5068e : mdV yJ0_charAt_5068e (Cond.code yJ0_charAt_5068e cJ0_charAt_5068e 2 (some .char)) cJ0_charAt_5068e 2 (some .char) 1 := ⟨rfl, by decide +kernel, q2_111, q2_112, q1_14, q2_113⟩
theorem md_J0_checkIndex_df160 : mdS yJ0_checkIndex_df160 (Cond.code yJ0_checkIndex_df160 cJ0_checkIndex_df160 2 none) cJ0_checkIndex_df160 2 none 2 := ⟨rfl, by decide +kernel, q2_122, q1_14, q2_123⟩
theorem md_J0_coder_7d493 : mdV yJ0_coder_7d493 (Cond.code yJ0_coder_7d493 cJ0_coder_7d493 1 (some .byte)) cJ0_coder_7d493 1 (some .byte) 0 := ⟨rfl, by decide +kernel, q2_105, q2_106, q1_14, q2_107⟩
theorem md_J0_isLatin1_aae02 : mdV yJ0_isLatin1_aae02 (Cond.code yJ0_isLatin1_aae02 cJ0_isLatin1_aae02 1 (some .boolean)) cJ0_isLatin1_aae02 1 (some .boolean) 0 := ⟨rfl, by decide +kernel, q2_115, q2_116, q1_14, q2_117⟩
theorem md_J0_length_8abf5 : mdV yJ0_length_8abf5 (Cond.code yJ0_length_8abf5 cJ0_length_8abf5 1 (some .int)) cJ0_length_8abf5 1 (some .int) 0 := ⟨rfl, by decide +kernel, q2_101, q2_102, q1_14, q2_103⟩
theorem md_J1_charAt_3b067 : mdS yJ1_charAt_3b067 (Cond.code yJ1_charAt_3b067 cJ1_charAt_3b067 2 (some .char)) cJ1_charAt_3b067 2 (some .char) 2 := ⟨rfl, by decide +kernel, q2_119, q1_15, q2_120⟩
theorem md_J3_checkIndex_8e157 : mdS yJ3_checkIndex_8e157 (Cond.code yJ3_checkIndex_8e157 cJ3_checkIndex_8e157 3 (some .int)) cJ3_checkIndex_8e157 3 (some .int) 3 := ⟨rfl, by decide +kernel, q2_127, q1_16, q2_128⟩
theorem md_J6_bitCount_0f7a4 : mdS yJ6_bitCount_0f7a4 (Cond.code yJ6_bitCount_0f7a4 cJ6_bitCount_0f7a4 1 (some .int)) cJ6_bitCount_0f7a4 1 (some .int) 1 := ⟨rfl, by decide +kernel, q4_34, q1_19, q4_35⟩
theorem md_J7_fill_53178 : mdS yJ7_fill_53178 (Cond.code yJ7_fill_53178 cJ7_fill_53178 4 none) cJ7_fill_53178 4 none 2 := ⟨rfl, by decide +kernel, q1_39, q1_3, q1_40⟩
theorem md_X0_addFault : mdV yX0_addFault (Cond.code yX0_addFault cX0_addFault 5 none) cX0_addFault 5 none 3 := ⟨rfl, by decide +kernel, q3_121, qp1_15, q1_7, q3_122⟩
theorem md_X0_becomeLike : mdV yX0_becomeLike (Cond.code yX0_becomeLike cX0_becomeLike 3 none) cX0_becomeLike 3 none 1 := ⟨rfl, by decide +kernel, q4_152, q4_153, q1_7, q4_154⟩
theorem md_X0_beginAnew : mdV yX0_beginAnew (Cond.code yX0_beginAnew cX0_beginAnew 1 none) cX0_beginAnew 1 none 0 := ⟨rfl, by decide +kernel, q1_143, q1_144, q1_7, q1_145⟩
theorem md_X0_blame : mdV yX0_blame (Cond.code yX0_blame cX0_blame 6 none) cX0_blame 6 none 3 := ⟨rfl, by decide +kernel, q3_113, qp1_13, q1_7, q3_114⟩
theorem md_X0_faultsOf : mdV yX0_faultsOf (Cond.code yX0_faultsOf cX0_faultsOf 4 (some .int)) cX0_faultsOf 4 (some .int) 2 := ⟨rfl, by decide +kernel, q3_128, q3_129, q1_7, q3_130⟩
theorem md_X0_isBreach : mdV yX0_isBreach (Cond.code yX0_isBreach cX0_isBreach 6 (some .boolean)) cX0_isBreach 6 (some .boolean) 3 := ⟨rfl, by decide +kernel, q3_104, q3_105, q1_7, q3_106⟩
theorem md_X0_isIll : mdV yX0_isIll (Cond.code yX0_isIll cX0_isIll 3 (some .boolean)) cX0_isIll 3 (some .boolean) 2 := ⟨rfl, by decide +kernel, q3_56, q3_57, q1_7, q3_58⟩
theorem md_X0_isToldOtherwise : mdV yX0_isToldOtherwise (Cond.code yX0_isToldOtherwise cX0_isToldOtherwise 6 (some .boolean)) cX0_isToldOtherwise 6 (some .boolean) 4 := ⟨rfl, by decide +kernel, q3_117, qp1_14, q1_7, q3_118⟩
theorem md_X0_makeBread : mdV yX0_makeBread (Cond.code yX0_makeBread cX0_makeBread 5 none) cX0_makeBread 5 none 3 := ⟨rfl, by decide +kernel, q3_74, qp1_10, q1_7, q3_75⟩
theorem md_X0_odd : mdV yX0_odd (Cond.code yX0_odd cX0_odd 1 (some .int)) cX0_odd 1 (some .int) 0 := ⟨rfl, by decide +kernel, q3_87, qp1_12, q1_7, q3_88⟩
theorem md_X0_owedBy : mdV yX0_owedBy (Cond.code yX0_owedBy cX0_owedBy 4 (some .int)) cX0_owedBy 4 (some .int) 2 := ⟨rfl, by decide +kernel, q3_132, q3_133, q1_7, q3_134⟩
theorem md_X0_passOne : mdV yX0_passOne (Cond.code yX0_passOne cX0_passOne 4 none) cX0_passOne 4 none 1 := ⟨rfl, by decide +kernel, q3_69, q3_70, q1_7, q3_71⟩
theorem md_X0_tellIll : mdV yX0_tellIll (Cond.code yX0_tellIll cX0_tellIll 5 none) cX0_tellIll 5 none 3 := ⟨rfl, by decide +kernel, q3_61, q3_62, q1_7, q3_63⟩
theorem md_X0_tellOtherwise : mdV yX0_tellOtherwise (Cond.code yX0_tellOtherwise cX0_tellOtherwise 6 none) cX0_tellOtherwise 6 none 4 := ⟨rfl, by decide +kernel, q3_46, q3_47, q1_7, q3_48⟩
theorem md_X0_toldFor : mdV yX0_toldFor (Cond.code yX0_toldFor cX0_toldFor 5 (some .int)) cX0_toldFor 5 (some .int) 3 := ⟨rfl, by decide +kernel, q3_83, qp1_11, q1_7, q3_84⟩
theorem md_X0_workOf : mdV yX0_workOf (Cond.code yX0_workOf cX0_workOf 6 (some .int)) cX0_workOf 6 (some .int) 4 := ⟨rfl, by decide +kernel, q3_77, q3_78, q1_7, q3_79⟩
theorem md_X10_anew : mdV yX10_anew (Cond.code yX10_anew cX10_anew 2 (some .int)) cX10_anew 2 (some .int) 1 := ⟨rfl, by decide +kernel, q4_25, q4_26, q1_1, q4_27⟩
theorem md_X10_as : mdV yX10_as (Cond.code yX10_as cX10_as 3 (some .int)) cX10_as 3 (some .int) 2 := ⟨rfl, by decide +kernel, q3_147, q3_148, q1_1, q3_149⟩
theorem md_X10_back : mdV yX10_back (Cond.code yX10_back cX10_back 2 (some .int)) cX10_back 2 (some .int) 1 := ⟨rfl, by decide +kernel, q4_156, q4_157, q1_1, q4_158⟩
theorem md_X10_breaches : mdV yX10_breaches (Cond.code yX10_breaches cX10_breaches 4 (some .int)) cX10_breaches 4 (some .int) 1 := ⟨rfl, by decide +kernel, q3_142, q3_143, q1_1, q3_144⟩
theorem md_X10_bread : mdV yX10_bread (Cond.code yX10_bread cX10_bread 2 (some .int)) cX10_bread 2 (some .int) 1 := ⟨rfl, by decide +kernel, q3_137, q3_138, q1_1, q3_139⟩
theorem md_X10_burn : mdV yX10_burn (Cond.code yX10_burn cX10_burn 2 (some .int)) cX10_burn 2 (some .int) 0 := ⟨rfl, by decide +kernel, q4_109, q4_110, q1_1, q4_111⟩
theorem md_X10_count : mdV yX10_count (Cond.code yX10_count cX10_count 2 (some .int)) cX10_count 2 (some .int) 1 := ⟨rfl, by decide +kernel, q4_160, q4_161, q1_1, q4_162⟩
theorem md_X10_days : mdV yX10_days (Cond.code yX10_days cX10_days 3 (some .int)) cX10_days 3 (some .int) 1 := ⟨rfl, by decide +kernel, q3_65, q3_66, q1_1, q3_67⟩
theorem md_X10_done : mdV yX10_done (Cond.code yX10_done cX10_done 5 (some .int)) cX10_done 5 (some .int) 4 := ⟨rfl, by decide +kernel, q3_41, q3_42, q1_1, q3_43⟩
theorem md_X10_erase : mdV yX10_erase (Cond.code yX10_erase cX10_erase 2 (some .int)) cX10_erase 2 (some .int) 0 := ⟨rfl, by decide +kernel, q2_61, q2_62, q1_1, q2_63⟩
theorem md_X10_fault : mdV yX10_fault (Cond.code yX10_fault cX10_fault 1 (some .int)) cX10_fault 1 (some .int) 0 := ⟨rfl, by decide +kernel, q2_65, q2_66, q1_1, q2_67⟩
theorem md_X10_forced : mdV yX10_forced (Cond.code yX10_forced cX10_forced 3 (some .int)) cX10_forced 3 (some .int) 2 := ⟨rfl, by decide +kernel, q4_54, q4_55, q1_1, q4_56⟩
theorem md_X10_fours : mdV yX10_fours (Cond.code yX10_fours cX10_fours 2 (some .int)) cX10_fours 2 (some .int) 1 := ⟨rfl, by decide +kernel, q4_72, q4_73, q1_1, q4_74⟩
theorem md_X10_harm : mdV yX10_harm (Cond.code yX10_harm cX10_harm 4 (some .int)) cX10_harm 4 (some .int) 3 := ⟨rfl, by decide +kernel, q4_16, q4_17, q1_1, q4_18⟩
theorem md_X10_ill : mdV yX10_ill (Cond.code yX10_ill cX10_ill 5 (some .int)) cX10_ill 5 (some .int) 3 := ⟨rfl, by decide +kernel, q3_52, q3_53, q1_1, q3_54⟩
theorem md_X10_isPerson : mdV yX10_isPerson (Cond.code yX10_isPerson cX10_isPerson 3 (some .boolean)) cX10_isPerson 3 (some .boolean) 2 := ⟨rfl, by decide +kernel, q3_25, qp1_9, q1_1, q3_26⟩
theorem md_X10_isPlanAsked : mdS yX10_isPlanAsked (Cond.code yX10_isPlanAsked cX10_isPlanAsked 2 (some .boolean)) cX10_isPlanAsked 2 (some .boolean) 2 := ⟨rfl, by decide +kernel, q3_161, q1_1, q3_162⟩
theorem md_X10_isSlot : mdV yX10_isSlot (Cond.code yX10_isSlot cX10_isSlot 4 (some .boolean)) cX10_isSlot 4 (some .boolean) 3 := ⟨rfl, by decide +kernel, q3_21, qp1_8, q1_1, q3_22⟩
theorem md_X10_isSuch : mdS yX10_isSuch (Cond.code yX10_isSuch cX10_isSuch 4 (some .boolean)) cX10_isSuch 4 (some .boolean) 2 := ⟨rfl, by decide +kernel, q3_154, q1_1, q3_155⟩
theorem md_X10_isValley : mdS yX10_isValley (Cond.code yX10_isValley cX10_isValley 1 (some .boolean)) cX10_isValley 1 (some .boolean) 1 := ⟨rfl, by decide +kernel, q3_28, q1_1, q3_29⟩
theorem md_X10_keep : mdV yX10_keep (Cond.code yX10_keep cX10_keep 2 (some .int)) cX10_keep 2 (some .int) 1 := ⟨rfl, by decide +kernel, q4_148, q4_149, q1_1, q4_150⟩
theorem md_X10_like : mdV yX10_like (Cond.code yX10_like cX10_like 5 (some .int)) cX10_like 5 (some .int) 4 := ⟨rfl, by decide +kernel, q4_58, q4_59, q1_1, q4_60⟩
theorem md_X10_meant : mdV yX10_meant (Cond.code yX10_meant cX10_meant 5 (some .int)) cX10_meant 5 (some .int) 4 := ⟨rfl, by decide +kernel, q3_16, q3_17, q1_1, q3_18⟩
theorem md_X10_news : mdV yX10_news (Cond.code yX10_news cX10_news 5 (some .int)) cX10_news 5 (some .int) 4 := ⟨rfl, by decide +kernel, q3_233, q3_234, q1_1, q3_235⟩
theorem md_X10_person : mdV yX10_person (Cond.code yX10_person cX10_person 4 (some .int)) cX10_person 4 (some .int) 3 := ⟨rfl, by decide +kernel, q3_124, q3_125, q1_1, q3_126⟩
theorem md_X10_personIndex : mdS yX10_personIndex (Cond.code yX10_personIndex cX10_personIndex 2 (some .int)) cX10_personIndex 2 (some .int) 2 := ⟨rfl, by decide +kernel, q2_208, q1_1, q2_209⟩
theorem md_X10_plan : mdV yX10_plan (Cond.code yX10_plan cX10_plan 5 (some .int)) cX10_plan 5 (some .int) 3 := ⟨rfl, by decide +kernel, q3_157, q3_158, q1_1, q3_159⟩
theorem md_X10_planned : mdV yX10_planned (Cond.code yX10_planned cX10_planned 6 (some .int)) cX10_planned 6 (some .int) 5 := ⟨rfl, by decide +kernel, q3_229, q3_230, q1_1, q3_231⟩
theorem md_X10_record : mdV yX10_record (Cond.code yX10_record cX10_record 2 (some .int)) cX10_record 2 (some .int) 1 := ⟨rfl, by decide +kernel, q4_101, q4_102, q1_1, q4_103⟩
theorem md_X10_slips : mdV yX10_slips (Cond.code yX10_slips cX10_slips 4 (some .int)) cX10_slips 4 (some .int) 3 := ⟨rfl, by decide +kernel, q4_113, q4_114, q1_1, q4_115⟩
theorem md_X10_slotIndex : mdS yX10_slotIndex (Cond.code yX10_slotIndex cX10_slotIndex 3 (some .int)) cX10_slotIndex 3 (some .int) 3 := ⟨rfl, by decide +kernel, q2_205, q1_1, q2_206⟩
theorem md_X10_treaty : mdV yX10_treaty (Cond.code yX10_treaty cX10_treaty 2 (some .int)) cX10_treaty 2 (some .int) 0 := ⟨rfl, by decide +kernel, q2_234, q2_235, q1_1, q2_236⟩
theorem md_X10_within : mdS yX10_within (Cond.code yX10_within cX10_within 3 (some .boolean)) cX10_within 3 (some .boolean) 3 := ⟨rfl, by decide +kernel, q2_52, q1_1, q2_53⟩
theorem md_X10_work : mdV yX10_work (Cond.code yX10_work cX10_work 3 (some .int)) cX10_work 3 (some .int) 2 := ⟨rfl, by decide +kernel, q3_3, q3_4, q1_1, q3_5⟩
theorem md_X10_write : mdV yX10_write (Cond.code yX10_write cX10_write 4 (some .int)) cX10_write 4 (some .int) 2 := ⟨rfl, by decide +kernel, q2_48, q2_49, q1_1, q2_50⟩
theorem md_X11_anew : mdV yX11_anew (Cond.code yX11_anew cX11_anew 6 (some .int)) cX11_anew 6 (some .int) 1 := ⟨rfl, by decide +kernel, q5_225, q5_226, q1_13, q5_227⟩
theorem md_X11_as : mdV yX11_as (Cond.code yX11_as cX11_as 5 (some .int)) cX11_as 5 (some .int) 2 := ⟨rfl, by decide +kernel, q5_174, q5_175, q1_13, q5_176⟩
theorem md_X11_back : mdV yX11_back (Cond.code yX11_back cX11_back 2 (some .int)) cX11_back 2 (some .int) 1 := ⟨rfl, by decide +kernel, q6_41, q6_42, q1_13, q6_43⟩
theorem md_X11_begin : mdV yX11_begin (Cond.code yX11_begin cX11_begin 2 none) cX11_begin 2 none 0 := ⟨rfl, by decide +kernel, q4_171, qp3_7, q1_13, q4_172⟩
theorem md_X11_bits : mdS yX11_bits (Cond.code yX11_bits cX11_bits 3 (some .int)) cX11_bits 3 (some .int) 1 := ⟨rfl, by decide +kernel, q5_233, q1_13, q5_234⟩
theorem md_X11_breaches : mdV yX11_breaches (Cond.code yX11_breaches cX11_breaches 4 (some .int)) cX11_breaches 4 (some .int) 1 := ⟨rfl, by decide +kernel, q5_170, q5_171, q1_13, q5_172⟩
theorem md_X11_bread : mdV yX11_bread (Cond.code yX11_bread cX11_bread 2 (some .int)) cX11_bread 2 (some .int) 1 := ⟨rfl, by decide +kernel, q5_165, q5_166, q1_13, q5_167⟩
theorem md_X11_breadOf : mdV yX11_breadOf (Cond.code yX11_breadOf cX11_breadOf 6 (some .int)) cX11_breadOf 6 (some .int) 3 := ⟨rfl, by decide +kernel, q5_204, qp4_14, q1_13, q5_205⟩
theorem md_X11_burn : mdV yX11_burn (Cond.code yX11_burn cX11_burn 2 (some .int)) cX11_burn 2 (some .int) 0 := ⟨rfl, by decide +kernel, q6_16, q6_17, q1_13, q6_18⟩
theorem md_X11_charge : mdV yX11_charge (Cond.code yX11_charge cX11_charge 3 none) cX11_charge 3 none 2 := ⟨rfl, by decide +kernel, q5_157, qp4_9, q1_13, q5_158⟩
theorem md_X11_choose : mdV yX11_choose (Cond.code yX11_choose cX11_choose 7 (some .boolean)) cX11_choose 7 (some .boolean) 2 := ⟨rfl, by decide +kernel, q5_188, qp4_10, q1_13, q5_189⟩
theorem md_X11_classAt : mdS yX11_classAt (Cond.code yX11_classAt cX11_classAt 2 (some .int)) cX11_classAt 2 (some .int) 2 := ⟨rfl, by decide +kernel, q5_218, q1_13, q5_219⟩
theorem md_X11_copy : mdV yX11_copy (Cond.code yX11_copy cX11_copy 4 none) cX11_copy 4 none 2 := ⟨rfl, by decide +kernel, q6_38, qp5_3, q1_13, q6_39⟩
theorem md_X11_count : mdV yX11_count (Cond.code yX11_count cX11_count 2 (some .int)) cX11_count 2 (some .int) 1 := ⟨rfl, by decide +kernel, q6_45, q6_46, q1_13, q6_47⟩
theorem md_X11_day : mdV yX11_day (Cond.code yX11_day cX11_day 5 none) cX11_day 5 none 0 := ⟨rfl, by decide +kernel, q5_133, qp4_3, q1_13, q5_134⟩
theorem md_X11_days : mdV yX11_days (Cond.code yX11_days cX11_days 3 (some .int)) cX11_days 3 (some .int) 1 := ⟨rfl, by decide +kernel, q5_127, q5_128, q1_13, q5_129⟩
theorem md_X11_does : mdV yX11_does (Cond.code yX11_does cX11_does 6 (some .int)) cX11_does 6 (some .int) 3 := ⟨rfl, by decide +kernel, q5_141, qp4_5, q1_13, q5_142⟩
theorem md_X11_done : mdV yX11_done (Cond.code yX11_done cX11_done 5 (some .int)) cX11_done 5 (some .int) 4 := ⟨rfl, by decide +kernel, q5_119, q5_120, q1_13, q5_121⟩
theorem md_X11_erase : mdV yX11_erase (Cond.code yX11_erase cX11_erase 2 (some .int)) cX11_erase 2 (some .int) 0 := ⟨rfl, by decide +kernel, q5_37, q5_38, q1_13, q5_39⟩
theorem md_X11_fault : mdV yX11_fault (Cond.code yX11_fault cX11_fault 2 (some .int)) cX11_fault 2 (some .int) 0 := ⟨rfl, by decide +kernel, q5_41, q5_42, q1_13, q5_43⟩
theorem md_X11_fits : mdV yX11_fits (Cond.code yX11_fits cX11_fits 8 (some .boolean)) cX11_fits 8 (some .boolean) 4 := ⟨rfl, by decide +kernel, q5_200, qp4_13, q1_13, q5_201⟩
theorem md_X11_forced : mdV yX11_forced (Cond.code yX11_forced cX11_forced 3 (some .int)) cX11_forced 3 (some .int) 2 := ⟨rfl, by decide +kernel, q6_0, q6_1, q1_13, q6_2⟩
theorem md_X11_fours : mdV yX11_fours (Cond.code yX11_fours cX11_fours 10 (some .int)) cX11_fours 10 (some .int) 1 := ⟨rfl, by decide +kernel, q6_8, q6_9, q1_13, q6_10⟩
theorem md_X11_harm : mdV yX11_harm (Cond.code yX11_harm cX11_harm 5 (some .int)) cX11_harm 5 (some .int) 3 := ⟨rfl, by decide +kernel, q5_221, q5_222, q1_13, q5_223⟩
theorem md_X11_harmBy : mdV yX11_harmBy (Cond.code yX11_harmBy cX11_harmBy 7 (some .int)) cX11_harmBy 7 (some .int) 4 := ⟨rfl, by decide +kernel, q5_237, qp5_0, q1_13, q5_238⟩
theorem md_X11_ill : mdV yX11_ill (Cond.code yX11_ill cX11_ill 5 (some .int)) cX11_ill 5 (some .int) 3 := ⟨rfl, by decide +kernel, q5_123, q5_124, q1_13, q5_125⟩
theorem md_X11_in : mdS yX11_in (Cond.code yX11_in cX11_in 6 (some .boolean)) cX11_in 6 (some .boolean) 3 := ⟨rfl, by decide +kernel, q5_33, q1_13, q5_34⟩
theorem md_X11_isBreach : mdV yX11_isBreach (Cond.code yX11_isBreach cX11_isBreach 4 (some .boolean)) cX11_isBreach 4 (some .boolean) 2 := ⟨rfl, by decide +kernel, q5_137, qp4_4, q1_13, q5_138⟩
theorem md_X11_isHour : mdV yX11_isHour (Cond.code yX11_isHour cX11_isHour 2 (some .boolean)) cX11_isHour 2 (some .boolean) 1 := ⟨rfl, by decide +kernel, q5_116, qp4_2, q1_13, q5_117⟩
theorem md_X11_isPair : mdV yX11_isPair (Cond.code yX11_isPair cX11_isPair 2 (some .boolean)) cX11_isPair 2 (some .boolean) 1 := ⟨rfl, by decide +kernel, q5_112, qp4_1, q1_13, q5_113⟩
theorem md_X11_isPlan : mdS yX11_isPlan (Cond.code yX11_isPlan cX11_isPlan 2 (some .boolean)) cX11_isPlan 2 (some .boolean) 2 := ⟨rfl, by decide +kernel, q5_183, q1_13, q5_184⟩
theorem md_X11_isValley : mdS yX11_isValley (Cond.code yX11_isValley cX11_isValley 1 (some .boolean)) cX11_isValley 1 (some .boolean) 1 := ⟨rfl, by decide +kernel, q5_108, q1_13, q5_109⟩
theorem md_X11_isWord : mdV yX11_isWord (Cond.code yX11_isWord cX11_isWord 5 (some .boolean)) cX11_isWord 5 (some .boolean) 2 := ⟨rfl, by decide +kernel, q5_62, qp3_11, q1_13, q5_63⟩
theorem md_X11_keep : mdV yX11_keep (Cond.code yX11_keep cX11_keep 2 (some .int)) cX11_keep 2 (some .int) 1 := ⟨rfl, by decide +kernel, q6_33, q6_34, q1_13, q6_35⟩
theorem md_X11_layRests : mdV yX11_layRests (Cond.code yX11_layRests cX11_layRests 7 (some .int)) cX11_layRests 7 (some .int) 2 := ⟨rfl, by decide +kernel, q5_230, qp4_15, q1_13, q5_231⟩
theorem md_X11_layWorths : mdV yX11_layWorths (Cond.code yX11_layWorths cX11_layWorths 9 none) cX11_layWorths 9 none 2 := ⟨rfl, by decide +kernel, q5_192, qp4_11, q1_13, q5_193⟩
theorem md_X11_like : mdV yX11_like (Cond.code yX11_like cX11_like 6 (some .int)) cX11_like 6 (some .int) 4 := ⟨rfl, by decide +kernel, q6_4, q6_5, q1_13, q6_6⟩
theorem md_X11_may : mdV yX11_may (Cond.code yX11_may cX11_may 7 (some .boolean)) cX11_may 7 (some .boolean) 4 := ⟨rfl, by decide +kernel, q5_149, qp4_7, q1_13, q5_150⟩
theorem md_X11_meansOf : mdV yX11_meansOf (Cond.code yX11_meansOf cX11_meansOf 4 (some .int)) cX11_meansOf 4 (some .int) 3 := ⟨rfl, by decide +kernel, q5_145, qp4_6, q1_13, q5_146⟩
theorem md_X11_meant : mdV yX11_meant (Cond.code yX11_meant cX11_meant 5 (some .int)) cX11_meant 5 (some .int) 4 := ⟨rfl, by decide +kernel, q5_104, q5_105, q1_13, q5_106⟩
theorem md_X11_meantAt : mdS yX11_meantAt (Cond.code yX11_meantAt cX11_meantAt 4 (some .int)) cX11_meantAt 4 (some .int) 4 := ⟨rfl, by decide +kernel, q5_95, q1_13, q5_96⟩
theorem md_X11_news : mdV yX11_news (Cond.code yX11_news cX11_news 10 (some .int)) cX11_news 10 (some .int) 4 := ⟨rfl, by decide +kernel, q5_211, q5_212, q1_13, q5_213⟩
theorem md_X11_person : mdV yX11_person (Cond.code yX11_person cX11_person 4 (some .int)) cX11_person 4 (some .int) 3 := ⟨rfl, by decide +kernel, q5_160, q5_161, q1_13, q5_162⟩
theorem md_X11_plan : mdV yX11_plan (Cond.code yX11_plan cX11_plan 4 (some .int)) cX11_plan 4 (some .int) 3 := ⟨rfl, by decide +kernel, q5_179, q5_180, q1_13, q5_181⟩
theorem md_X11_planned : mdV yX11_planned (Cond.code yX11_planned cX11_planned 6 (some .int)) cX11_planned 6 (some .int) 5 := ⟨rfl, by decide +kernel, q5_207, q5_208, q1_13, q5_209⟩
theorem md_X11_reads : mdV yX11_reads (Cond.code yX11_reads cX11_reads 6 (some .boolean)) cX11_reads 6 (some .boolean) 3 := ⟨rfl, by decide +kernel, q5_75, qp3_13, q1_13, q5_76⟩
theorem md_X11_readsBread : mdV yX11_readsBread (Cond.code yX11_readsBread cX11_readsBread 2 (some .boolean)) cX11_readsBread 2 (some .boolean) 1 := ⟨rfl, by decide +kernel, q5_79, qp3_14, q1_13, q5_80⟩
theorem md_X11_readsLine : mdV yX11_readsLine (Cond.code yX11_readsLine cX11_readsLine 3 (some .boolean)) cX11_readsLine 3 (some .boolean) 0 := ⟨rfl, by decide +kernel, q5_53, qp3_9, q1_13, q5_54⟩
theorem md_X11_readsRest : mdV yX11_readsRest (Cond.code yX11_readsRest cX11_readsRest 2 (some .boolean)) cX11_readsRest 2 (some .boolean) 1 := ⟨rfl, by decide +kernel, q5_71, qp3_12, q1_13, q5_72⟩
theorem md_X11_readsWork : mdV yX11_readsWork (Cond.code yX11_readsWork cX11_readsWork 4 (some .boolean)) cX11_readsWork 4 (some .boolean) 0 := ⟨rfl, by decide +kernel, q5_83, qp3_15, q1_13, q5_84⟩
theorem md_X11_record : mdV yX11_record (Cond.code yX11_record cX11_record 2 (some .int)) cX11_record 2 (some .int) 1 := ⟨rfl, by decide +kernel, q6_12, q6_13, q1_13, q6_14⟩
theorem md_X11_slipped : mdV yX11_slipped (Cond.code yX11_slipped cX11_slipped 5 (some .int)) cX11_slipped 5 (some .int) 4 := ⟨rfl, by decide +kernel, q6_30, qp5_2, q1_13, q6_31⟩
theorem md_X11_slips : mdV yX11_slips (Cond.code yX11_slips cX11_slips 8 (some .int)) cX11_slips 8 (some .int) 3 := ⟨rfl, by decide +kernel, q6_20, q6_21, q1_13, q6_22⟩
theorem md_X11_sort : mdS yX11_sort (Cond.code yX11_sort cX11_sort 1 (some .int)) cX11_sort 1 (some .int) 1 := ⟨rfl, by decide +kernel, q5_49, q1_13, q5_50⟩
theorem md_X11_stays : mdV yX11_stays (Cond.code yX11_stays cX11_stays 5 (some .int)) cX11_stays 5 (some .int) 3 := ⟨rfl, by decide +kernel, q6_26, qp5_1, q1_13, q6_27⟩
theorem md_X11_strays : mdV yX11_strays (Cond.code yX11_strays cX11_strays 5 (some .boolean)) cX11_strays 5 (some .boolean) 3 := ⟨rfl, by decide +kernel, q5_153, qp4_8, q1_13, q5_154⟩
theorem md_X11_tell : mdV yX11_tell (Cond.code yX11_tell cX11_tell 5 none) cX11_tell 5 none 1 := ⟨rfl, by decide +kernel, q5_92, qp4_0, q1_13, q5_93⟩
theorem md_X11_token : mdV yX11_token (Cond.code yX11_token cX11_token 1 none) cX11_token 1 none 0 := ⟨rfl, by decide +kernel, q5_46, qp3_8, q1_13, q5_47⟩
theorem md_X11_treaty : mdV yX11_treaty (Cond.code yX11_treaty cX11_treaty 2 (some .int)) cX11_treaty 2 (some .int) 0 := ⟨rfl, by decide +kernel, q5_86, q5_87, q1_13, q5_88⟩
theorem md_X11_wordOf : mdV yX11_wordOf (Cond.code yX11_wordOf cX11_wordOf 1 (some .int)) cX11_wordOf 1 (some .int) 0 := ⟨rfl, by decide +kernel, q5_57, qp3_10, q1_13, q5_58⟩
theorem md_X11_work : mdV yX11_work (Cond.code yX11_work cX11_work 3 (some .int)) cX11_work 3 (some .int) 2 := ⟨rfl, by decide +kernel, q5_98, q5_99, q1_13, q5_100⟩
theorem md_X11_worthBy : mdV yX11_worthBy (Cond.code yX11_worthBy cX11_worthBy 8 (some .int)) cX11_worthBy 8 (some .int) 5 := ⟨rfl, by decide +kernel, q5_196, qp4_12, q1_13, q5_197⟩
theorem md_X11_write : mdV yX11_write (Cond.code yX11_write cX11_write 5 (some .int)) cX11_write 5 (some .int) 2 := ⟨rfl, by decide +kernel, q5_28, q5_29, q1_13, q5_30⟩
theorem md_X1_readEats : mdV yX1_readEats (Cond.code yX1_readEats cX1_readEats 3 none) cX1_readEats 3 none 1 := ⟨rfl, by decide +kernel, q2_217, qp1_6, q1_5, q2_218⟩
theorem md_X1_readFine : mdV yX1_readFine (Cond.code yX1_readFine cX1_readFine 3 none) cX1_readFine 3 none 1 := ⟨rfl, by decide +kernel, q2_222, qp1_7, q1_5, q2_223⟩
theorem md_X1_readInto : mdV yX1_readInto (Cond.code yX1_readInto cX1_readInto 3 (some .int)) cX1_readInto 3 (some .int) 1 := ⟨rfl, by decide +kernel, q2_73, q2_74, q1_5, q2_75⟩
theorem md_X1_readKind : mdV yX1_readKind (Cond.code yX1_readKind cX1_readKind 4 none) cX1_readKind 4 none 1 := ⟨rfl, by decide +kernel, q2_180, qp1_4, q1_5, q2_181⟩
theorem md_X1_readLine : mdV yX1_readLine (Cond.code yX1_readLine cX1_readLine 2 none) cX1_readLine 2 none 1 := ⟨rfl, by decide +kernel, q2_93, qp1_0, q1_5, q2_94⟩
theorem md_X1_readMeant : mdV yX1_readMeant (Cond.code yX1_readMeant cX1_readMeant 8 none) cX1_readMeant 8 none 1 := ⟨rfl, by decide +kernel, q2_194, qp1_5, q1_5, q2_195⟩
theorem md_X1_readTreaty : mdV yX1_readTreaty (Cond.code yX1_readTreaty cX1_readTreaty 4 none) cX1_readTreaty 4 none 1 := ⟨rfl, by decide +kernel, q2_150, qp1_1, q1_5, q2_151⟩
theorem md_X1_readWork : mdV yX1_readWork (Cond.code yX1_readWork cX1_readWork 7 none) cX1_readWork 7 none 1 := ⟨rfl, by decide +kernel, q2_167, qp1_3, q1_5, q2_168⟩
theorem md_X1_takeNumber : mdV yX1_takeNumber (Cond.code yX1_takeNumber cX1_takeNumber 4 (some .int)) cX1_takeNumber 4 (some .int) 2 := ⟨rfl, by decide +kernel, q2_155, qp1_2, q1_5, q2_156⟩
theorem md_X2_changeLiking : mdV yX2_changeLiking (Cond.code yX2_changeLiking cX2_changeLiking 7 (some .int)) cX2_changeLiking 7 (some .int) 4 := ⟨rfl, by decide +kernel, q4_62, q4_63, q1_11, q4_64⟩
theorem md_X2_greatestKnown : mdV yX2_greatestKnown (Cond.code yX2_greatestKnown cX2_greatestKnown 2 (some .int)) cX2_greatestKnown 2 (some .int) 1 := ⟨rfl, by decide +kernel, q4_90, qp3_1, q1_11, q4_91⟩
theorem md_X2_greatestOf : mdV yX2_greatestOf (Cond.code yX2_greatestOf cX2_greatestOf 4 (some .int)) cX2_greatestOf 4 (some .int) 1 := ⟨rfl, by decide +kernel, q4_81, qp2_15, q1_11, q4_82⟩
theorem md_X2_greatestOfSet : mdV yX2_greatestOfSet (Cond.code yX2_greatestOfSet cX2_greatestOfSet 8 (some .int)) cX2_greatestOfSet 8 (some .int) 2 := ⟨rfl, by decide +kernel, q4_85, qp3_0, q1_11, q4_86⟩
theorem md_X2_greatestSum : mdV yX2_greatestSum (Cond.code yX2_greatestSum cX2_greatestSum 2 (some .int)) cX2_greatestSum 2 (some .int) 1 := ⟨rfl, by decide +kernel, q4_76, q4_77, q1_11, q4_78⟩
theorem md_X2_indexOf : mdS yX2_indexOf (Cond.code yX2_indexOf cX2_indexOf 3 (some .int)) cX2_indexOf 3 (some .int) 3 := ⟨rfl, by decide +kernel, q4_66, q1_11, q4_67⟩
theorem md_X2_mostFours : mdV yX2_mostFours (Cond.code yX2_mostFours cX2_mostFours 2 (some .int)) cX2_mostFours 2 (some .int) 1 := ⟨rfl, by decide +kernel, q4_97, q4_98, q1_11, q4_99⟩
theorem md_X2_valueOf : mdV yX2_valueOf (Cond.code yX2_valueOf cX2_valueOf 6 (some .int)) cX2_valueOf 6 (some .int) 2 := ⟨rfl, by decide +kernel, q4_94, qp3_2, q1_11, q4_95⟩
theorem md_X3_classIn : mdS yX3_classIn (Cond.code yX3_classIn cX3_classIn 2 (some .int)) cX3_classIn 2 (some .int) 2 := ⟨rfl, by decide +kernel, q4_1, q1_9, q4_2⟩
theorem md_X3_leastOfAll : mdV yX3_leastOfAll (Cond.code yX3_leastOfAll cX3_leastOfAll 3 (some .int)) cX3_leastOfAll 3 (some .int) 0 := ⟨rfl, by decide +kernel, q4_10, qp2_12, q1_9, q4_11⟩
theorem md_X3_toBeAlike : mdV yX3_toBeAlike (Cond.code yX3_toBeAlike cX3_toBeAlike 8 (some .int)) cX3_toBeAlike 8 (some .int) 3 := ⟨rfl, by decide +kernel, q3_237, q3_238, q1_9, q3_239⟩
theorem md_X3_toBeNeverAlike : mdV yX3_toBeNeverAlike (Cond.code yX3_toBeNeverAlike cX3_toBeNeverAlike 8 (some .int)) cX3_toBeNeverAlike 8 (some .int) 3 := ⟨rfl, by decide +kernel, q4_4, q4_5, q1_9, q4_6⟩
theorem md_X4_changeHarm : mdV yX4_changeHarm (Cond.code yX4_changeHarm cX4_changeHarm 6 (some .int)) cX4_changeHarm 6 (some .int) 3 := ⟨rfl, by decide +kernel, q4_20, q4_21, q1_10, q4_22⟩
theorem md_X4_firstBest : mdV yX4_firstBest (Cond.code yX4_firstBest cX4_firstBest 6 (some .int)) cX4_firstBest 6 (some .int) 3 := ⟨rfl, by decide +kernel, q4_51, qp2_14, q1_10, q4_52⟩
theorem md_X4_leastHarm : mdV yX4_leastHarm (Cond.code yX4_leastHarm cX4_leastHarm 11 (some .int)) cX4_leastHarm 11 (some .int) 3 := ⟨rfl, by decide +kernel, q4_29, q4_30, q1_10, q4_31⟩
theorem md_X4_leastWith : mdV yX4_leastWith (Cond.code yX4_leastWith cX4_leastWith 6 (some .int)) cX4_leastWith 6 (some .int) 3 := ⟨rfl, by decide +kernel, q4_42, qp2_13, q1_10, q4_43⟩
theorem md_X4_partnerOf : mdV yX4_partnerOf (Cond.code yX4_partnerOf cX4_partnerOf 6 (some .int)) cX4_partnerOf 6 (some .int) 2 := ⟨rfl, by decide +kernel, q4_45, q4_46, q1_10, q4_47⟩
theorem md_X5_bestFrom : mdV yX5_bestFrom (Cond.code yX5_bestFrom cX5_bestFrom 4 (some .int)) cX5_bestFrom 4 (some .int) 2 := ⟨rfl, by decide +kernel, q3_218, qp2_10, q1_8, q3_219⟩
theorem md_X5_choose : mdV yX5_choose (Cond.code yX5_choose cX5_choose 10 none) cX5_choose 10 none 4 := ⟨rfl, by decide +kernel, q3_226, qp2_11, q1_8, q3_227⟩
theorem md_X5_clearRow : mdV yX5_clearRow (Cond.code yX5_clearRow cX5_clearRow 4 none) cX5_clearRow 4 none 1 := ⟨rfl, by decide +kernel, q3_178, qp2_2, q1_8, q3_179⟩
theorem md_X5_findWorths : mdV yX5_findWorths (Cond.code yX5_findWorths cX5_findWorths 7 none) cX5_findWorths 7 none 3 := ⟨rfl, by decide +kernel, q3_186, qp2_4, q1_8, q3_187⟩
theorem md_X5_follow : mdV yX5_follow (Cond.code yX5_follow cX5_follow 9 (some .int)) cX5_follow 9 (some .int) 4 := ⟨rfl, by decide +kernel, q3_221, q3_222, q1_8, q3_223⟩
theorem md_X5_forget : mdV yX5_forget (Cond.code yX5_forget cX5_forget 1 none) cX5_forget 1 none 0 := ⟨rfl, by decide +kernel, q2_239, q3_0, q1_8, q3_1⟩
theorem md_X5_greatestWorth : mdV yX5_greatestWorth (Cond.code yX5_greatestWorth cX5_greatestWorth 3 (some .int)) cX5_greatestWorth 3 (some .int) 2 := ⟨rfl, by decide +kernel, q3_164, q3_165, q1_8, q3_166⟩
theorem md_X5_isAllowed : mdV yX5_isAllowed (Cond.code yX5_isAllowed cX5_isAllowed 6 (some .boolean)) cX5_isAllowed 6 (some .boolean) 5 := ⟨rfl, by decide +kernel, q3_191, qp2_5, q1_8, q3_192⟩
theorem md_X5_madeBy : mdV yX5_madeBy (Cond.code yX5_madeBy cX5_madeBy 4 (some .int)) cX5_madeBy 4 (some .int) 3 := ⟨rfl, by decide +kernel, q3_197, qp2_6, q1_8, q3_198⟩
theorem md_X5_offer : mdV yX5_offer (Cond.code yX5_offer cX5_offer 5 none) cX5_offer 5 none 3 := ⟨rfl, by decide +kernel, q3_182, qp2_3, q1_8, q3_183⟩
theorem md_X5_offerAll : mdV yX5_offerAll (Cond.code yX5_offerAll cX5_offerAll 6 none) cX5_offerAll 6 none 3 := ⟨rfl, by decide +kernel, q3_214, qp2_9, q1_8, q3_215⟩
theorem md_X5_reckon : mdV yX5_reckon (Cond.code yX5_reckon cX5_reckon 4 none) cX5_reckon 4 none 1 := ⟨rfl, by decide +kernel, q3_170, qp2_0, q1_8, q3_171⟩
theorem md_X5_reckonRow : mdV yX5_reckonRow (Cond.code yX5_reckonRow cX5_reckonRow 4 none) cX5_reckonRow 4 none 1 := ⟨rfl, by decide +kernel, q3_210, qp2_8, q1_8, q3_211⟩
theorem md_X5_rowOf : mdV yX5_rowOf (Cond.code yX5_rowOf cX5_rowOf 4 (some .int)) cX5_rowOf 4 (some .int) 3 := ⟨rfl, by decide +kernel, q3_174, qp2_1, q1_8, q3_175⟩
theorem md_X5_worthOf : mdV yX5_worthOf (Cond.code yX5_worthOf cX5_worthOf 3 (some .int)) cX5_worthOf 3 (some .int) 2 := ⟨rfl, by decide +kernel, q3_202, qp2_7, q1_8, q3_203⟩
theorem md_X6_append : mdV yX6_append (Cond.code yX6_append cX6_append 2 none) cX6_append 2 none 1 := ⟨rfl, by decide +kernel, q4_105, q4_106, q1_12, q4_107⟩
theorem md_X6_costOf : mdV yX6_costOf (Cond.code yX6_costOf cX6_costOf 6 (some .int)) cX6_costOf 6 (some .int) 3 := ⟨rfl, by decide +kernel, q4_137, qp3_6, q1_12, q4_138⟩
theorem md_X6_fewestSlips : mdV yX6_fewestSlips (Cond.code yX6_fewestSlips cX6_fewestSlips 3 (some .int)) cX6_fewestSlips 3 (some .int) 2 := ⟨rfl, by decide +kernel, q4_140, q4_141, q1_12, q4_142⟩
theorem md_X6_firstSlip : mdV yX6_firstSlip (Cond.code yX6_firstSlip cX6_firstSlip 7 (some .int)) cX6_firstSlip 7 (some .int) 2 := ⟨rfl, by decide +kernel, q4_144, q4_145, q1_12, q4_146⟩
theorem md_X6_leastCost : mdV yX6_leastCost (Cond.code yX6_leastCost cX6_leastCost 3 (some .int)) cX6_leastCost 3 (some .int) 2 := ⟨rfl, by decide +kernel, q4_117, q4_118, q1_12, q4_119⟩
theorem md_X6_leastFrom : mdV yX6_leastFrom (Cond.code yX6_leastFrom cX6_leastFrom 4 (some .int)) cX6_leastFrom 4 (some .int) 2 := ⟨rfl, by decide +kernel, q4_127, qp3_4, q1_12, q4_128⟩
theorem md_X6_reckon : mdV yX6_reckon (Cond.code yX6_reckon cX6_reckon 7 (some .int)) cX6_reckon 7 (some .int) 2 := ⟨rfl, by decide +kernel, q4_122, qp3_3, q1_12, q4_123⟩
theorem md_X6_slipTo : mdV yX6_slipTo (Cond.code yX6_slipTo cX6_slipTo 4 (some .int)) cX6_slipTo 4 (some .int) 3 := ⟨rfl, by decide +kernel, q4_132, qp3_5, q1_12, q4_133⟩
theorem md_X7_append : mdV yX7_append (Cond.code yX7_append cX7_append 5 none) cX7_append 5 none 2 := ⟨rfl, by decide +kernel, q2_55, q2_56, q1_4, q2_57⟩
theorem md_X7_signAt : mdV yX7_signAt (Cond.code yX7_signAt cX7_signAt 2 (some .int)) cX7_signAt 2 (some .int) 1 := ⟨rfl, by decide +kernel, q2_85, q2_86, q1_4, q2_87⟩
theorem md_X8_advance : mdV yX8_advance (Cond.code yX8_advance cX8_advance 1 none) cX8_advance 1 none 0 := ⟨rfl, by decide +kernel, q2_81, q2_82, q1_6, q2_83⟩
theorem md_X8_isEnd : mdV yX8_isEnd (Cond.code yX8_isEnd cX8_isEnd 1 (some .boolean)) cX8_isEnd 1 (some .boolean) 0 := ⟨rfl, by decide +kernel, q2_225, q2_226, q1_6, q2_227⟩
theorem md_X8_isSign : mdV yX8_isSign (Cond.code yX8_isSign cX8_isSign 2 (some .boolean)) cX8_isSign 2 (some .boolean) 1 := ⟨rfl, by decide +kernel, q2_229, q2_230, q1_6, q2_231⟩
theorem md_X8_isWord : mdV yX8_isWord (Cond.code yX8_isWord cX8_isWord 3 (some .boolean)) cX8_isWord 3 (some .boolean) 1 := ⟨rfl, by decide +kernel, q2_97, q2_98, q1_6, q2_99⟩
theorem md_X8_kindOfSign : mdS yX8_kindOfSign (Cond.code yX8_kindOfSign cX8_kindOfSign 1 (some .int)) cX8_kindOfSign 1 (some .int) 1 := ⟨rfl, by decide +kernel, q2_89, q1_6, q2_90⟩
theorem md_X8_number : mdV yX8_number (Cond.code yX8_number cX8_number 3 (some .int)) cX8_number 3 (some .int) 0 := ⟨rfl, by decide +kernel, q2_158, q2_159, q1_6, q2_160⟩
theorem md_X8_rewind : mdV yX8_rewind (Cond.code yX8_rewind cX8_rewind 1 none) cX8_rewind 1 none 0 := ⟨rfl, by decide +kernel, q2_77, q2_78, q1_6, q2_79⟩
theorem md_X9_becomeLike : mdV yX9_becomeLike (Cond.code yX9_becomeLike cX9_becomeLike 3 none) cX9_becomeLike 3 none 1 := ⟨rfl, by decide +kernel, q2_69, q2_70, q1_2, q2_71⟩
theorem md_X9_breadMade : mdV yX9_breadMade (Cond.code yX9_breadMade cX9_breadMade 5 (some .int)) cX9_breadMade 5 (some .int) 3 := ⟨rfl, by decide +kernel, q3_100, q3_101, q1_2, q3_102⟩
theorem md_X9_breadOf : mdV yX9_breadOf (Cond.code yX9_breadOf cX9_breadOf 4 (some .int)) cX9_breadOf 4 (some .int) 2 := ⟨rfl, by decide +kernel, q2_201, q2_202, q1_2, q2_203⟩
theorem md_X9_canBeDone : mdV yX9_canBeDone (Cond.code yX9_canBeDone cX9_canBeDone 3 (some .boolean)) cX9_canBeDone 3 (some .boolean) 2 := ⟨rfl, by decide +kernel, q2_197, q2_198, q1_2, q2_199⟩
theorem md_X9_classOf : mdV yX9_classOf (Cond.code yX9_classOf cX9_classOf 2 (some .int)) cX9_classOf 2 (some .int) 1 := ⟨rfl, by decide +kernel, q3_7, q3_8, q1_2, q3_9⟩
theorem md_X9_hasHour : mdV yX9_hasHour (Cond.code yX9_hasHour cX9_hasHour 2 (some .boolean)) cX9_hasHour 2 (some .boolean) 1 := ⟨rfl, by decide +kernel, q3_32, q3_33, q1_2, q3_34⟩
theorem md_X9_hasPair : mdV yX9_hasPair (Cond.code yX9_hasPair cX9_hasPair 2 (some .boolean)) cX9_hasPair 2 (some .boolean) 1 := ⟨rfl, by decide +kernel, q2_187, q2_188, q1_2, q2_189⟩
theorem md_X9_keepsTreaty : mdV yX9_keepsTreaty (Cond.code yX9_keepsTreaty cX9_keepsTreaty 6 (some .boolean)) cX9_keepsTreaty 6 (some .boolean) 4 := ⟨rfl, by decide +kernel, q3_108, q3_109, q1_2, q3_110⟩
theorem md_X9_kindOf : mdV yX9_kindOf (Cond.code yX9_kindOf cX9_kindOf 2 (some .int)) cX9_kindOf 2 (some .int) 1 := ⟨rfl, by decide +kernel, q3_95, q3_96, q1_2, q3_97⟩
theorem md_X9_mayDo : mdV yX9_mayDo (Cond.code yX9_mayDo cX9_mayDo 6 (some .boolean)) cX9_mayDo 6 (some .boolean) 4 := ⟨rfl, by decide +kernel, q3_91, q3_92, q1_2, q3_93⟩
theorem md_X9_meantOn : mdV yX9_meantOn (Cond.code yX9_meantOn cX9_meantOn 6 (some .int)) cX9_meantOn 6 (some .int) 4 := ⟨rfl, by decide +kernel, q3_36, q3_37, q1_2, q3_38⟩
theorem md_X9_settle : mdV yX9_settle (Cond.code yX9_settle cX9_settle 3 none) cX9_settle 3 none 2 := ⟨rfl, by decide +kernel, q1_35, q1_36, q1_2, q1_37⟩
theorem md_X9_tellBread : mdV yX9_tellBread (Cond.code yX9_tellBread cX9_tellBread 4 none) cX9_tellBread 4 none 3 := ⟨rfl, by decide +kernel, q2_174, q2_175, q1_2, q2_176⟩
theorem md_X9_tellKind : mdV yX9_tellKind (Cond.code yX9_tellKind cX9_tellKind 3 none) cX9_tellKind 3 none 2 := ⟨rfl, by decide +kernel, q2_183, q2_184, q1_2, q2_185⟩
theorem md_X9_tellMeant : mdV yX9_tellMeant (Cond.code yX9_tellMeant cX9_tellMeant 5 none) cX9_tellMeant 5 none 3 := ⟨rfl, by decide +kernel, q2_211, q2_212, q1_2, q2_213⟩
theorem md_X9_tellWork : mdV yX9_tellWork (Cond.code yX9_tellWork cX9_tellWork 4 none) cX9_tellWork 4 none 3 := ⟨rfl, by decide +kernel, q2_170, q2_171, q1_2, q2_172⟩
theorem md_X9_worthOf : mdV yX9_worthOf (Cond.code yX9_worthOf cX9_worthOf 2 (some .int)) cX9_worthOf 2 (some .int) 1 := ⟨rfl, by decide +kernel, q3_12, q3_13, q1_2, q3_14⟩
