theorem q_1_10 : Cond.initialized "java/lang/String" ∈ gw := gw_of (in_t1 (List.mem_of_getElem? (i := 10) rfl)) rfl
theorem q_1_11 : Cond.initialized "java/lang/StringLatin1" ∈ gw := gw_of (in_t1 (List.mem_of_getElem? (i := 11) rfl)) rfl
theorem q_1_119 : Cond.fieldLinkNest RX5 204 "WellIsAskedFirst$Tape" "place" "I" "WellIsAskedFirst" ∈ nw := nw_of (in_t1 (List.mem_of_getElem? (i := 119) rfl)) rfl
theorem q_1_12 : Cond.initialized "jdk/internal/util/Preconditions" ∈ gw := gw_of (in_t1 (List.mem_of_getElem? (i := 12) rfl)) rfl
theorem q_1_33 : Cond.fieldLinkNest RX2 71 "WellIsAskedFirst$State" "depth" "I" "WellIsAskedFirst" ∈ nw := nw_of (in_t1 (List.mem_of_getElem? (i := 33) rfl)) rfl
theorem q_1_37 : Cond.fieldLinkNest RX2 77 "WellIsAskedFirst$State" "rain" "I" "WellIsAskedFirst" ∈ nw := nw_of (in_t1 (List.mem_of_getElem? (i := 37) rfl)) rfl
theorem q_1_41 : Cond.fieldLinkNest RX2 81 "WellIsAskedFirst$State" "day" "I" "WellIsAskedFirst" ∈ nw := nw_of (in_t1 (List.mem_of_getElem? (i := 41) rfl)) rfl
theorem q_2_0 : Cond.methodLink RL 13 yX5_row ∈ gw := gw_of (in_t2 (List.mem_of_getElem? (i := 0) rfl)) rfl
theorem q_2_1 : Cond.instanceMethod yX5_row ∈ gw := gw_of (in_t2 (List.mem_of_getElem? (i := 1) rfl)) rfl
theorem q_2_163 : Cond.methodLink RL 49 yX5_voice ∈ gw := gw_of (in_t2 (List.mem_of_getElem? (i := 163) rfl)) rfl
theorem q_2_164 : Cond.instanceMethod yX5_voice ∈ gw := gw_of (in_t2 (List.mem_of_getElem? (i := 164) rfl)) rfl
theorem q_2_165 : Cond.selects RX5 yX5_voice yX5_voice ∈ gw := gw_of (in_t2 (List.mem_of_getElem? (i := 165) rfl)) rfl
theorem q_2_166 : Cond.code yX5_voice cX5_voice 4 ((Option.some Jvm.ClassFile.FieldType.int)) ∈ gw := gw_of (in_t2 (List.mem_of_getElem? (i := 166) rfl)) rfl
theorem q_2_175 : Cond.methodLink RL 53 yX5_pitch ∈ gw := gw_of (in_t2 (List.mem_of_getElem? (i := 175) rfl)) rfl
theorem q_2_176 : Cond.instanceMethod yX5_pitch ∈ gw := gw_of (in_t2 (List.mem_of_getElem? (i := 176) rfl)) rfl
theorem q_2_177 : Cond.selects RX5 yX5_pitch yX5_pitch ∈ gw := gw_of (in_t2 (List.mem_of_getElem? (i := 177) rfl)) rfl
theorem q_2_178 : Cond.code yX5_pitch cX5_pitch 4 ((Option.some Jvm.ClassFile.FieldType.int)) ∈ gw := gw_of (in_t2 (List.mem_of_getElem? (i := 178) rfl)) rfl
theorem q_2_183 : Cond.methodLink RL 57 yX5_tell ∈ gw := gw_of (in_t2 (List.mem_of_getElem? (i := 183) rfl)) rfl
theorem q_2_184 : Cond.instanceMethod yX5_tell ∈ gw := gw_of (in_t2 (List.mem_of_getElem? (i := 184) rfl)) rfl
theorem q_2_185 : Cond.selects RX5 yX5_tell yX5_tell ∈ gw := gw_of (in_t2 (List.mem_of_getElem? (i := 185) rfl)) rfl
theorem q_2_186 : Cond.code yX5_tell cX5_tell 4 ((Option.some Jvm.ClassFile.FieldType.int)) ∈ gw := gw_of (in_t2 (List.mem_of_getElem? (i := 186) rfl)) rfl
theorem q_2_187 : Cond.methodLink RL 61 yX5_weigh ∈ gw := gw_of (in_t2 (List.mem_of_getElem? (i := 187) rfl)) rfl
theorem q_2_188 : Cond.instanceMethod yX5_weigh ∈ gw := gw_of (in_t2 (List.mem_of_getElem? (i := 188) rfl)) rfl
theorem q_2_189 : Cond.selects RX5 yX5_weigh yX5_weigh ∈ gw := gw_of (in_t2 (List.mem_of_getElem? (i := 189) rfl)) rfl
theorem q_2_190 : Cond.code yX5_weigh cX5_weigh 4 ((Option.some Jvm.ClassFile.FieldType.int)) ∈ gw := gw_of (in_t2 (List.mem_of_getElem? (i := 190) rfl)) rfl
theorem q_2_191 : Cond.methodLink RL 65 yX5_feed ∈ gw := gw_of (in_t2 (List.mem_of_getElem? (i := 191) rfl)) rfl
theorem q_2_192 : Cond.instanceMethod yX5_feed ∈ gw := gw_of (in_t2 (List.mem_of_getElem? (i := 192) rfl)) rfl
theorem q_2_193 : Cond.selects RX5 yX5_feed yX5_feed ∈ gw := gw_of (in_t2 (List.mem_of_getElem? (i := 193) rfl)) rfl
theorem q_2_194 : Cond.code yX5_feed cX5_feed 2 ((Option.some Jvm.ClassFile.FieldType.int)) ∈ gw := gw_of (in_t2 (List.mem_of_getElem? (i := 194) rfl)) rfl
theorem q_2_2 : Cond.selects RX5 yX5_row yX5_row ∈ gw := gw_of (in_t2 (List.mem_of_getElem? (i := 2) rfl)) rfl
theorem q_2_204 : Cond.methodLink RL 69 yX5_wipe ∈ gw := gw_of (in_t2 (List.mem_of_getElem? (i := 204) rfl)) rfl
theorem q_2_205 : Cond.instanceMethod yX5_wipe ∈ gw := gw_of (in_t2 (List.mem_of_getElem? (i := 205) rfl)) rfl
theorem q_2_206 : Cond.selects RX5 yX5_wipe yX5_wipe ∈ gw := gw_of (in_t2 (List.mem_of_getElem? (i := 206) rfl)) rfl
theorem q_2_207 : Cond.code yX5_wipe cX5_wipe 2 ((Option.some Jvm.ClassFile.FieldType.int)) ∈ gw := gw_of (in_t2 (List.mem_of_getElem? (i := 207) rfl)) rfl
theorem q_2_208 : Cond.methodLink RL 74 yX5_well ∈ gw := gw_of (in_t2 (List.mem_of_getElem? (i := 208) rfl)) rfl
theorem q_2_209 : Cond.instanceMethod yX5_well ∈ gw := gw_of (in_t2 (List.mem_of_getElem? (i := 209) rfl)) rfl
theorem q_2_210 : Cond.selects RX5 yX5_well yX5_well ∈ gw := gw_of (in_t2 (List.mem_of_getElem? (i := 210) rfl)) rfl
theorem q_2_211 : Cond.code yX5_well cX5_well 2 ((Option.some Jvm.ClassFile.FieldType.int)) ∈ gw := gw_of (in_t2 (List.mem_of_getElem? (i := 211) rfl)) rfl
theorem q_2_216 : Cond.methodLinkNest RX5 200 yX2_readInto "WellIsAskedFirst" ∈ nw := nw_of (in_t2 (List.mem_of_getElem? (i := 216) rfl)) rfl
theorem q_2_218 : Cond.instanceMethod yX2_readInto ∈ gw := gw_of (in_t2 (List.mem_of_getElem? (i := 218) rfl)) rfl
theorem q_2_219 : Cond.code yX2_readInto cX2_readInto 3 ((Option.some Jvm.ClassFile.FieldType.int)) ∈ gw := gw_of (in_t2 (List.mem_of_getElem? (i := 219) rfl)) rfl
theorem q_2_231 : Cond.methodLink RX2 29 yX2_readStatement ∈ gw := gw_of (in_t2 (List.mem_of_getElem? (i := 231) rfl)) rfl
theorem q_2_233 : Cond.instanceMethod yX2_readStatement ∈ gw := gw_of (in_t2 (List.mem_of_getElem? (i := 233) rfl)) rfl
theorem q_2_234 : Cond.code yX2_readStatement cX2_readStatement 3 ((Option.some Jvm.ClassFile.FieldType.boolean)) ∈ gw := gw_of (in_t2 (List.mem_of_getElem? (i := 234) rfl)) rfl
theorem q_2_236 : Cond.methodLink RX2 48 yX2_isAtWord ∈ gw := gw_of (in_t2 (List.mem_of_getElem? (i := 236) rfl)) rfl
theorem q_2_238 : Cond.instanceMethod yX2_isAtWord ∈ gw := gw_of (in_t2 (List.mem_of_getElem? (i := 238) rfl)) rfl
theorem q_2_239 : Cond.code yX2_isAtWord cX2_isAtWord 3 ((Option.some Jvm.ClassFile.FieldType.boolean)) ∈ gw := gw_of (in_t2 (List.mem_of_getElem? (i := 239) rfl)) rfl
theorem q_2_26 : Cond.methodLink RL 20 yX5_set ∈ gw := gw_of (in_t2 (List.mem_of_getElem? (i := 26) rfl)) rfl
theorem q_2_27 : Cond.instanceMethod yX5_set ∈ gw := gw_of (in_t2 (List.mem_of_getElem? (i := 27) rfl)) rfl
theorem q_2_28 : Cond.selects RX5 yX5_set yX5_set ∈ gw := gw_of (in_t2 (List.mem_of_getElem? (i := 28) rfl)) rfl
theorem q_2_29 : Cond.code yX5_set cX5_set 5 ((Option.some Jvm.ClassFile.FieldType.int)) ∈ gw := gw_of (in_t2 (List.mem_of_getElem? (i := 29) rfl)) rfl
theorem q_2_3 : Cond.code yX5_row cX5_row 4 ((Option.some Jvm.ClassFile.FieldType.int)) ∈ gw := gw_of (in_t2 (List.mem_of_getElem? (i := 3) rfl)) rfl
theorem q_2_54 : Cond.methodLink RL 25 yX5_copy ∈ gw := gw_of (in_t2 (List.mem_of_getElem? (i := 54) rfl)) rfl
theorem q_2_55 : Cond.instanceMethod yX5_copy ∈ gw := gw_of (in_t2 (List.mem_of_getElem? (i := 55) rfl)) rfl
theorem q_2_56 : Cond.selects RX5 yX5_copy yX5_copy ∈ gw := gw_of (in_t2 (List.mem_of_getElem? (i := 56) rfl)) rfl
theorem q_2_57 : Cond.code yX5_copy cX5_copy 6 ((Option.some Jvm.ClassFile.FieldType.int)) ∈ gw := gw_of (in_t2 (List.mem_of_getElem? (i := 57) rfl)) rfl
theorem q_2_70 : Cond.methodLink RL 30 yX5_element ∈ gw := gw_of (in_t2 (List.mem_of_getElem? (i := 70) rfl)) rfl
theorem q_2_71 : Cond.instanceMethod yX5_element ∈ gw := gw_of (in_t2 (List.mem_of_getElem? (i := 71) rfl)) rfl
theorem q_2_72 : Cond.selects RX5 yX5_element yX5_element ∈ gw := gw_of (in_t2 (List.mem_of_getElem? (i := 72) rfl)) rfl
theorem q_2_73 : Cond.code yX5_element cX5_element 3 ((Option.some Jvm.ClassFile.FieldType.long)) ∈ gw := gw_of (in_t2 (List.mem_of_getElem? (i := 73) rfl)) rfl
theorem q_2_78 : Cond.methodLink RL 35 yX5_holds ∈ gw := gw_of (in_t2 (List.mem_of_getElem? (i := 78) rfl)) rfl
theorem q_2_79 : Cond.instanceMethod yX5_holds ∈ gw := gw_of (in_t2 (List.mem_of_getElem? (i := 79) rfl)) rfl
theorem q_2_80 : Cond.selects RX5 yX5_holds yX5_holds ∈ gw := gw_of (in_t2 (List.mem_of_getElem? (i := 80) rfl)) rfl
theorem q_2_81 : Cond.code yX5_holds cX5_holds 2 ((Option.some Jvm.ClassFile.FieldType.int)) ∈ gw := gw_of (in_t2 (List.mem_of_getElem? (i := 81) rfl)) rfl
theorem q_2_83 : Cond.methodLink RL 40 yX5_show ∈ gw := gw_of (in_t2 (List.mem_of_getElem? (i := 83) rfl)) rfl
theorem q_2_84 : Cond.instanceMethod yX5_show ∈ gw := gw_of (in_t2 (List.mem_of_getElem? (i := 84) rfl)) rfl
theorem q_2_85 : Cond.selects RX5 yX5_show yX5_show ∈ gw := gw_of (in_t2 (List.mem_of_getElem? (i := 85) rfl)) rfl
theorem q_2_86 : Cond.code yX5_show cX5_show 3 ((Option.some Jvm.ClassFile.FieldType.int)) ∈ gw := gw_of (in_t2 (List.mem_of_getElem? (i := 86) rfl)) rfl
theorem q_2_95 : Cond.methodLink RL 45 yX5_says ∈ gw := gw_of (in_t2 (List.mem_of_getElem? (i := 95) rfl)) rfl
theorem q_2_96 : Cond.instanceMethod yX5_says ∈ gw := gw_of (in_t2 (List.mem_of_getElem? (i := 96) rfl)) rfl
theorem q_2_97 : Cond.selects RX5 yX5_says yX5_says ∈ gw := gw_of (in_t2 (List.mem_of_getElem? (i := 97) rfl)) rfl
theorem q_2_98 : Cond.code yX5_says cX5_says 5 ((Option.some Jvm.ClassFile.FieldType.int)) ∈ gw := gw_of (in_t2 (List.mem_of_getElem? (i := 98) rfl)) rfl
theorem q_3_0 : Cond.methodLink RX2 104 yJ0_length_8abf5 ∈ gw := gw_of (in_t3 (List.mem_of_getElem? (i := 0) rfl)) rfl
theorem q_3_1 : Cond.instanceMethod yJ0_length_8abf5 ∈ gw := gw_of (in_t3 (List.mem_of_getElem? (i := 1) rfl)) rfl
theorem q_3_10 : Cond.methodLink RX2 110 yJ0_charAt_5068e ∈ gw := gw_of (in_t3 (List.mem_of_getElem? (i := 10) rfl)) rfl
theorem q_3_103 : Cond.methodLink RL 204 yX5_ofKind ∈ gw := gw_of (in_t3 (List.mem_of_getElem? (i := 103) rfl)) rfl
theorem q_3_104 : Cond.instanceMethod yX5_ofKind ∈ gw := gw_of (in_t3 (List.mem_of_getElem? (i := 104) rfl)) rfl
theorem q_3_105 : Cond.selects RX5 yX5_ofKind yX5_ofKind ∈ gw := gw_of (in_t3 (List.mem_of_getElem? (i := 105) rfl)) rfl
theorem q_3_106 : Cond.code yX5_ofKind cX5_ofKind 4 ((Option.some Jvm.ClassFile.FieldType.int)) ∈ gw := gw_of (in_t3 (List.mem_of_getElem? (i := 106) rfl)) rfl
theorem q_3_107 : Cond.methodLink RL 127 yX5_ask ∈ gw := gw_of (in_t3 (List.mem_of_getElem? (i := 107) rfl)) rfl
theorem q_3_108 : Cond.instanceMethod yX5_ask ∈ gw := gw_of (in_t3 (List.mem_of_getElem? (i := 108) rfl)) rfl
theorem q_3_109 : Cond.selects RX5 yX5_ask yX5_ask ∈ gw := gw_of (in_t3 (List.mem_of_getElem? (i := 109) rfl)) rfl
theorem q_3_11 : Cond.instanceMethod yJ0_charAt_5068e ∈ gw := gw_of (in_t3 (List.mem_of_getElem? (i := 11) rfl)) rfl
theorem q_3_110 : Cond.code yX5_ask cX5_ask 3 ((Option.some Jvm.ClassFile.FieldType.int)) ∈ gw := gw_of (in_t3 (List.mem_of_getElem? (i := 110) rfl)) rfl
theorem q_3_12 : Cond.selects "java/lang/String" yJ0_charAt_5068e yJ0_charAt_5068e ∈ gw := gw_of (in_t3 (List.mem_of_getElem? (i := 12) rfl)) rfl
theorem q_3_122 : Cond.methodLink RL 90 yX5_echo ∈ gw := gw_of (in_t3 (List.mem_of_getElem? (i := 122) rfl)) rfl
theorem q_3_123 : Cond.instanceMethod yX5_echo ∈ gw := gw_of (in_t3 (List.mem_of_getElem? (i := 123) rfl)) rfl
theorem q_3_124 : Cond.selects RX5 yX5_echo yX5_echo ∈ gw := gw_of (in_t3 (List.mem_of_getElem? (i := 124) rfl)) rfl
theorem q_3_125 : Cond.code yX5_echo cX5_echo 6 ((Option.some Jvm.ClassFile.FieldType.int)) ∈ gw := gw_of (in_t3 (List.mem_of_getElem? (i := 125) rfl)) rfl
theorem q_3_13 : Cond.code yJ0_charAt_5068e cJ0_charAt_5068e 2 ((Option.some Jvm.ClassFile.FieldType.char)) ∈ gw := gw_of (in_t3 (List.mem_of_getElem? (i := 13) rfl)) rfl
theorem q_3_136 : Cond.methodLink RL 95 yX5_sum ∈ gw := gw_of (in_t3 (List.mem_of_getElem? (i := 136) rfl)) rfl
theorem q_3_137 : Cond.instanceMethod yX5_sum ∈ gw := gw_of (in_t3 (List.mem_of_getElem? (i := 137) rfl)) rfl
theorem q_3_138 : Cond.selects RX5 yX5_sum yX5_sum ∈ gw := gw_of (in_t3 (List.mem_of_getElem? (i := 138) rfl)) rfl
theorem q_3_139 : Cond.code yX5_sum cX5_sum 5 ((Option.some Jvm.ClassFile.FieldType.int)) ∈ gw := gw_of (in_t3 (List.mem_of_getElem? (i := 139) rfl)) rfl
theorem q_3_14 : Cond.methodLink "java/lang/String" 492 yJ0_isLatin1_aae02 ∈ gw := gw_of (in_t3 (List.mem_of_getElem? (i := 14) rfl)) rfl
theorem q_3_140 : Cond.methodLink RL 99 yX5_weighed ∈ gw := gw_of (in_t3 (List.mem_of_getElem? (i := 140) rfl)) rfl
theorem q_3_141 : Cond.instanceMethod yX5_weighed ∈ gw := gw_of (in_t3 (List.mem_of_getElem? (i := 141) rfl)) rfl
theorem q_3_142 : Cond.selects RX5 yX5_weighed yX5_weighed ∈ gw := gw_of (in_t3 (List.mem_of_getElem? (i := 142) rfl)) rfl
theorem q_3_143 : Cond.code yX5_weighed cX5_weighed 5 ((Option.some Jvm.ClassFile.FieldType.int)) ∈ gw := gw_of (in_t3 (List.mem_of_getElem? (i := 143) rfl)) rfl
theorem q_3_144 : Cond.methodLink RL 107 yX5_when ∈ gw := gw_of (in_t3 (List.mem_of_getElem? (i := 144) rfl)) rfl
theorem q_3_145 : Cond.instanceMethod yX5_when ∈ gw := gw_of (in_t3 (List.mem_of_getElem? (i := 145) rfl)) rfl
theorem q_3_146 : Cond.selects RX5 yX5_when yX5_when ∈ gw := gw_of (in_t3 (List.mem_of_getElem? (i := 146) rfl)) rfl
theorem q_3_147 : Cond.code yX5_when cX5_when 6 ((Option.some Jvm.ClassFile.FieldType.int)) ∈ gw := gw_of (in_t3 (List.mem_of_getElem? (i := 147) rfl)) rfl
theorem q_3_15 : Cond.instanceMethod yJ0_isLatin1_aae02 ∈ gw := gw_of (in_t3 (List.mem_of_getElem? (i := 15) rfl)) rfl
theorem q_3_16 : Cond.selects "java/lang/String" yJ0_isLatin1_aae02 yJ0_isLatin1_aae02 ∈ gw := gw_of (in_t3 (List.mem_of_getElem? (i := 16) rfl)) rfl
theorem q_3_164 : Cond.methodLink RL 111 yX5_sure ∈ gw := gw_of (in_t3 (List.mem_of_getElem? (i := 164) rfl)) rfl
theorem q_3_165 : Cond.instanceMethod yX5_sure ∈ gw := gw_of (in_t3 (List.mem_of_getElem? (i := 165) rfl)) rfl
theorem q_3_166 : Cond.selects RX5 yX5_sure yX5_sure ∈ gw := gw_of (in_t3 (List.mem_of_getElem? (i := 166) rfl)) rfl
theorem q_3_167 : Cond.code yX5_sure cX5_sure 6 ((Option.some Jvm.ClassFile.FieldType.int)) ∈ gw := gw_of (in_t3 (List.mem_of_getElem? (i := 167) rfl)) rfl
theorem q_3_168 : Cond.methodLink RL 115 yX5_yeses ∈ gw := gw_of (in_t3 (List.mem_of_getElem? (i := 168) rfl)) rfl
theorem q_3_169 : Cond.instanceMethod yX5_yeses ∈ gw := gw_of (in_t3 (List.mem_of_getElem? (i := 169) rfl)) rfl
theorem q_3_17 : Cond.code yJ0_isLatin1_aae02 cJ0_isLatin1_aae02 1 ((Option.some Jvm.ClassFile.FieldType.boolean)) ∈ gw := gw_of (in_t3 (List.mem_of_getElem? (i := 17) rfl)) rfl
theorem q_3_170 : Cond.selects RX5 yX5_yeses yX5_yeses ∈ gw := gw_of (in_t3 (List.mem_of_getElem? (i := 170) rfl)) rfl
theorem q_3_171 : Cond.code yX5_yeses cX5_yeses 6 ((Option.some Jvm.ClassFile.FieldType.int)) ∈ gw := gw_of (in_t3 (List.mem_of_getElem? (i := 171) rfl)) rfl
theorem q_3_18 : Cond.methodLink "java/lang/String" 495 yJ1_charAt_3b067 ∈ gw := gw_of (in_t3 (List.mem_of_getElem? (i := 18) rfl)) rfl
theorem q_3_188 : Cond.methodLink RL 119 yX5_tuned ∈ gw := gw_of (in_t3 (List.mem_of_getElem? (i := 188) rfl)) rfl
theorem q_3_189 : Cond.instanceMethod yX5_tuned ∈ gw := gw_of (in_t3 (List.mem_of_getElem? (i := 189) rfl)) rfl
theorem q_3_19 : Cond.static yJ1_charAt_3b067 ∈ gw := gw_of (in_t3 (List.mem_of_getElem? (i := 19) rfl)) rfl
theorem q_3_190 : Cond.selects RX5 yX5_tuned yX5_tuned ∈ gw := gw_of (in_t3 (List.mem_of_getElem? (i := 190) rfl)) rfl
theorem q_3_191 : Cond.code yX5_tuned cX5_tuned 7 ((Option.some Jvm.ClassFile.FieldType.int)) ∈ gw := gw_of (in_t3 (List.mem_of_getElem? (i := 191) rfl)) rfl
theorem q_3_192 : Cond.methodLink RL 123 yX5_ends ∈ gw := gw_of (in_t3 (List.mem_of_getElem? (i := 192) rfl)) rfl
theorem q_3_193 : Cond.instanceMethod yX5_ends ∈ gw := gw_of (in_t3 (List.mem_of_getElem? (i := 193) rfl)) rfl
theorem q_3_194 : Cond.selects RX5 yX5_ends yX5_ends ∈ gw := gw_of (in_t3 (List.mem_of_getElem? (i := 194) rfl)) rfl
theorem q_3_195 : Cond.code yX5_ends cX5_ends 6 ((Option.some Jvm.ClassFile.FieldType.int)) ∈ gw := gw_of (in_t3 (List.mem_of_getElem? (i := 195) rfl)) rfl
theorem q_3_2 : Cond.selects "java/lang/String" yJ0_length_8abf5 yJ0_length_8abf5 ∈ gw := gw_of (in_t3 (List.mem_of_getElem? (i := 2) rfl)) rfl
theorem q_3_20 : Cond.code yJ1_charAt_3b067 cJ1_charAt_3b067 2 ((Option.some Jvm.ClassFile.FieldType.char)) ∈ gw := gw_of (in_t3 (List.mem_of_getElem? (i := 20) rfl)) rfl
theorem q_3_203 : Cond.methodLink RL 176 yX5_less ∈ gw := gw_of (in_t3 (List.mem_of_getElem? (i := 203) rfl)) rfl
theorem q_3_204 : Cond.instanceMethod yX5_less ∈ gw := gw_of (in_t3 (List.mem_of_getElem? (i := 204) rfl)) rfl
theorem q_3_205 : Cond.selects RX5 yX5_less yX5_less ∈ gw := gw_of (in_t3 (List.mem_of_getElem? (i := 205) rfl)) rfl
theorem q_3_206 : Cond.code yX5_less cX5_less 6 ((Option.some Jvm.ClassFile.FieldType.int)) ∈ gw := gw_of (in_t3 (List.mem_of_getElem? (i := 206) rfl)) rfl
theorem q_3_207 : Cond.methodLink RL 164 yX5_rains ∈ gw := gw_of (in_t3 (List.mem_of_getElem? (i := 207) rfl)) rfl
theorem q_3_208 : Cond.instanceMethod yX5_rains ∈ gw := gw_of (in_t3 (List.mem_of_getElem? (i := 208) rfl)) rfl
theorem q_3_209 : Cond.selects RX5 yX5_rains yX5_rains ∈ gw := gw_of (in_t3 (List.mem_of_getElem? (i := 209) rfl)) rfl
theorem q_3_21 : Cond.methodLink "java/lang/StringLatin1" 9 yJ0_checkIndex_df160 ∈ gw := gw_of (in_t3 (List.mem_of_getElem? (i := 21) rfl)) rfl
theorem q_3_210 : Cond.code yX5_rains cX5_rains 7 ((Option.some Jvm.ClassFile.FieldType.int)) ∈ gw := gw_of (in_t3 (List.mem_of_getElem? (i := 210) rfl)) rfl
theorem q_3_216 : Cond.methodLink RL 172 yX5_alike ∈ gw := gw_of (in_t3 (List.mem_of_getElem? (i := 216) rfl)) rfl
theorem q_3_217 : Cond.instanceMethod yX5_alike ∈ gw := gw_of (in_t3 (List.mem_of_getElem? (i := 217) rfl)) rfl
theorem q_3_218 : Cond.selects RX5 yX5_alike yX5_alike ∈ gw := gw_of (in_t3 (List.mem_of_getElem? (i := 218) rfl)) rfl
theorem q_3_219 : Cond.code yX5_alike cX5_alike 6 ((Option.some Jvm.ClassFile.FieldType.int)) ∈ gw := gw_of (in_t3 (List.mem_of_getElem? (i := 219) rfl)) rfl
theorem q_3_22 : Cond.static yJ0_checkIndex_df160 ∈ gw := gw_of (in_t3 (List.mem_of_getElem? (i := 22) rfl)) rfl
theorem q_3_224 : Cond.methodLink RL 188 yX5_like ∈ gw := gw_of (in_t3 (List.mem_of_getElem? (i := 224) rfl)) rfl
theorem q_3_225 : Cond.instanceMethod yX5_like ∈ gw := gw_of (in_t3 (List.mem_of_getElem? (i := 225) rfl)) rfl
theorem q_3_226 : Cond.selects RX5 yX5_like yX5_like ∈ gw := gw_of (in_t3 (List.mem_of_getElem? (i := 226) rfl)) rfl
theorem q_3_227 : Cond.code yX5_like cX5_like 8 ((Option.some Jvm.ClassFile.FieldType.int)) ∈ gw := gw_of (in_t3 (List.mem_of_getElem? (i := 227) rfl)) rfl
theorem q_3_228 : Cond.methodLink RL 152 yX5_buckets ∈ gw := gw_of (in_t3 (List.mem_of_getElem? (i := 228) rfl)) rfl
theorem q_3_229 : Cond.instanceMethod yX5_buckets ∈ gw := gw_of (in_t3 (List.mem_of_getElem? (i := 229) rfl)) rfl
theorem q_3_23 : Cond.code yJ0_checkIndex_df160 cJ0_checkIndex_df160 2 ((Option.none : Option Jvm.ClassFile.FieldType)) ∈ gw := gw_of (in_t3 (List.mem_of_getElem? (i := 23) rfl)) rfl
theorem q_3_230 : Cond.selects RX5 yX5_buckets yX5_buckets ∈ gw := gw_of (in_t3 (List.mem_of_getElem? (i := 230) rfl)) rfl
theorem q_3_231 : Cond.code yX5_buckets cX5_buckets 12 ((Option.some Jvm.ClassFile.FieldType.int)) ∈ gw := gw_of (in_t3 (List.mem_of_getElem? (i := 231) rfl)) rfl
theorem q_3_24 : Cond.fieldLink "java/lang/String" 1053 "jdk/internal/util/Preconditions" "SIOOBE_FORMATTER" "Ljava/util/function/BiFunction;" ∈ gw := gw_of (in_t3 (List.mem_of_getElem? (i := 24) rfl)) rfl
theorem q_3_26 : Cond.methodLink "java/lang/String" 1059 yJ3_checkIndex_8e157 ∈ gw := gw_of (in_t3 (List.mem_of_getElem? (i := 26) rfl)) rfl
theorem q_3_27 : Cond.static yJ3_checkIndex_8e157 ∈ gw := gw_of (in_t3 (List.mem_of_getElem? (i := 27) rfl)) rfl
theorem q_3_28 : Cond.code yJ3_checkIndex_8e157 cJ3_checkIndex_8e157 3 ((Option.some Jvm.ClassFile.FieldType.int)) ∈ gw := gw_of (in_t3 (List.mem_of_getElem? (i := 28) rfl)) rfl
theorem q_3_3 : Cond.code yJ0_length_8abf5 cJ0_length_8abf5 1 ((Option.some Jvm.ClassFile.FieldType.int)) ∈ gw := gw_of (in_t3 (List.mem_of_getElem? (i := 3) rfl)) rfl
theorem q_3_4 : Cond.methodLink "java/lang/String" 335 yJ0_coder_7d493 ∈ gw := gw_of (in_t3 (List.mem_of_getElem? (i := 4) rfl)) rfl
theorem q_3_48 : Cond.methodLink RX2 52 yX2_readVoice ∈ gw := gw_of (in_t3 (List.mem_of_getElem? (i := 48) rfl)) rfl
theorem q_3_5 : Cond.instanceMethod yJ0_coder_7d493 ∈ gw := gw_of (in_t3 (List.mem_of_getElem? (i := 5) rfl)) rfl
theorem q_3_50 : Cond.instanceMethod yX2_readVoice ∈ gw := gw_of (in_t3 (List.mem_of_getElem? (i := 50) rfl)) rfl
theorem q_3_51 : Cond.code yX2_readVoice cX2_readVoice 5 ((Option.some Jvm.ClassFile.FieldType.boolean)) ∈ gw := gw_of (in_t3 (List.mem_of_getElem? (i := 51) rfl)) rfl
theorem q_3_59 : Cond.methodLink RX2 57 yX2_readPitch ∈ gw := gw_of (in_t3 (List.mem_of_getElem? (i := 59) rfl)) rfl
theorem q_3_6 : Cond.selects "java/lang/String" yJ0_coder_7d493 yJ0_coder_7d493 ∈ gw := gw_of (in_t3 (List.mem_of_getElem? (i := 6) rfl)) rfl
theorem q_3_61 : Cond.instanceMethod yX2_readPitch ∈ gw := gw_of (in_t3 (List.mem_of_getElem? (i := 61) rfl)) rfl
theorem q_3_62 : Cond.code yX2_readPitch cX2_readPitch 4 ((Option.some Jvm.ClassFile.FieldType.boolean)) ∈ gw := gw_of (in_t3 (List.mem_of_getElem? (i := 62) rfl)) rfl
theorem q_3_65 : Cond.methodLink RX2 62 yX2_readWeight ∈ gw := gw_of (in_t3 (List.mem_of_getElem? (i := 65) rfl)) rfl
theorem q_3_67 : Cond.instanceMethod yX2_readWeight ∈ gw := gw_of (in_t3 (List.mem_of_getElem? (i := 67) rfl)) rfl
theorem q_3_68 : Cond.code yX2_readWeight cX2_readWeight 4 ((Option.some Jvm.ClassFile.FieldType.boolean)) ∈ gw := gw_of (in_t3 (List.mem_of_getElem? (i := 68) rfl)) rfl
theorem q_3_7 : Cond.code yJ0_coder_7d493 cJ0_coder_7d493 1 ((Option.some Jvm.ClassFile.FieldType.byte)) ∈ gw := gw_of (in_t3 (List.mem_of_getElem? (i := 7) rfl)) rfl
theorem q_3_73 : Cond.methodLink RL 78 yX5_voiceOf ∈ gw := gw_of (in_t3 (List.mem_of_getElem? (i := 73) rfl)) rfl
theorem q_3_74 : Cond.instanceMethod yX5_voiceOf ∈ gw := gw_of (in_t3 (List.mem_of_getElem? (i := 74) rfl)) rfl
theorem q_3_75 : Cond.selects RX5 yX5_voiceOf yX5_voiceOf ∈ gw := gw_of (in_t3 (List.mem_of_getElem? (i := 75) rfl)) rfl
theorem q_3_76 : Cond.code yX5_voiceOf cX5_voiceOf 3 ((Option.some Jvm.ClassFile.FieldType.int)) ∈ gw := gw_of (in_t3 (List.mem_of_getElem? (i := 76) rfl)) rfl
theorem q_3_8 : Cond.fieldLink "java/lang/String" 38 "java/lang/String" "COMPACT_STRINGS" "Z" ∈ gw := gw_of (in_t3 (List.mem_of_getElem? (i := 8) rfl)) rfl
theorem q_3_82 : Cond.methodLink RL 82 yX5_back ∈ gw := gw_of (in_t3 (List.mem_of_getElem? (i := 82) rfl)) rfl
theorem q_3_83 : Cond.instanceMethod yX5_back ∈ gw := gw_of (in_t3 (List.mem_of_getElem? (i := 83) rfl)) rfl
theorem q_3_84 : Cond.selects RX5 yX5_back yX5_back ∈ gw := gw_of (in_t3 (List.mem_of_getElem? (i := 84) rfl)) rfl
theorem q_3_85 : Cond.code yX5_back cX5_back 3 ((Option.some Jvm.ClassFile.FieldType.int)) ∈ gw := gw_of (in_t3 (List.mem_of_getElem? (i := 85) rfl)) rfl
theorem q_3_87 : Cond.methodLink RL 86 yX5_lost ∈ gw := gw_of (in_t3 (List.mem_of_getElem? (i := 87) rfl)) rfl
theorem q_3_88 : Cond.instanceMethod yX5_lost ∈ gw := gw_of (in_t3 (List.mem_of_getElem? (i := 88) rfl)) rfl
theorem q_3_89 : Cond.selects RX5 yX5_lost yX5_lost ∈ gw := gw_of (in_t3 (List.mem_of_getElem? (i := 89) rfl)) rfl
theorem q_3_90 : Cond.code yX5_lost cX5_lost 4 ((Option.some Jvm.ClassFile.FieldType.int)) ∈ gw := gw_of (in_t3 (List.mem_of_getElem? (i := 90) rfl)) rfl
theorem q_3_91 : Cond.methodLink RL 196 yX5_plain ∈ gw := gw_of (in_t3 (List.mem_of_getElem? (i := 91) rfl)) rfl
theorem q_3_92 : Cond.instanceMethod yX5_plain ∈ gw := gw_of (in_t3 (List.mem_of_getElem? (i := 92) rfl)) rfl
theorem q_3_93 : Cond.selects RX5 yX5_plain yX5_plain ∈ gw := gw_of (in_t3 (List.mem_of_getElem? (i := 93) rfl)) rfl
theorem q_3_94 : Cond.code yX5_plain cX5_plain 4 ((Option.some Jvm.ClassFile.FieldType.int)) ∈ gw := gw_of (in_t3 (List.mem_of_getElem? (i := 94) rfl)) rfl
theorem q_3_95 : Cond.methodLink RL 200 yX5_twins ∈ gw := gw_of (in_t3 (List.mem_of_getElem? (i := 95) rfl)) rfl
theorem q_3_96 : Cond.instanceMethod yX5_twins ∈ gw := gw_of (in_t3 (List.mem_of_getElem? (i := 96) rfl)) rfl
theorem q_3_97 : Cond.selects RX5 yX5_twins yX5_twins ∈ gw := gw_of (in_t3 (List.mem_of_getElem? (i := 97) rfl)) rfl
theorem q_3_98 : Cond.code yX5_twins cX5_twins 4 ((Option.some Jvm.ClassFile.FieldType.int)) ∈ gw := gw_of (in_t3 (List.mem_of_getElem? (i := 98) rfl)) rfl
theorem q_4_10 : Cond.code yX5_odds cX5_odds 9 ((Option.some Jvm.ClassFile.FieldType.int)) ∈ gw := gw_of (in_t4 (List.mem_of_getElem? (i := 10) rfl)) rfl
theorem q_4_100 : Cond.methodLink RL 140 yX5_below ∈ gw := gw_of (in_t4 (List.mem_of_getElem? (i := 100) rfl)) rfl
theorem q_4_101 : Cond.instanceMethod yX5_below ∈ gw := gw_of (in_t4 (List.mem_of_getElem? (i := 101) rfl)) rfl
theorem q_4_102 : Cond.selects RX5 yX5_below yX5_below ∈ gw := gw_of (in_t4 (List.mem_of_getElem? (i := 102) rfl)) rfl
theorem q_4_103 : Cond.code yX5_below cX5_below 7 ((Option.some Jvm.ClassFile.FieldType.int)) ∈ gw := gw_of (in_t4 (List.mem_of_getElem? (i := 103) rfl)) rfl
theorem q_4_104 : Cond.methodLink RL 144 yX5_next ∈ gw := gw_of (in_t4 (List.mem_of_getElem? (i := 104) rfl)) rfl
theorem q_4_105 : Cond.instanceMethod yX5_next ∈ gw := gw_of (in_t4 (List.mem_of_getElem? (i := 105) rfl)) rfl
theorem q_4_106 : Cond.selects RX5 yX5_next yX5_next ∈ gw := gw_of (in_t4 (List.mem_of_getElem? (i := 106) rfl)) rfl
theorem q_4_107 : Cond.code yX5_next cX5_next 13 ((Option.some Jvm.ClassFile.FieldType.int)) ∈ gw := gw_of (in_t4 (List.mem_of_getElem? (i := 107) rfl)) rfl
theorem q_4_112 : Cond.methodLink RL 208 yX5_judge ∈ gw := gw_of (in_t4 (List.mem_of_getElem? (i := 112) rfl)) rfl
theorem q_4_113 : Cond.instanceMethod yX5_judge ∈ gw := gw_of (in_t4 (List.mem_of_getElem? (i := 113) rfl)) rfl
theorem q_4_114 : Cond.selects RX5 yX5_judge yX5_judge ∈ gw := gw_of (in_t4 (List.mem_of_getElem? (i := 114) rfl)) rfl
theorem q_4_115 : Cond.code yX5_judge cX5_judge 7 ((Option.some Jvm.ClassFile.FieldType.int)) ∈ gw := gw_of (in_t4 (List.mem_of_getElem? (i := 115) rfl)) rfl
theorem q_4_120 : Cond.methodLink RL 160 yX5_ahead ∈ gw := gw_of (in_t4 (List.mem_of_getElem? (i := 120) rfl)) rfl
theorem q_4_121 : Cond.instanceMethod yX5_ahead ∈ gw := gw_of (in_t4 (List.mem_of_getElem? (i := 121) rfl)) rfl
theorem q_4_122 : Cond.selects RX5 yX5_ahead yX5_ahead ∈ gw := gw_of (in_t4 (List.mem_of_getElem? (i := 122) rfl)) rfl
theorem q_4_123 : Cond.code yX5_ahead cX5_ahead 4 ((Option.some Jvm.ClassFile.FieldType.int)) ∈ gw := gw_of (in_t4 (List.mem_of_getElem? (i := 123) rfl)) rfl
theorem q_4_124 : Cond.methodLink RL 192 yX5_sinks ∈ gw := gw_of (in_t4 (List.mem_of_getElem? (i := 124) rfl)) rfl
theorem q_4_125 : Cond.instanceMethod yX5_sinks ∈ gw := gw_of (in_t4 (List.mem_of_getElem? (i := 125) rfl)) rfl
theorem q_4_126 : Cond.selects RX5 yX5_sinks yX5_sinks ∈ gw := gw_of (in_t4 (List.mem_of_getElem? (i := 126) rfl)) rfl
theorem q_4_127 : Cond.code yX5_sinks cX5_sinks 4 ((Option.some Jvm.ClassFile.FieldType.int)) ∈ gw := gw_of (in_t4 (List.mem_of_getElem? (i := 127) rfl)) rfl
theorem q_4_128 : Cond.methodLink RL 212 yX5_shout ∈ gw := gw_of (in_t4 (List.mem_of_getElem? (i := 128) rfl)) rfl
theorem q_4_129 : Cond.instanceMethod yX5_shout ∈ gw := gw_of (in_t4 (List.mem_of_getElem? (i := 129) rfl)) rfl
theorem q_4_130 : Cond.selects RX5 yX5_shout yX5_shout ∈ gw := gw_of (in_t4 (List.mem_of_getElem? (i := 130) rfl)) rfl
theorem q_4_131 : Cond.code yX5_shout cX5_shout 5 ((Option.some Jvm.ClassFile.FieldType.int)) ∈ gw := gw_of (in_t4 (List.mem_of_getElem? (i := 131) rfl)) rfl
theorem q_4_136 : Cond.methodLink RL 216 yX5_days ∈ gw := gw_of (in_t4 (List.mem_of_getElem? (i := 136) rfl)) rfl
theorem q_4_137 : Cond.instanceMethod yX5_days ∈ gw := gw_of (in_t4 (List.mem_of_getElem? (i := 137) rfl)) rfl
theorem q_4_138 : Cond.selects RX5 yX5_days yX5_days ∈ gw := gw_of (in_t4 (List.mem_of_getElem? (i := 138) rfl)) rfl
theorem q_4_139 : Cond.code yX5_days cX5_days 3 ((Option.some Jvm.ClassFile.FieldType.int)) ∈ gw := gw_of (in_t4 (List.mem_of_getElem? (i := 139) rfl)) rfl
theorem q_4_146 : Cond.methodLink RL 220 yX5_drawn ∈ gw := gw_of (in_t4 (List.mem_of_getElem? (i := 146) rfl)) rfl
theorem q_4_147 : Cond.instanceMethod yX5_drawn ∈ gw := gw_of (in_t4 (List.mem_of_getElem? (i := 147) rfl)) rfl
theorem q_4_148 : Cond.selects RX5 yX5_drawn yX5_drawn ∈ gw := gw_of (in_t4 (List.mem_of_getElem? (i := 148) rfl)) rfl
theorem q_4_149 : Cond.code yX5_drawn cX5_drawn 7 ((Option.some Jvm.ClassFile.FieldType.int)) ∈ gw := gw_of (in_t4 (List.mem_of_getElem? (i := 149) rfl)) rfl
theorem q_4_155 : Cond.methodLink RL 224 yX5_seed ∈ gw := gw_of (in_t4 (List.mem_of_getElem? (i := 155) rfl)) rfl
theorem q_4_156 : Cond.instanceMethod yX5_seed ∈ gw := gw_of (in_t4 (List.mem_of_getElem? (i := 156) rfl)) rfl
theorem q_4_157 : Cond.selects RX5 yX5_seed yX5_seed ∈ gw := gw_of (in_t4 (List.mem_of_getElem? (i := 157) rfl)) rfl
theorem q_4_158 : Cond.code yX5_seed cX5_seed 3 ((Option.some Jvm.ClassFile.FieldType.int)) ∈ gw := gw_of (in_t4 (List.mem_of_getElem? (i := 158) rfl)) rfl
theorem q_4_159 : Cond.methodLink RL 228 yX5_image ∈ gw := gw_of (in_t4 (List.mem_of_getElem? (i := 159) rfl)) rfl
theorem q_4_160 : Cond.instanceMethod yX5_image ∈ gw := gw_of (in_t4 (List.mem_of_getElem? (i := 160) rfl)) rfl
theorem q_4_161 : Cond.selects RX5 yX5_image yX5_image ∈ gw := gw_of (in_t4 (List.mem_of_getElem? (i := 161) rfl)) rfl
theorem q_4_162 : Cond.code yX5_image cX5_image 1 ((Option.some Jvm.ClassFile.FieldType.int)) ∈ gw := gw_of (in_t4 (List.mem_of_getElem? (i := 162) rfl)) rfl
theorem q_4_163 : Cond.methodLink RL 232 yX5_again ∈ gw := gw_of (in_t4 (List.mem_of_getElem? (i := 163) rfl)) rfl
theorem q_4_164 : Cond.instanceMethod yX5_again ∈ gw := gw_of (in_t4 (List.mem_of_getElem? (i := 164) rfl)) rfl
theorem q_4_165 : Cond.selects RX5 yX5_again yX5_again ∈ gw := gw_of (in_t4 (List.mem_of_getElem? (i := 165) rfl)) rfl
theorem q_4_166 : Cond.code yX5_again cX5_again 1 ((Option.some Jvm.ClassFile.FieldType.int)) ∈ gw := gw_of (in_t4 (List.mem_of_getElem? (i := 166) rfl)) rfl
theorem q_4_171 : Cond.methodLink RL 236 yX5_status ∈ gw := gw_of (in_t4 (List.mem_of_getElem? (i := 171) rfl)) rfl
theorem q_4_172 : Cond.instanceMethod yX5_status ∈ gw := gw_of (in_t4 (List.mem_of_getElem? (i := 172) rfl)) rfl
theorem q_4_173 : Cond.selects RX5 yX5_status yX5_status ∈ gw := gw_of (in_t4 (List.mem_of_getElem? (i := 173) rfl)) rfl
theorem q_4_174 : Cond.code yX5_status cX5_status 2 ((Option.some Jvm.ClassFile.FieldType.int)) ∈ gw := gw_of (in_t4 (List.mem_of_getElem? (i := 174) rfl)) rfl
theorem q_4_180 : Cond.instantiable RX6 49 ∈ gw := gw_of (in_t4 (List.mem_of_getElem? (i := 180) rfl)) rfl
theorem q_4_182 : Cond.instanceMethod yX6_init ∈ gw := gw_of (in_t4 (List.mem_of_getElem? (i := 182) rfl)) rfl
theorem q_4_183 : Cond.code yX6_init cX6_init 1 ((Option.none : Option Jvm.ClassFile.FieldType)) ∈ gw := gw_of (in_t4 (List.mem_of_getElem? (i := 183) rfl)) rfl
theorem q_4_210 : Cond.fieldLink RX6 363 "WellIsAskedFirstModel" "kept" "LWellIsAskedFirstModel;" ∈ gw := gw_of (in_t4 (List.mem_of_getElem? (i := 210) rfl)) rfl
theorem q_4_211 : Cond.fieldLink RX6 215 "WellIsAskedFirstModel" "tried" "LWellIsAskedFirstModel;" ∈ gw := gw_of (in_t4 (List.mem_of_getElem? (i := 211) rfl)) rfl
theorem q_4_218 : Cond.fieldLink RX6 209 "WellIsAskedFirstModel" "statements" "I" ∈ gw := gw_of (in_t4 (List.mem_of_getElem? (i := 218) rfl)) rfl
theorem q_4_27 : Cond.methodLink RL 103 yX5_heard ∈ gw := gw_of (in_t4 (List.mem_of_getElem? (i := 27) rfl)) rfl
theorem q_4_28 : Cond.instanceMethod yX5_heard ∈ gw := gw_of (in_t4 (List.mem_of_getElem? (i := 28) rfl)) rfl
theorem q_4_29 : Cond.selects RX5 yX5_heard yX5_heard ∈ gw := gw_of (in_t4 (List.mem_of_getElem? (i := 29) rfl)) rfl
theorem q_4_30 : Cond.code yX5_heard cX5_heard 4 ((Option.some Jvm.ClassFile.FieldType.int)) ∈ gw := gw_of (in_t4 (List.mem_of_getElem? (i := 30) rfl)) rfl
theorem q_4_35 : Cond.methodLink RL 184 yX5_mute ∈ gw := gw_of (in_t4 (List.mem_of_getElem? (i := 35) rfl)) rfl
theorem q_4_36 : Cond.instanceMethod yX5_mute ∈ gw := gw_of (in_t4 (List.mem_of_getElem? (i := 36) rfl)) rfl
theorem q_4_37 : Cond.selects RX5 yX5_mute yX5_mute ∈ gw := gw_of (in_t4 (List.mem_of_getElem? (i := 37) rfl)) rfl
theorem q_4_38 : Cond.code yX5_mute cX5_mute 6 ((Option.some Jvm.ClassFile.FieldType.int)) ∈ gw := gw_of (in_t4 (List.mem_of_getElem? (i := 38) rfl)) rfl
theorem q_4_39 : Cond.methodLink RL 148 yX5_suits ∈ gw := gw_of (in_t4 (List.mem_of_getElem? (i := 39) rfl)) rfl
theorem q_4_40 : Cond.instanceMethod yX5_suits ∈ gw := gw_of (in_t4 (List.mem_of_getElem? (i := 40) rfl)) rfl
theorem q_4_41 : Cond.selects RX5 yX5_suits yX5_suits ∈ gw := gw_of (in_t4 (List.mem_of_getElem? (i := 41) rfl)) rfl
theorem q_4_42 : Cond.code yX5_suits cX5_suits 6 ((Option.some Jvm.ClassFile.FieldType.int)) ∈ gw := gw_of (in_t4 (List.mem_of_getElem? (i := 42) rfl)) rfl
theorem q_4_65 : Cond.methodLink RL 168 yX5_fairest ∈ gw := gw_of (in_t4 (List.mem_of_getElem? (i := 65) rfl)) rfl
theorem q_4_66 : Cond.instanceMethod yX5_fairest ∈ gw := gw_of (in_t4 (List.mem_of_getElem? (i := 66) rfl)) rfl
theorem q_4_67 : Cond.selects RX5 yX5_fairest yX5_fairest ∈ gw := gw_of (in_t4 (List.mem_of_getElem? (i := 67) rfl)) rfl
theorem q_4_68 : Cond.code yX5_fairest cX5_fairest 8 ((Option.some Jvm.ClassFile.FieldType.int)) ∈ gw := gw_of (in_t4 (List.mem_of_getElem? (i := 68) rfl)) rfl
theorem q_4_69 : Cond.methodLink RL 180 yX5_best ∈ gw := gw_of (in_t4 (List.mem_of_getElem? (i := 69) rfl)) rfl
theorem q_4_7 : Cond.methodLink RL 156 yX5_odds ∈ gw := gw_of (in_t4 (List.mem_of_getElem? (i := 7) rfl)) rfl
theorem q_4_70 : Cond.instanceMethod yX5_best ∈ gw := gw_of (in_t4 (List.mem_of_getElem? (i := 70) rfl)) rfl
theorem q_4_71 : Cond.selects RX5 yX5_best yX5_best ∈ gw := gw_of (in_t4 (List.mem_of_getElem? (i := 71) rfl)) rfl
theorem q_4_72 : Cond.code yX5_best cX5_best 9 ((Option.some Jvm.ClassFile.FieldType.int)) ∈ gw := gw_of (in_t4 (List.mem_of_getElem? (i := 72) rfl)) rfl
theorem q_4_73 : Cond.methodLink RL 131 yX5_depths ∈ gw := gw_of (in_t4 (List.mem_of_getElem? (i := 73) rfl)) rfl
theorem q_4_74 : Cond.instanceMethod yX5_depths ∈ gw := gw_of (in_t4 (List.mem_of_getElem? (i := 74) rfl)) rfl
theorem q_4_75 : Cond.selects RX5 yX5_depths yX5_depths ∈ gw := gw_of (in_t4 (List.mem_of_getElem? (i := 75) rfl)) rfl
theorem q_4_76 : Cond.code yX5_depths cX5_depths 8 ((Option.some Jvm.ClassFile.FieldType.int)) ∈ gw := gw_of (in_t4 (List.mem_of_getElem? (i := 76) rfl)) rfl
theorem q_4_8 : Cond.instanceMethod yX5_odds ∈ gw := gw_of (in_t4 (List.mem_of_getElem? (i := 8) rfl)) rfl
theorem q_4_88 : Cond.methodLink RL 136 yX5_fits ∈ gw := gw_of (in_t4 (List.mem_of_getElem? (i := 88) rfl)) rfl
theorem q_4_89 : Cond.instanceMethod yX5_fits ∈ gw := gw_of (in_t4 (List.mem_of_getElem? (i := 89) rfl)) rfl
theorem q_4_9 : Cond.selects RX5 yX5_odds yX5_odds ∈ gw := gw_of (in_t4 (List.mem_of_getElem? (i := 9) rfl)) rfl
theorem q_4_90 : Cond.selects RX5 yX5_fits yX5_fits ∈ gw := gw_of (in_t4 (List.mem_of_getElem? (i := 90) rfl)) rfl
theorem q_4_91 : Cond.code yX5_fits cX5_fits 8 ((Option.some Jvm.ClassFile.FieldType.int)) ∈ gw := gw_of (in_t4 (List.mem_of_getElem? (i := 91) rfl)) rfl
theorem q_5_100 : Cond.selects RX6 yX6_row yX6_row ∈ gw := gw_of (in_t5 (List.mem_of_getElem? (i := 100) rfl)) rfl
theorem q_5_101 : Cond.code yX6_row cX6_row 5 ((Option.some Jvm.ClassFile.FieldType.int)) ∈ gw := gw_of (in_t5 (List.mem_of_getElem? (i := 101) rfl)) rfl
theorem q_5_112 : Cond.methodLink RL 24 yX6_set ∈ gw := gw_of (in_t5 (List.mem_of_getElem? (i := 112) rfl)) rfl
theorem q_5_113 : Cond.instanceMethod yX6_set ∈ gw := gw_of (in_t5 (List.mem_of_getElem? (i := 113) rfl)) rfl
theorem q_5_114 : Cond.selects RX6 yX6_set yX6_set ∈ gw := gw_of (in_t5 (List.mem_of_getElem? (i := 114) rfl)) rfl
theorem q_5_115 : Cond.code yX6_set cX6_set 6 ((Option.some Jvm.ClassFile.FieldType.int)) ∈ gw := gw_of (in_t5 (List.mem_of_getElem? (i := 115) rfl)) rfl
theorem q_5_123 : Cond.methodLink RL 29 yX6_copy ∈ gw := gw_of (in_t5 (List.mem_of_getElem? (i := 123) rfl)) rfl
theorem q_5_124 : Cond.instanceMethod yX6_copy ∈ gw := gw_of (in_t5 (List.mem_of_getElem? (i := 124) rfl)) rfl
theorem q_5_125 : Cond.selects RX6 yX6_copy yX6_copy ∈ gw := gw_of (in_t5 (List.mem_of_getElem? (i := 125) rfl)) rfl
theorem q_5_126 : Cond.code yX6_copy cX6_copy 7 ((Option.some Jvm.ClassFile.FieldType.int)) ∈ gw := gw_of (in_t5 (List.mem_of_getElem? (i := 126) rfl)) rfl
theorem q_5_127 : Cond.methodLink RL 34 yX6_element ∈ gw := gw_of (in_t5 (List.mem_of_getElem? (i := 127) rfl)) rfl
theorem q_5_128 : Cond.instanceMethod yX6_element ∈ gw := gw_of (in_t5 (List.mem_of_getElem? (i := 128) rfl)) rfl
theorem q_5_129 : Cond.selects RX6 yX6_element yX6_element ∈ gw := gw_of (in_t5 (List.mem_of_getElem? (i := 129) rfl)) rfl
theorem q_5_130 : Cond.code yX6_element cX6_element 3 ((Option.some Jvm.ClassFile.FieldType.long)) ∈ gw := gw_of (in_t5 (List.mem_of_getElem? (i := 130) rfl)) rfl
theorem q_5_131 : Cond.methodLink RL 39 yX6_holds ∈ gw := gw_of (in_t5 (List.mem_of_getElem? (i := 131) rfl)) rfl
theorem q_5_132 : Cond.instanceMethod yX6_holds ∈ gw := gw_of (in_t5 (List.mem_of_getElem? (i := 132) rfl)) rfl
theorem q_5_133 : Cond.selects RX6 yX6_holds yX6_holds ∈ gw := gw_of (in_t5 (List.mem_of_getElem? (i := 133) rfl)) rfl
theorem q_5_134 : Cond.code yX6_holds cX6_holds 2 ((Option.some Jvm.ClassFile.FieldType.int)) ∈ gw := gw_of (in_t5 (List.mem_of_getElem? (i := 134) rfl)) rfl
theorem q_5_135 : Cond.methodLink RL 44 yX6_show ∈ gw := gw_of (in_t5 (List.mem_of_getElem? (i := 135) rfl)) rfl
theorem q_5_136 : Cond.instanceMethod yX6_show ∈ gw := gw_of (in_t5 (List.mem_of_getElem? (i := 136) rfl)) rfl
theorem q_5_137 : Cond.selects RX6 yX6_show yX6_show ∈ gw := gw_of (in_t5 (List.mem_of_getElem? (i := 137) rfl)) rfl
theorem q_5_138 : Cond.code yX6_show cX6_show 3 ((Option.some Jvm.ClassFile.FieldType.int)) ∈ gw := gw_of (in_t5 (List.mem_of_getElem? (i := 138) rfl)) rfl
theorem q_5_143 : Cond.methodLink RL 48 yX6_says ∈ gw := gw_of (in_t5 (List.mem_of_getElem? (i := 143) rfl)) rfl
theorem q_5_144 : Cond.instanceMethod yX6_says ∈ gw := gw_of (in_t5 (List.mem_of_getElem? (i := 144) rfl)) rfl
theorem q_5_145 : Cond.selects RX6 yX6_says yX6_says ∈ gw := gw_of (in_t5 (List.mem_of_getElem? (i := 145) rfl)) rfl
theorem q_5_146 : Cond.code yX6_says cX6_says 4 ((Option.some Jvm.ClassFile.FieldType.int)) ∈ gw := gw_of (in_t5 (List.mem_of_getElem? (i := 146) rfl)) rfl
theorem q_5_167 : Cond.methodLink RL 52 yX6_voice ∈ gw := gw_of (in_t5 (List.mem_of_getElem? (i := 167) rfl)) rfl
theorem q_5_168 : Cond.instanceMethod yX6_voice ∈ gw := gw_of (in_t5 (List.mem_of_getElem? (i := 168) rfl)) rfl
theorem q_5_169 : Cond.selects RX6 yX6_voice yX6_voice ∈ gw := gw_of (in_t5 (List.mem_of_getElem? (i := 169) rfl)) rfl
theorem q_5_170 : Cond.code yX6_voice cX6_voice 4 ((Option.some Jvm.ClassFile.FieldType.int)) ∈ gw := gw_of (in_t5 (List.mem_of_getElem? (i := 170) rfl)) rfl
theorem q_5_177 : Cond.methodLink RL 56 yX6_pitch ∈ gw := gw_of (in_t5 (List.mem_of_getElem? (i := 177) rfl)) rfl
theorem q_5_178 : Cond.instanceMethod yX6_pitch ∈ gw := gw_of (in_t5 (List.mem_of_getElem? (i := 178) rfl)) rfl
theorem q_5_179 : Cond.selects RX6 yX6_pitch yX6_pitch ∈ gw := gw_of (in_t5 (List.mem_of_getElem? (i := 179) rfl)) rfl
theorem q_5_180 : Cond.code yX6_pitch cX6_pitch 4 ((Option.some Jvm.ClassFile.FieldType.int)) ∈ gw := gw_of (in_t5 (List.mem_of_getElem? (i := 180) rfl)) rfl
theorem q_5_181 : Cond.methodLink RL 60 yX6_tell ∈ gw := gw_of (in_t5 (List.mem_of_getElem? (i := 181) rfl)) rfl
theorem q_5_182 : Cond.instanceMethod yX6_tell ∈ gw := gw_of (in_t5 (List.mem_of_getElem? (i := 182) rfl)) rfl
theorem q_5_183 : Cond.selects RX6 yX6_tell yX6_tell ∈ gw := gw_of (in_t5 (List.mem_of_getElem? (i := 183) rfl)) rfl
theorem q_5_184 : Cond.code yX6_tell cX6_tell 4 ((Option.some Jvm.ClassFile.FieldType.int)) ∈ gw := gw_of (in_t5 (List.mem_of_getElem? (i := 184) rfl)) rfl
theorem q_5_187 : Cond.methodLink RL 64 yX6_weigh ∈ gw := gw_of (in_t5 (List.mem_of_getElem? (i := 187) rfl)) rfl
theorem q_5_188 : Cond.instanceMethod yX6_weigh ∈ gw := gw_of (in_t5 (List.mem_of_getElem? (i := 188) rfl)) rfl
theorem q_5_189 : Cond.selects RX6 yX6_weigh yX6_weigh ∈ gw := gw_of (in_t5 (List.mem_of_getElem? (i := 189) rfl)) rfl
theorem q_5_190 : Cond.code yX6_weigh cX6_weigh 4 ((Option.some Jvm.ClassFile.FieldType.int)) ∈ gw := gw_of (in_t5 (List.mem_of_getElem? (i := 190) rfl)) rfl
theorem q_5_191 : Cond.methodLink RL 68 yX6_feed ∈ gw := gw_of (in_t5 (List.mem_of_getElem? (i := 191) rfl)) rfl
theorem q_5_192 : Cond.instanceMethod yX6_feed ∈ gw := gw_of (in_t5 (List.mem_of_getElem? (i := 192) rfl)) rfl
theorem q_5_193 : Cond.selects RX6 yX6_feed yX6_feed ∈ gw := gw_of (in_t5 (List.mem_of_getElem? (i := 193) rfl)) rfl
theorem q_5_194 : Cond.code yX6_feed cX6_feed 2 ((Option.some Jvm.ClassFile.FieldType.int)) ∈ gw := gw_of (in_t5 (List.mem_of_getElem? (i := 194) rfl)) rfl
theorem q_5_196 : Cond.methodLink RL 73 yX6_wipe ∈ gw := gw_of (in_t5 (List.mem_of_getElem? (i := 196) rfl)) rfl
theorem q_5_197 : Cond.instanceMethod yX6_wipe ∈ gw := gw_of (in_t5 (List.mem_of_getElem? (i := 197) rfl)) rfl
theorem q_5_198 : Cond.selects RX6 yX6_wipe yX6_wipe ∈ gw := gw_of (in_t5 (List.mem_of_getElem? (i := 198) rfl)) rfl
theorem q_5_199 : Cond.code yX6_wipe cX6_wipe 2 ((Option.some Jvm.ClassFile.FieldType.int)) ∈ gw := gw_of (in_t5 (List.mem_of_getElem? (i := 199) rfl)) rfl
theorem q_5_200 : Cond.methodLink RL 77 yX6_well ∈ gw := gw_of (in_t5 (List.mem_of_getElem? (i := 200) rfl)) rfl
theorem q_5_201 : Cond.instanceMethod yX6_well ∈ gw := gw_of (in_t5 (List.mem_of_getElem? (i := 201) rfl)) rfl
theorem q_5_202 : Cond.selects RX6 yX6_well yX6_well ∈ gw := gw_of (in_t5 (List.mem_of_getElem? (i := 202) rfl)) rfl
theorem q_5_203 : Cond.code yX6_well cX6_well 2 ((Option.some Jvm.ClassFile.FieldType.int)) ∈ gw := gw_of (in_t5 (List.mem_of_getElem? (i := 203) rfl)) rfl
theorem q_5_204 : Cond.classLink RX6 8 RX6 ∈ gw := gw_of (in_t5 (List.mem_of_getElem? (i := 204) rfl)) rfl
theorem q_5_205 : Cond.methodLink RX6 219 yX6_init ∈ gw := gw_of (in_t5 (List.mem_of_getElem? (i := 205) rfl)) rfl
theorem q_5_206 : Cond.methodLink RX6 220 yX6_takeFrom ∈ gw := gw_of (in_t5 (List.mem_of_getElem? (i := 206) rfl)) rfl
theorem q_5_208 : Cond.instanceMethod yX6_takeFrom ∈ gw := gw_of (in_t5 (List.mem_of_getElem? (i := 208) rfl)) rfl
theorem q_5_209 : Cond.code yX6_takeFrom cX6_takeFrom 2 ((Option.none : Option Jvm.ClassFile.FieldType)) ∈ gw := gw_of (in_t5 (List.mem_of_getElem? (i := 209) rfl)) rfl
theorem q_5_213 : Cond.methodLink RX6 224 yX6_readAll ∈ gw := gw_of (in_t5 (List.mem_of_getElem? (i := 213) rfl)) rfl
theorem q_5_215 : Cond.instanceMethod yX6_readAll ∈ gw := gw_of (in_t5 (List.mem_of_getElem? (i := 215) rfl)) rfl
theorem q_5_216 : Cond.code yX6_readAll cX6_readAll 1 ((Option.some Jvm.ClassFile.FieldType.boolean)) ∈ gw := gw_of (in_t5 (List.mem_of_getElem? (i := 216) rfl)) rfl
theorem q_5_227 : Cond.methodLink RX6 212 yX6_statement ∈ gw := gw_of (in_t5 (List.mem_of_getElem? (i := 227) rfl)) rfl
theorem q_5_229 : Cond.instanceMethod yX6_statement ∈ gw := gw_of (in_t5 (List.mem_of_getElem? (i := 229) rfl)) rfl
theorem q_5_230 : Cond.code yX6_statement cX6_statement 2 ((Option.some Jvm.ClassFile.FieldType.boolean)) ∈ gw := gw_of (in_t5 (List.mem_of_getElem? (i := 230) rfl)) rfl
theorem q_5_232 : Cond.methodLink RX6 196 yX6_isWord ∈ gw := gw_of (in_t5 (List.mem_of_getElem? (i := 232) rfl)) rfl
theorem q_5_234 : Cond.instanceMethod yX6_isWord ∈ gw := gw_of (in_t5 (List.mem_of_getElem? (i := 234) rfl)) rfl
theorem q_5_235 : Cond.code yX6_isWord cX6_isWord 3 ((Option.some Jvm.ClassFile.FieldType.boolean)) ∈ gw := gw_of (in_t5 (List.mem_of_getElem? (i := 235) rfl)) rfl
theorem q_5_236 : Cond.methodLink RX6 173 yJ0_length_8abf5 ∈ gw := gw_of (in_t5 (List.mem_of_getElem? (i := 236) rfl)) rfl
theorem q_5_237 : Cond.methodLink RX6 179 yJ0_charAt_5068e ∈ gw := gw_of (in_t5 (List.mem_of_getElem? (i := 237) rfl)) rfl
theorem q_5_238 : Cond.methodLink RX6 200 yX6_tells ∈ gw := gw_of (in_t5 (List.mem_of_getElem? (i := 238) rfl)) rfl
theorem q_5_98 : Cond.methodLink RL 17 yX6_row ∈ gw := gw_of (in_t5 (List.mem_of_getElem? (i := 98) rfl)) rfl
theorem q_5_99 : Cond.instanceMethod yX6_row ∈ gw := gw_of (in_t5 (List.mem_of_getElem? (i := 99) rfl)) rfl
theorem q_6_0 : Cond.instanceMethod yX6_tells ∈ gw := gw_of (in_t6 (List.mem_of_getElem? (i := 0) rfl)) rfl
theorem q_6_1 : Cond.code yX6_tells cX6_tells 3 ((Option.some Jvm.ClassFile.FieldType.boolean)) ∈ gw := gw_of (in_t6 (List.mem_of_getElem? (i := 1) rfl)) rfl
theorem q_6_101 : Cond.methodLink RL 195 yX6_sinks ∈ gw := gw_of (in_t6 (List.mem_of_getElem? (i := 101) rfl)) rfl
theorem q_6_102 : Cond.instanceMethod yX6_sinks ∈ gw := gw_of (in_t6 (List.mem_of_getElem? (i := 102) rfl)) rfl
theorem q_6_103 : Cond.selects RX6 yX6_sinks yX6_sinks ∈ gw := gw_of (in_t6 (List.mem_of_getElem? (i := 103) rfl)) rfl
theorem q_6_104 : Cond.code yX6_sinks cX6_sinks 4 ((Option.some Jvm.ClassFile.FieldType.int)) ∈ gw := gw_of (in_t6 (List.mem_of_getElem? (i := 104) rfl)) rfl
theorem q_6_105 : Cond.methodLink RL 110 yX6_when ∈ gw := gw_of (in_t6 (List.mem_of_getElem? (i := 105) rfl)) rfl
theorem q_6_106 : Cond.instanceMethod yX6_when ∈ gw := gw_of (in_t6 (List.mem_of_getElem? (i := 106) rfl)) rfl
theorem q_6_107 : Cond.selects RX6 yX6_when yX6_when ∈ gw := gw_of (in_t6 (List.mem_of_getElem? (i := 107) rfl)) rfl
theorem q_6_108 : Cond.code yX6_when cX6_when 6 ((Option.some Jvm.ClassFile.FieldType.int)) ∈ gw := gw_of (in_t6 (List.mem_of_getElem? (i := 108) rfl)) rfl
theorem q_6_121 : Cond.methodLink RL 114 yX6_sure ∈ gw := gw_of (in_t6 (List.mem_of_getElem? (i := 121) rfl)) rfl
theorem q_6_122 : Cond.instanceMethod yX6_sure ∈ gw := gw_of (in_t6 (List.mem_of_getElem? (i := 122) rfl)) rfl
theorem q_6_123 : Cond.selects RX6 yX6_sure yX6_sure ∈ gw := gw_of (in_t6 (List.mem_of_getElem? (i := 123) rfl)) rfl
theorem q_6_124 : Cond.code yX6_sure cX6_sure 6 ((Option.some Jvm.ClassFile.FieldType.int)) ∈ gw := gw_of (in_t6 (List.mem_of_getElem? (i := 124) rfl)) rfl
theorem q_6_125 : Cond.methodLink RL 167 yX6_rains ∈ gw := gw_of (in_t6 (List.mem_of_getElem? (i := 125) rfl)) rfl
theorem q_6_126 : Cond.instanceMethod yX6_rains ∈ gw := gw_of (in_t6 (List.mem_of_getElem? (i := 126) rfl)) rfl
theorem q_6_127 : Cond.selects RX6 yX6_rains yX6_rains ∈ gw := gw_of (in_t6 (List.mem_of_getElem? (i := 127) rfl)) rfl
theorem q_6_128 : Cond.code yX6_rains cX6_rains 9 ((Option.some Jvm.ClassFile.FieldType.int)) ∈ gw := gw_of (in_t6 (List.mem_of_getElem? (i := 128) rfl)) rfl
theorem q_6_130 : Cond.methodLink RL 159 yX6_odds ∈ gw := gw_of (in_t6 (List.mem_of_getElem? (i := 130) rfl)) rfl
theorem q_6_131 : Cond.instanceMethod yX6_odds ∈ gw := gw_of (in_t6 (List.mem_of_getElem? (i := 131) rfl)) rfl
theorem q_6_132 : Cond.selects RX6 yX6_odds yX6_odds ∈ gw := gw_of (in_t6 (List.mem_of_getElem? (i := 132) rfl)) rfl
theorem q_6_133 : Cond.code yX6_odds cX6_odds 8 ((Option.some Jvm.ClassFile.FieldType.int)) ∈ gw := gw_of (in_t6 (List.mem_of_getElem? (i := 133) rfl)) rfl
theorem q_6_140 : Cond.methodLink RL 118 yX6_yeses ∈ gw := gw_of (in_t6 (List.mem_of_getElem? (i := 140) rfl)) rfl
theorem q_6_141 : Cond.instanceMethod yX6_yeses ∈ gw := gw_of (in_t6 (List.mem_of_getElem? (i := 141) rfl)) rfl
theorem q_6_142 : Cond.selects RX6 yX6_yeses yX6_yeses ∈ gw := gw_of (in_t6 (List.mem_of_getElem? (i := 142) rfl)) rfl
theorem q_6_143 : Cond.code yX6_yeses cX6_yeses 9 ((Option.some Jvm.ClassFile.FieldType.int)) ∈ gw := gw_of (in_t6 (List.mem_of_getElem? (i := 143) rfl)) rfl
theorem q_6_144 : Cond.methodLink RL 183 yX6_best ∈ gw := gw_of (in_t6 (List.mem_of_getElem? (i := 144) rfl)) rfl
theorem q_6_145 : Cond.instanceMethod yX6_best ∈ gw := gw_of (in_t6 (List.mem_of_getElem? (i := 145) rfl)) rfl
theorem q_6_146 : Cond.selects RX6 yX6_best yX6_best ∈ gw := gw_of (in_t6 (List.mem_of_getElem? (i := 146) rfl)) rfl
theorem q_6_147 : Cond.code yX6_best cX6_best 8 ((Option.some Jvm.ClassFile.FieldType.int)) ∈ gw := gw_of (in_t6 (List.mem_of_getElem? (i := 147) rfl)) rfl
theorem q_6_15 : Cond.methodLink RL 81 yX6_voiceOf ∈ gw := gw_of (in_t6 (List.mem_of_getElem? (i := 15) rfl)) rfl
theorem q_6_151 : Cond.methodLink RL 122 yX6_tuned ∈ gw := gw_of (in_t6 (List.mem_of_getElem? (i := 151) rfl)) rfl
theorem q_6_152 : Cond.instanceMethod yX6_tuned ∈ gw := gw_of (in_t6 (List.mem_of_getElem? (i := 152) rfl)) rfl
theorem q_6_153 : Cond.selects RX6 yX6_tuned yX6_tuned ∈ gw := gw_of (in_t6 (List.mem_of_getElem? (i := 153) rfl)) rfl
theorem q_6_154 : Cond.code yX6_tuned cX6_tuned 8 ((Option.some Jvm.ClassFile.FieldType.int)) ∈ gw := gw_of (in_t6 (List.mem_of_getElem? (i := 154) rfl)) rfl
theorem q_6_155 : Cond.methodLink RL 126 yX6_ends ∈ gw := gw_of (in_t6 (List.mem_of_getElem? (i := 155) rfl)) rfl
theorem q_6_156 : Cond.instanceMethod yX6_ends ∈ gw := gw_of (in_t6 (List.mem_of_getElem? (i := 156) rfl)) rfl
theorem q_6_157 : Cond.selects RX6 yX6_ends yX6_ends ∈ gw := gw_of (in_t6 (List.mem_of_getElem? (i := 157) rfl)) rfl
theorem q_6_158 : Cond.code yX6_ends cX6_ends 6 ((Option.some Jvm.ClassFile.FieldType.int)) ∈ gw := gw_of (in_t6 (List.mem_of_getElem? (i := 158) rfl)) rfl
theorem q_6_159 : Cond.methodLink RL 179 yX6_less ∈ gw := gw_of (in_t6 (List.mem_of_getElem? (i := 159) rfl)) rfl
theorem q_6_16 : Cond.instanceMethod yX6_voiceOf ∈ gw := gw_of (in_t6 (List.mem_of_getElem? (i := 16) rfl)) rfl
theorem q_6_160 : Cond.instanceMethod yX6_less ∈ gw := gw_of (in_t6 (List.mem_of_getElem? (i := 160) rfl)) rfl
theorem q_6_161 : Cond.selects RX6 yX6_less yX6_less ∈ gw := gw_of (in_t6 (List.mem_of_getElem? (i := 161) rfl)) rfl
theorem q_6_162 : Cond.code yX6_less cX6_less 7 ((Option.some Jvm.ClassFile.FieldType.int)) ∈ gw := gw_of (in_t6 (List.mem_of_getElem? (i := 162) rfl)) rfl
theorem q_6_163 : Cond.methodLink RL 171 yX6_fairest ∈ gw := gw_of (in_t6 (List.mem_of_getElem? (i := 163) rfl)) rfl
theorem q_6_164 : Cond.instanceMethod yX6_fairest ∈ gw := gw_of (in_t6 (List.mem_of_getElem? (i := 164) rfl)) rfl
theorem q_6_165 : Cond.selects RX6 yX6_fairest yX6_fairest ∈ gw := gw_of (in_t6 (List.mem_of_getElem? (i := 165) rfl)) rfl
theorem q_6_166 : Cond.code yX6_fairest cX6_fairest 9 ((Option.some Jvm.ClassFile.FieldType.int)) ∈ gw := gw_of (in_t6 (List.mem_of_getElem? (i := 166) rfl)) rfl
theorem q_6_167 : Cond.methodLink RL 130 yX6_ask ∈ gw := gw_of (in_t6 (List.mem_of_getElem? (i := 167) rfl)) rfl
theorem q_6_168 : Cond.instanceMethod yX6_ask ∈ gw := gw_of (in_t6 (List.mem_of_getElem? (i := 168) rfl)) rfl
theorem q_6_169 : Cond.selects RX6 yX6_ask yX6_ask ∈ gw := gw_of (in_t6 (List.mem_of_getElem? (i := 169) rfl)) rfl
theorem q_6_17 : Cond.selects RX6 yX6_voiceOf yX6_voiceOf ∈ gw := gw_of (in_t6 (List.mem_of_getElem? (i := 17) rfl)) rfl
theorem q_6_170 : Cond.code yX6_ask cX6_ask 4 ((Option.some Jvm.ClassFile.FieldType.int)) ∈ gw := gw_of (in_t6 (List.mem_of_getElem? (i := 170) rfl)) rfl
theorem q_6_175 : Cond.methodLink RL 135 yX6_depths ∈ gw := gw_of (in_t6 (List.mem_of_getElem? (i := 175) rfl)) rfl
theorem q_6_176 : Cond.instanceMethod yX6_depths ∈ gw := gw_of (in_t6 (List.mem_of_getElem? (i := 176) rfl)) rfl
theorem q_6_177 : Cond.selects RX6 yX6_depths yX6_depths ∈ gw := gw_of (in_t6 (List.mem_of_getElem? (i := 177) rfl)) rfl
theorem q_6_178 : Cond.code yX6_depths cX6_depths 8 ((Option.some Jvm.ClassFile.FieldType.int)) ∈ gw := gw_of (in_t6 (List.mem_of_getElem? (i := 178) rfl)) rfl
theorem q_6_18 : Cond.code yX6_voiceOf cX6_voiceOf 3 ((Option.some Jvm.ClassFile.FieldType.int)) ∈ gw := gw_of (in_t6 (List.mem_of_getElem? (i := 18) rfl)) rfl
theorem q_6_192 : Cond.methodLink RL 143 yX6_below ∈ gw := gw_of (in_t6 (List.mem_of_getElem? (i := 192) rfl)) rfl
theorem q_6_193 : Cond.instanceMethod yX6_below ∈ gw := gw_of (in_t6 (List.mem_of_getElem? (i := 193) rfl)) rfl
theorem q_6_194 : Cond.selects RX6 yX6_below yX6_below ∈ gw := gw_of (in_t6 (List.mem_of_getElem? (i := 194) rfl)) rfl
theorem q_6_195 : Cond.code yX6_below cX6_below 7 ((Option.some Jvm.ClassFile.FieldType.int)) ∈ gw := gw_of (in_t6 (List.mem_of_getElem? (i := 195) rfl)) rfl
theorem q_6_196 : Cond.methodLink RL 139 yX6_fits ∈ gw := gw_of (in_t6 (List.mem_of_getElem? (i := 196) rfl)) rfl
theorem q_6_197 : Cond.instanceMethod yX6_fits ∈ gw := gw_of (in_t6 (List.mem_of_getElem? (i := 197) rfl)) rfl
theorem q_6_198 : Cond.selects RX6 yX6_fits yX6_fits ∈ gw := gw_of (in_t6 (List.mem_of_getElem? (i := 198) rfl)) rfl
theorem q_6_199 : Cond.code yX6_fits cX6_fits 12 ((Option.some Jvm.ClassFile.FieldType.int)) ∈ gw := gw_of (in_t6 (List.mem_of_getElem? (i := 199) rfl)) rfl
theorem q_6_20 : Cond.methodLink RL 85 yX6_back ∈ gw := gw_of (in_t6 (List.mem_of_getElem? (i := 20) rfl)) rfl
theorem q_6_200 : Cond.methodLink RL 147 yX6_next ∈ gw := gw_of (in_t6 (List.mem_of_getElem? (i := 200) rfl)) rfl
theorem q_6_201 : Cond.instanceMethod yX6_next ∈ gw := gw_of (in_t6 (List.mem_of_getElem? (i := 201) rfl)) rfl
theorem q_6_202 : Cond.selects RX6 yX6_next yX6_next ∈ gw := gw_of (in_t6 (List.mem_of_getElem? (i := 202) rfl)) rfl
theorem q_6_203 : Cond.code yX6_next cX6_next 11 ((Option.some Jvm.ClassFile.FieldType.int)) ∈ gw := gw_of (in_t6 (List.mem_of_getElem? (i := 203) rfl)) rfl
theorem q_6_208 : Cond.methodLink RL 151 yX6_suits ∈ gw := gw_of (in_t6 (List.mem_of_getElem? (i := 208) rfl)) rfl
theorem q_6_209 : Cond.instanceMethod yX6_suits ∈ gw := gw_of (in_t6 (List.mem_of_getElem? (i := 209) rfl)) rfl
theorem q_6_21 : Cond.instanceMethod yX6_back ∈ gw := gw_of (in_t6 (List.mem_of_getElem? (i := 21) rfl)) rfl
theorem q_6_210 : Cond.selects RX6 yX6_suits yX6_suits ∈ gw := gw_of (in_t6 (List.mem_of_getElem? (i := 210) rfl)) rfl
theorem q_6_211 : Cond.code yX6_suits cX6_suits 8 ((Option.some Jvm.ClassFile.FieldType.int)) ∈ gw := gw_of (in_t6 (List.mem_of_getElem? (i := 211) rfl)) rfl
theorem q_6_216 : Cond.methodLink RL 155 yX6_buckets ∈ gw := gw_of (in_t6 (List.mem_of_getElem? (i := 216) rfl)) rfl
theorem q_6_217 : Cond.instanceMethod yX6_buckets ∈ gw := gw_of (in_t6 (List.mem_of_getElem? (i := 217) rfl)) rfl
theorem q_6_218 : Cond.selects RX6 yX6_buckets yX6_buckets ∈ gw := gw_of (in_t6 (List.mem_of_getElem? (i := 218) rfl)) rfl
theorem q_6_219 : Cond.code yX6_buckets cX6_buckets 8 ((Option.some Jvm.ClassFile.FieldType.int)) ∈ gw := gw_of (in_t6 (List.mem_of_getElem? (i := 219) rfl)) rfl
theorem q_6_22 : Cond.selects RX6 yX6_back yX6_back ∈ gw := gw_of (in_t6 (List.mem_of_getElem? (i := 22) rfl)) rfl
theorem q_6_225 : Cond.methodLink RL 211 yX6_judge ∈ gw := gw_of (in_t6 (List.mem_of_getElem? (i := 225) rfl)) rfl
theorem q_6_226 : Cond.instanceMethod yX6_judge ∈ gw := gw_of (in_t6 (List.mem_of_getElem? (i := 226) rfl)) rfl
theorem q_6_227 : Cond.selects RX6 yX6_judge yX6_judge ∈ gw := gw_of (in_t6 (List.mem_of_getElem? (i := 227) rfl)) rfl
theorem q_6_228 : Cond.code yX6_judge cX6_judge 11 ((Option.some Jvm.ClassFile.FieldType.int)) ∈ gw := gw_of (in_t6 (List.mem_of_getElem? (i := 228) rfl)) rfl
theorem q_6_229 : Cond.methodLink RL 215 yX6_shout ∈ gw := gw_of (in_t6 (List.mem_of_getElem? (i := 229) rfl)) rfl
theorem q_6_23 : Cond.code yX6_back cX6_back 3 ((Option.some Jvm.ClassFile.FieldType.int)) ∈ gw := gw_of (in_t6 (List.mem_of_getElem? (i := 23) rfl)) rfl
theorem q_6_230 : Cond.instanceMethod yX6_shout ∈ gw := gw_of (in_t6 (List.mem_of_getElem? (i := 230) rfl)) rfl
theorem q_6_231 : Cond.selects RX6 yX6_shout yX6_shout ∈ gw := gw_of (in_t6 (List.mem_of_getElem? (i := 231) rfl)) rfl
theorem q_6_232 : Cond.code yX6_shout cX6_shout 5 ((Option.some Jvm.ClassFile.FieldType.int)) ∈ gw := gw_of (in_t6 (List.mem_of_getElem? (i := 232) rfl)) rfl
theorem q_6_237 : Cond.methodLink RL 219 yX6_days ∈ gw := gw_of (in_t6 (List.mem_of_getElem? (i := 237) rfl)) rfl
theorem q_6_238 : Cond.instanceMethod yX6_days ∈ gw := gw_of (in_t6 (List.mem_of_getElem? (i := 238) rfl)) rfl
theorem q_6_239 : Cond.selects RX6 yX6_days yX6_days ∈ gw := gw_of (in_t6 (List.mem_of_getElem? (i := 239) rfl)) rfl
theorem q_6_25 : Cond.methodLink RL 89 yX6_lost ∈ gw := gw_of (in_t6 (List.mem_of_getElem? (i := 25) rfl)) rfl
theorem q_6_26 : Cond.instanceMethod yX6_lost ∈ gw := gw_of (in_t6 (List.mem_of_getElem? (i := 26) rfl)) rfl
theorem q_6_27 : Cond.selects RX6 yX6_lost yX6_lost ∈ gw := gw_of (in_t6 (List.mem_of_getElem? (i := 27) rfl)) rfl
theorem q_6_28 : Cond.code yX6_lost cX6_lost 4 ((Option.some Jvm.ClassFile.FieldType.int)) ∈ gw := gw_of (in_t6 (List.mem_of_getElem? (i := 28) rfl)) rfl
theorem q_6_29 : Cond.methodLink RL 199 yX6_plain ∈ gw := gw_of (in_t6 (List.mem_of_getElem? (i := 29) rfl)) rfl
theorem q_6_30 : Cond.instanceMethod yX6_plain ∈ gw := gw_of (in_t6 (List.mem_of_getElem? (i := 30) rfl)) rfl
theorem q_6_31 : Cond.selects RX6 yX6_plain yX6_plain ∈ gw := gw_of (in_t6 (List.mem_of_getElem? (i := 31) rfl)) rfl
theorem q_6_32 : Cond.code yX6_plain cX6_plain 4 ((Option.some Jvm.ClassFile.FieldType.int)) ∈ gw := gw_of (in_t6 (List.mem_of_getElem? (i := 32) rfl)) rfl
theorem q_6_33 : Cond.methodLink RL 203 yX6_twins ∈ gw := gw_of (in_t6 (List.mem_of_getElem? (i := 33) rfl)) rfl
theorem q_6_34 : Cond.instanceMethod yX6_twins ∈ gw := gw_of (in_t6 (List.mem_of_getElem? (i := 34) rfl)) rfl
theorem q_6_35 : Cond.selects RX6 yX6_twins yX6_twins ∈ gw := gw_of (in_t6 (List.mem_of_getElem? (i := 35) rfl)) rfl
theorem q_6_36 : Cond.code yX6_twins cX6_twins 4 ((Option.some Jvm.ClassFile.FieldType.int)) ∈ gw := gw_of (in_t6 (List.mem_of_getElem? (i := 36) rfl)) rfl
theorem q_6_41 : Cond.methodLink RL 207 yX6_ofKind ∈ gw := gw_of (in_t6 (List.mem_of_getElem? (i := 41) rfl)) rfl
theorem q_6_42 : Cond.instanceMethod yX6_ofKind ∈ gw := gw_of (in_t6 (List.mem_of_getElem? (i := 42) rfl)) rfl
theorem q_6_43 : Cond.selects RX6 yX6_ofKind yX6_ofKind ∈ gw := gw_of (in_t6 (List.mem_of_getElem? (i := 43) rfl)) rfl
theorem q_6_44 : Cond.code yX6_ofKind cX6_ofKind 4 ((Option.some Jvm.ClassFile.FieldType.int)) ∈ gw := gw_of (in_t6 (List.mem_of_getElem? (i := 44) rfl)) rfl
theorem q_6_45 : Cond.methodLink RL 94 yX6_echo ∈ gw := gw_of (in_t6 (List.mem_of_getElem? (i := 45) rfl)) rfl
theorem q_6_46 : Cond.instanceMethod yX6_echo ∈ gw := gw_of (in_t6 (List.mem_of_getElem? (i := 46) rfl)) rfl
theorem q_6_47 : Cond.selects RX6 yX6_echo yX6_echo ∈ gw := gw_of (in_t6 (List.mem_of_getElem? (i := 47) rfl)) rfl
theorem q_6_48 : Cond.code yX6_echo cX6_echo 6 ((Option.some Jvm.ClassFile.FieldType.int)) ∈ gw := gw_of (in_t6 (List.mem_of_getElem? (i := 48) rfl)) rfl
theorem q_6_57 : Cond.methodLink RL 98 yX6_sum ∈ gw := gw_of (in_t6 (List.mem_of_getElem? (i := 57) rfl)) rfl
theorem q_6_58 : Cond.instanceMethod yX6_sum ∈ gw := gw_of (in_t6 (List.mem_of_getElem? (i := 58) rfl)) rfl
theorem q_6_59 : Cond.selects RX6 yX6_sum yX6_sum ∈ gw := gw_of (in_t6 (List.mem_of_getElem? (i := 59) rfl)) rfl
theorem q_6_60 : Cond.code yX6_sum cX6_sum 5 ((Option.some Jvm.ClassFile.FieldType.int)) ∈ gw := gw_of (in_t6 (List.mem_of_getElem? (i := 60) rfl)) rfl
theorem q_6_61 : Cond.methodLink RL 102 yX6_weighed ∈ gw := gw_of (in_t6 (List.mem_of_getElem? (i := 61) rfl)) rfl
theorem q_6_62 : Cond.instanceMethod yX6_weighed ∈ gw := gw_of (in_t6 (List.mem_of_getElem? (i := 62) rfl)) rfl
theorem q_6_63 : Cond.selects RX6 yX6_weighed yX6_weighed ∈ gw := gw_of (in_t6 (List.mem_of_getElem? (i := 63) rfl)) rfl
theorem q_6_64 : Cond.code yX6_weighed cX6_weighed 5 ((Option.some Jvm.ClassFile.FieldType.int)) ∈ gw := gw_of (in_t6 (List.mem_of_getElem? (i := 64) rfl)) rfl
theorem q_6_69 : Cond.methodLink RL 106 yX6_heard ∈ gw := gw_of (in_t6 (List.mem_of_getElem? (i := 69) rfl)) rfl
theorem q_6_70 : Cond.instanceMethod yX6_heard ∈ gw := gw_of (in_t6 (List.mem_of_getElem? (i := 70) rfl)) rfl
theorem q_6_71 : Cond.selects RX6 yX6_heard yX6_heard ∈ gw := gw_of (in_t6 (List.mem_of_getElem? (i := 71) rfl)) rfl
theorem q_6_72 : Cond.code yX6_heard cX6_heard 4 ((Option.some Jvm.ClassFile.FieldType.int)) ∈ gw := gw_of (in_t6 (List.mem_of_getElem? (i := 72) rfl)) rfl
theorem q_6_81 : Cond.methodLink RL 187 yX6_mute ∈ gw := gw_of (in_t6 (List.mem_of_getElem? (i := 81) rfl)) rfl
theorem q_6_82 : Cond.instanceMethod yX6_mute ∈ gw := gw_of (in_t6 (List.mem_of_getElem? (i := 82) rfl)) rfl
theorem q_6_83 : Cond.selects RX6 yX6_mute yX6_mute ∈ gw := gw_of (in_t6 (List.mem_of_getElem? (i := 83) rfl)) rfl
theorem q_6_84 : Cond.code yX6_mute cX6_mute 6 ((Option.some Jvm.ClassFile.FieldType.int)) ∈ gw := gw_of (in_t6 (List.mem_of_getElem? (i := 84) rfl)) rfl
theorem q_6_85 : Cond.methodLink RL 191 yX6_like ∈ gw := gw_of (in_t6 (List.mem_of_getElem? (i := 85) rfl)) rfl
theorem q_6_86 : Cond.instanceMethod yX6_like ∈ gw := gw_of (in_t6 (List.mem_of_getElem? (i := 86) rfl)) rfl
theorem q_6_87 : Cond.selects RX6 yX6_like yX6_like ∈ gw := gw_of (in_t6 (List.mem_of_getElem? (i := 87) rfl)) rfl
theorem q_6_88 : Cond.code yX6_like cX6_like 8 ((Option.some Jvm.ClassFile.FieldType.int)) ∈ gw := gw_of (in_t6 (List.mem_of_getElem? (i := 88) rfl)) rfl
theorem q_6_89 : Cond.methodLink RL 175 yX6_alike ∈ gw := gw_of (in_t6 (List.mem_of_getElem? (i := 89) rfl)) rfl
theorem q_6_90 : Cond.instanceMethod yX6_alike ∈ gw := gw_of (in_t6 (List.mem_of_getElem? (i := 90) rfl)) rfl
theorem q_6_91 : Cond.selects RX6 yX6_alike yX6_alike ∈ gw := gw_of (in_t6 (List.mem_of_getElem? (i := 91) rfl)) rfl
theorem q_6_92 : Cond.code yX6_alike cX6_alike 9 ((Option.some Jvm.ClassFile.FieldType.int)) ∈ gw := gw_of (in_t6 (List.mem_of_getElem? (i := 92) rfl)) rfl
theorem q_6_93 : Cond.methodLink RL 163 yX6_ahead ∈ gw := gw_of (in_t6 (List.mem_of_getElem? (i := 93) rfl)) rfl
theorem q_6_94 : Cond.instanceMethod yX6_ahead ∈ gw := gw_of (in_t6 (List.mem_of_getElem? (i := 94) rfl)) rfl
theorem q_6_95 : Cond.selects RX6 yX6_ahead yX6_ahead ∈ gw := gw_of (in_t6 (List.mem_of_getElem? (i := 95) rfl)) rfl
theorem q_6_96 : Cond.code yX6_ahead cX6_ahead 4 ((Option.some Jvm.ClassFile.FieldType.int)) ∈ gw := gw_of (in_t6 (List.mem_of_getElem? (i := 96) rfl)) rfl
theorem q_7_0 : Cond.code yX6_days cX6_days 3 ((Option.some Jvm.ClassFile.FieldType.int)) ∈ gw := gw_of (in_t7 (List.mem_of_getElem? (i := 0) rfl)) rfl
theorem q_7_1 : Cond.methodLink RL 223 yX6_drawn ∈ gw := gw_of (in_t7 (List.mem_of_getElem? (i := 1) rfl)) rfl
theorem q_7_10 : Cond.methodLink RL 227 yX6_seed ∈ gw := gw_of (in_t7 (List.mem_of_getElem? (i := 10) rfl)) rfl
theorem q_7_11 : Cond.instanceMethod yX6_seed ∈ gw := gw_of (in_t7 (List.mem_of_getElem? (i := 11) rfl)) rfl
theorem q_7_12 : Cond.selects RX6 yX6_seed yX6_seed ∈ gw := gw_of (in_t7 (List.mem_of_getElem? (i := 12) rfl)) rfl
theorem q_7_13 : Cond.code yX6_seed cX6_seed 3 ((Option.some Jvm.ClassFile.FieldType.int)) ∈ gw := gw_of (in_t7 (List.mem_of_getElem? (i := 13) rfl)) rfl
theorem q_7_14 : Cond.methodLink RL 231 yX6_image ∈ gw := gw_of (in_t7 (List.mem_of_getElem? (i := 14) rfl)) rfl
theorem q_7_15 : Cond.instanceMethod yX6_image ∈ gw := gw_of (in_t7 (List.mem_of_getElem? (i := 15) rfl)) rfl
theorem q_7_16 : Cond.selects RX6 yX6_image yX6_image ∈ gw := gw_of (in_t7 (List.mem_of_getElem? (i := 16) rfl)) rfl
theorem q_7_17 : Cond.code yX6_image cX6_image 1 ((Option.some Jvm.ClassFile.FieldType.int)) ∈ gw := gw_of (in_t7 (List.mem_of_getElem? (i := 17) rfl)) rfl
theorem q_7_18 : Cond.methodLink RL 235 yX6_again ∈ gw := gw_of (in_t7 (List.mem_of_getElem? (i := 18) rfl)) rfl
theorem q_7_19 : Cond.instanceMethod yX6_again ∈ gw := gw_of (in_t7 (List.mem_of_getElem? (i := 19) rfl)) rfl
theorem q_7_2 : Cond.instanceMethod yX6_drawn ∈ gw := gw_of (in_t7 (List.mem_of_getElem? (i := 2) rfl)) rfl
theorem q_7_20 : Cond.selects RX6 yX6_again yX6_again ∈ gw := gw_of (in_t7 (List.mem_of_getElem? (i := 20) rfl)) rfl
theorem q_7_21 : Cond.code yX6_again cX6_again 2 ((Option.some Jvm.ClassFile.FieldType.int)) ∈ gw := gw_of (in_t7 (List.mem_of_getElem? (i := 21) rfl)) rfl
theorem q_7_22 : Cond.methodLink RL 239 yX6_status ∈ gw := gw_of (in_t7 (List.mem_of_getElem? (i := 22) rfl)) rfl
theorem q_7_23 : Cond.instanceMethod yX6_status ∈ gw := gw_of (in_t7 (List.mem_of_getElem? (i := 23) rfl)) rfl
theorem q_7_24 : Cond.selects RX6 yX6_status yX6_status ∈ gw := gw_of (in_t7 (List.mem_of_getElem? (i := 24) rfl)) rfl
theorem q_7_25 : Cond.code yX6_status cX6_status 4 ((Option.some Jvm.ClassFile.FieldType.int)) ∈ gw := gw_of (in_t7 (List.mem_of_getElem? (i := 25) rfl)) rfl
theorem q_7_27 : Cond.constantLong RL 18 4294967295 ∈ gw := gw_of (in_t7 (List.mem_of_getElem? (i := 27) rfl)) rfl
theorem q_7_28 : Cond.fieldLink "java/lang/String" 9 "java/lang/String" "value" "[B" ∈ gw := gw_of (in_t7 (List.mem_of_getElem? (i := 28) rfl)) rfl
theorem q_7_29 : Cond.fieldLink "java/lang/String" 15 "java/lang/String" "coder" "B" ∈ gw := gw_of (in_t7 (List.mem_of_getElem? (i := 29) rfl)) rfl
theorem q_7_3 : Cond.selects RX6 yX6_drawn yX6_drawn ∈ gw := gw_of (in_t7 (List.mem_of_getElem? (i := 3) rfl)) rfl
theorem q_7_4 : Cond.code yX6_drawn cX6_drawn 7 ((Option.some Jvm.ClassFile.FieldType.int)) ∈ gw := gw_of (in_t7 (List.mem_of_getElem? (i := 4) rfl)) rfl
theorem q_p2_15 : Cond.selects RX2 yX2_readInto yX2_readInto ∈ gw := gw_of (in_p2 (List.mem_of_getElem? (i := 15) rfl)) rfl
theorem q_p3_2 : Cond.selects RX2 yX2_readStatement yX2_readStatement ∈ gw := gw_of (in_p3 (List.mem_of_getElem? (i := 2) rfl)) rfl
theorem q_p3_3 : Cond.selects RX2 yX2_isAtWord yX2_isAtWord ∈ gw := gw_of (in_p3 (List.mem_of_getElem? (i := 3) rfl)) rfl
theorem q_p3_4 : Cond.selects RX2 yX2_readVoice yX2_readVoice ∈ gw := gw_of (in_p3 (List.mem_of_getElem? (i := 4) rfl)) rfl
theorem q_p3_6 : Cond.selects RX2 yX2_readPitch yX2_readPitch ∈ gw := gw_of (in_p3 (List.mem_of_getElem? (i := 6) rfl)) rfl
theorem q_p3_7 : Cond.selects RX2 yX2_readWeight yX2_readWeight ∈ gw := gw_of (in_p3 (List.mem_of_getElem? (i := 7) rfl)) rfl
theorem q_p5_15 : Cond.selects RX6 yX6_takeFrom yX6_takeFrom ∈ gw := gw_of (in_p5 (List.mem_of_getElem? (i := 15) rfl)) rfl
theorem q_p6_0 : Cond.selects RX6 yX6_readAll yX6_readAll ∈ gw := gw_of (in_p6 (List.mem_of_getElem? (i := 0) rfl)) rfl
theorem q_p6_2 : Cond.selects RX6 yX6_statement yX6_statement ∈ gw := gw_of (in_p6 (List.mem_of_getElem? (i := 2) rfl)) rfl
theorem q_p6_3 : Cond.selects RX6 yX6_isWord yX6_isWord ∈ gw := gw_of (in_p6 (List.mem_of_getElem? (i := 3) rfl)) rfl
theorem q_p6_4 : Cond.selects RX6 yX6_tells yX6_tells ∈ gw := gw_of (in_p6 (List.mem_of_getElem? (i := 4) rfl)) rfl
