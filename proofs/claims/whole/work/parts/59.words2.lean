theorem q_1_10 : Cond.initialized "java/lang/String" ∈ gw := gw_of (in_t1 (List.mem_of_getElem? (i := 10) rfl)) rfl
theorem q_1_11 : Cond.initialized "java/lang/StringLatin1" ∈ gw := gw_of (in_t1 (List.mem_of_getElem? (i := 11) rfl)) rfl
theorem q_1_119 : Cond.fieldLinkNest RX5 204 "WellIsAskedFirst$Tape" "place" "I" "WellIsAskedFirst" ∈ nw := nw_of (in_t1 (List.mem_of_getElem? (i := 119) rfl)) rfl
theorem q_1_12 : Cond.initialized "jdk/internal/util/Preconditions" ∈ gw := gw_of (in_t1 (List.mem_of_getElem? (i := 12) rfl)) rfl
theorem q_1_33 : Cond.fieldLinkNest RX2 71 "WellIsAskedFirst$State" "depth" "I" "WellIsAskedFirst" ∈ nw := nw_of (in_t1 (List.mem_of_getElem? (i := 33) rfl)) rfl
theorem q_1_37 : Cond.fieldLinkNest RX2 77 "WellIsAskedFirst$State" "rain" "I" "WellIsAskedFirst" ∈ nw := nw_of (in_t1 (List.mem_of_getElem? (i := 37) rfl)) rfl
theorem q_1_41 : Cond.fieldLinkNest RX2 81 "WellIsAskedFirst$State" "day" "I" "WellIsAskedFirst" ∈ nw := nw_of (in_t1 (List.mem_of_getElem? (i := 41) rfl)) rfl
theorem q_2_216 : Cond.methodLinkNest RX5 200 yX2_readInto "WellIsAskedFirst" ∈ nw := nw_of (in_t2 (List.mem_of_getElem? (i := 216) rfl)) rfl
theorem q_2_218 : Cond.instanceMethod yX2_readInto ∈ gw := gw_of (in_t2 (List.mem_of_getElem? (i := 218) rfl)) rfl
theorem q_2_219 : Cond.code yX2_readInto cX2_readInto 3 ((Option.some Jvm.ClassFile.FieldType.int)) ∈ gw := gw_of (in_t2 (List.mem_of_getElem? (i := 219) rfl)) rfl
theorem q_2_231 : Cond.methodLink RX2 29 yX2_readStatement ∈ gw := gw_of (in_t2 (List.mem_of_getElem? (i := 231) rfl)) rfl
theorem q_2_233 : Cond.instanceMethod yX2_readStatement ∈ gw := gw_of (in_t2 (List.mem_of_getElem? (i := 233) rfl)) rfl
theorem q_2_234 : Cond.code yX2_readStatement cX2_readStatement 3 ((Option.some Jvm.ClassFile.FieldType.boolean)) ∈ gw := gw_of (in_t2 (List.mem_of_getElem? (i := 234) rfl)) rfl
theorem q_2_236 : Cond.methodLink RX2 48 yX2_isAtWord ∈ gw := gw_of (in_t2 (List.mem_of_getElem? (i := 236) rfl)) rfl
theorem q_2_238 : Cond.instanceMethod yX2_isAtWord ∈ gw := gw_of (in_t2 (List.mem_of_getElem? (i := 238) rfl)) rfl
theorem q_2_239 : Cond.code yX2_isAtWord cX2_isAtWord 3 ((Option.some Jvm.ClassFile.FieldType.boolean)) ∈ gw := gw_of (in_t2 (List.mem_of_getElem? (i := 239) rfl)) rfl
theorem q_3_0 : Cond.methodLink RX2 104 yJ0_length_8abf5 ∈ gw := gw_of (in_t3 (List.mem_of_getElem? (i := 0) rfl)) rfl
theorem q_3_1 : Cond.instanceMethod yJ0_length_8abf5 ∈ gw := gw_of (in_t3 (List.mem_of_getElem? (i := 1) rfl)) rfl
theorem q_3_10 : Cond.methodLink RX2 110 yJ0_charAt_5068e ∈ gw := gw_of (in_t3 (List.mem_of_getElem? (i := 10) rfl)) rfl
theorem q_3_11 : Cond.instanceMethod yJ0_charAt_5068e ∈ gw := gw_of (in_t3 (List.mem_of_getElem? (i := 11) rfl)) rfl
theorem q_3_12 : Cond.selects "java/lang/String" yJ0_charAt_5068e yJ0_charAt_5068e ∈ gw := gw_of (in_t3 (List.mem_of_getElem? (i := 12) rfl)) rfl
theorem q_3_13 : Cond.code yJ0_charAt_5068e cJ0_charAt_5068e 2 ((Option.some Jvm.ClassFile.FieldType.char)) ∈ gw := gw_of (in_t3 (List.mem_of_getElem? (i := 13) rfl)) rfl
theorem q_3_14 : Cond.methodLink "java/lang/String" 492 yJ0_isLatin1_aae02 ∈ gw := gw_of (in_t3 (List.mem_of_getElem? (i := 14) rfl)) rfl
theorem q_3_15 : Cond.instanceMethod yJ0_isLatin1_aae02 ∈ gw := gw_of (in_t3 (List.mem_of_getElem? (i := 15) rfl)) rfl
theorem q_3_16 : Cond.selects "java/lang/String" yJ0_isLatin1_aae02 yJ0_isLatin1_aae02 ∈ gw := gw_of (in_t3 (List.mem_of_getElem? (i := 16) rfl)) rfl
theorem q_3_17 : Cond.code yJ0_isLatin1_aae02 cJ0_isLatin1_aae02 1 ((Option.some Jvm.ClassFile.FieldType.boolean)) ∈ gw := gw_of (in_t3 (List.mem_of_getElem? (i := 17) rfl)) rfl
theorem q_3_18 : Cond.methodLink "java/lang/String" 495 yJ1_charAt_3b067 ∈ gw := gw_of (in_t3 (List.mem_of_getElem? (i := 18) rfl)) rfl
theorem q_3_19 : Cond.static yJ1_charAt_3b067 ∈ gw := gw_of (in_t3 (List.mem_of_getElem? (i := 19) rfl)) rfl
theorem q_3_2 : Cond.selects "java/lang/String" yJ0_length_8abf5 yJ0_length_8abf5 ∈ gw := gw_of (in_t3 (List.mem_of_getElem? (i := 2) rfl)) rfl
theorem q_3_20 : Cond.code yJ1_charAt_3b067 cJ1_charAt_3b067 2 ((Option.some Jvm.ClassFile.FieldType.char)) ∈ gw := gw_of (in_t3 (List.mem_of_getElem? (i := 20) rfl)) rfl
theorem q_3_21 : Cond.methodLink "java/lang/StringLatin1" 9 yJ0_checkIndex_df160 ∈ gw := gw_of (in_t3 (List.mem_of_getElem? (i := 21) rfl)) rfl
theorem q_3_22 : Cond.static yJ0_checkIndex_df160 ∈ gw := gw_of (in_t3 (List.mem_of_getElem? (i := 22) rfl)) rfl
theorem q_3_23 : Cond.code yJ0_checkIndex_df160 cJ0_checkIndex_df160 2 ((Option.none : Option Jvm.ClassFile.FieldType)) ∈ gw := gw_of (in_t3 (List.mem_of_getElem? (i := 23) rfl)) rfl
theorem q_3_24 : Cond.fieldLink "java/lang/String" 1053 "jdk/internal/util/Preconditions" "SIOOBE_FORMATTER" "Ljava/util/function/BiFunction;" ∈ gw := gw_of (in_t3 (List.mem_of_getElem? (i := 24) rfl)) rfl
theorem q_3_26 : Cond.methodLink "java/lang/String" 1059 yJ3_checkIndex_8e157 ∈ gw := gw_of (in_t3 (List.mem_of_getElem? (i := 26) rfl)) rfl
theorem q_3_27 : Cond.static yJ3_checkIndex_8e157 ∈ gw := gw_of (in_t3 (List.mem_of_getElem? (i := 27) rfl)) rfl
theorem q_3_28 : Cond.code yJ3_checkIndex_8e157 cJ3_checkIndex_8e157 3 ((Option.some Jvm.ClassFile.FieldType.int)) ∈ gw := gw_of (in_t3 (List.mem_of_getElem? (i := 28) rfl)) rfl
theorem q_3_3 : Cond.code yJ0_length_8abf5 cJ0_length_8abf5 1 ((Option.some Jvm.ClassFile.FieldType.int)) ∈ gw := gw_of (in_t3 (List.mem_of_getElem? (i := 3) rfl)) rfl
theorem q_3_4 : Cond.methodLink "java/lang/String" 335 yJ0_coder_7d493 ∈ gw := gw_of (in_t3 (List.mem_of_getElem? (i := 4) rfl)) rfl
theorem q_3_48 : Cond.methodLink RX2 52 yX2_readVoice ∈ gw := gw_of (in_t3 (List.mem_of_getElem? (i := 48) rfl)) rfl
theorem q_3_5 : Cond.instanceMethod yJ0_coder_7d493 ∈ gw := gw_of (in_t3 (List.mem_of_getElem? (i := 5) rfl)) rfl
theorem q_3_50 : Cond.instanceMethod yX2_readVoice ∈ gw := gw_of (in_t3 (List.mem_of_getElem? (i := 50) rfl)) rfl
theorem q_3_51 : Cond.code yX2_readVoice cX2_readVoice 5 ((Option.some Jvm.ClassFile.FieldType.boolean)) ∈ gw := gw_of (in_t3 (List.mem_of_getElem? (i := 51) rfl)) rfl
theorem q_3_59 : Cond.methodLink RX2 57 yX2_readPitch ∈ gw := gw_of (in_t3 (List.mem_of_getElem? (i := 59) rfl)) rfl
theorem q_3_6 : Cond.selects "java/lang/String" yJ0_coder_7d493 yJ0_coder_7d493 ∈ gw := gw_of (in_t3 (List.mem_of_getElem? (i := 6) rfl)) rfl
theorem q_3_61 : Cond.instanceMethod yX2_readPitch ∈ gw := gw_of (in_t3 (List.mem_of_getElem? (i := 61) rfl)) rfl
theorem q_3_62 : Cond.code yX2_readPitch cX2_readPitch 4 ((Option.some Jvm.ClassFile.FieldType.boolean)) ∈ gw := gw_of (in_t3 (List.mem_of_getElem? (i := 62) rfl)) rfl
theorem q_3_65 : Cond.methodLink RX2 62 yX2_readWeight ∈ gw := gw_of (in_t3 (List.mem_of_getElem? (i := 65) rfl)) rfl
theorem q_3_67 : Cond.instanceMethod yX2_readWeight ∈ gw := gw_of (in_t3 (List.mem_of_getElem? (i := 67) rfl)) rfl
theorem q_3_68 : Cond.code yX2_readWeight cX2_readWeight 4 ((Option.some Jvm.ClassFile.FieldType.boolean)) ∈ gw := gw_of (in_t3 (List.mem_of_getElem? (i := 68) rfl)) rfl
theorem q_3_7 : Cond.code yJ0_coder_7d493 cJ0_coder_7d493 1 ((Option.some Jvm.ClassFile.FieldType.byte)) ∈ gw := gw_of (in_t3 (List.mem_of_getElem? (i := 7) rfl)) rfl
theorem q_3_8 : Cond.fieldLink "java/lang/String" 38 "java/lang/String" "COMPACT_STRINGS" "Z" ∈ gw := gw_of (in_t3 (List.mem_of_getElem? (i := 8) rfl)) rfl
theorem q_4_218 : Cond.fieldLink RX6 209 "WellIsAskedFirstModel" "statements" "I" ∈ gw := gw_of (in_t4 (List.mem_of_getElem? (i := 218) rfl)) rfl
theorem q_5_227 : Cond.methodLink RX6 212 yX6_statement ∈ gw := gw_of (in_t5 (List.mem_of_getElem? (i := 227) rfl)) rfl
theorem q_5_229 : Cond.instanceMethod yX6_statement ∈ gw := gw_of (in_t5 (List.mem_of_getElem? (i := 229) rfl)) rfl
theorem q_5_230 : Cond.code yX6_statement cX6_statement 2 ((Option.some Jvm.ClassFile.FieldType.boolean)) ∈ gw := gw_of (in_t5 (List.mem_of_getElem? (i := 230) rfl)) rfl
theorem q_5_232 : Cond.methodLink RX6 196 yX6_isWord ∈ gw := gw_of (in_t5 (List.mem_of_getElem? (i := 232) rfl)) rfl
theorem q_5_234 : Cond.instanceMethod yX6_isWord ∈ gw := gw_of (in_t5 (List.mem_of_getElem? (i := 234) rfl)) rfl
theorem q_5_235 : Cond.code yX6_isWord cX6_isWord 3 ((Option.some Jvm.ClassFile.FieldType.boolean)) ∈ gw := gw_of (in_t5 (List.mem_of_getElem? (i := 235) rfl)) rfl
theorem q_5_236 : Cond.methodLink RX6 173 yJ0_length_8abf5 ∈ gw := gw_of (in_t5 (List.mem_of_getElem? (i := 236) rfl)) rfl
theorem q_5_237 : Cond.methodLink RX6 179 yJ0_charAt_5068e ∈ gw := gw_of (in_t5 (List.mem_of_getElem? (i := 237) rfl)) rfl
theorem q_5_238 : Cond.methodLink RX6 200 yX6_tells ∈ gw := gw_of (in_t5 (List.mem_of_getElem? (i := 238) rfl)) rfl
theorem q_6_0 : Cond.instanceMethod yX6_tells ∈ gw := gw_of (in_t6 (List.mem_of_getElem? (i := 0) rfl)) rfl
theorem q_6_1 : Cond.code yX6_tells cX6_tells 3 ((Option.some Jvm.ClassFile.FieldType.boolean)) ∈ gw := gw_of (in_t6 (List.mem_of_getElem? (i := 1) rfl)) rfl
theorem q_7_28 : Cond.fieldLink "java/lang/String" 9 "java/lang/String" "value" "[B" ∈ gw := gw_of (in_t7 (List.mem_of_getElem? (i := 28) rfl)) rfl
theorem q_7_29 : Cond.fieldLink "java/lang/String" 15 "java/lang/String" "coder" "B" ∈ gw := gw_of (in_t7 (List.mem_of_getElem? (i := 29) rfl)) rfl
theorem q_p2_15 : Cond.selects RX2 yX2_readInto yX2_readInto ∈ gw := gw_of (in_p2 (List.mem_of_getElem? (i := 15) rfl)) rfl
theorem q_p3_2 : Cond.selects RX2 yX2_readStatement yX2_readStatement ∈ gw := gw_of (in_p3 (List.mem_of_getElem? (i := 2) rfl)) rfl
theorem q_p3_3 : Cond.selects RX2 yX2_isAtWord yX2_isAtWord ∈ gw := gw_of (in_p3 (List.mem_of_getElem? (i := 3) rfl)) rfl
theorem q_p3_4 : Cond.selects RX2 yX2_readVoice yX2_readVoice ∈ gw := gw_of (in_p3 (List.mem_of_getElem? (i := 4) rfl)) rfl
theorem q_p3_6 : Cond.selects RX2 yX2_readPitch yX2_readPitch ∈ gw := gw_of (in_p3 (List.mem_of_getElem? (i := 6) rfl)) rfl
theorem q_p3_7 : Cond.selects RX2 yX2_readWeight yX2_readWeight ∈ gw := gw_of (in_p3 (List.mem_of_getElem? (i := 7) rfl)) rfl
theorem q_p6_2 : Cond.selects RX6 yX6_statement yX6_statement ∈ gw := gw_of (in_p6 (List.mem_of_getElem? (i := 2) rfl)) rfl
theorem q_p6_3 : Cond.selects RX6 yX6_isWord yX6_isWord ∈ gw := gw_of (in_p6 (List.mem_of_getElem? (i := 3) rfl)) rfl
theorem q_p6_4 : Cond.selects RX6 yX6_tells yX6_tells ∈ gw := gw_of (in_p6 (List.mem_of_getElem? (i := 4) rfl)) rfl
