theorem in_t1 {w : Cond} (h : w ∈ tables_1_1) : w ∈ lw_tbl := List.mem_append_right _ (show w ∈ tables_1 from List.mem_append_left _ h)
theorem in_p1 {q : MethodName × Nat} (h : q ∈ lw_privs_1) : Cond.selects q.1.cls q.1 q.1 ∈ lw_tbl := List.mem_append_left _ (List.mem_map.mpr ⟨q, (show q ∈ lw_privs from List.mem_append_left _ h), rfl⟩)
theorem in_t2 {w : Cond} (h : w ∈ tables_1_2) : w ∈ lw_tbl := List.mem_append_right _ (show w ∈ tables_1 from List.mem_append_right _ (List.mem_append_left _ h))
theorem in_p2 {q : MethodName × Nat} (h : q ∈ lw_privs_2) : Cond.selects q.1.cls q.1 q.1 ∈ lw_tbl := List.mem_append_left _ (List.mem_map.mpr ⟨q, (show q ∈ lw_privs from List.mem_append_right _ (List.mem_append_left _ h)), rfl⟩)
theorem in_t3 {w : Cond} (h : w ∈ tables_1_3) : w ∈ lw_tbl := List.mem_append_right _ (show w ∈ tables_1 from List.mem_append_right _ (List.mem_append_right _ (List.mem_append_left _ h)))
theorem in_p3 {q : MethodName × Nat} (h : q ∈ lw_privs_3) : Cond.selects q.1.cls q.1 q.1 ∈ lw_tbl := List.mem_append_left _ (List.mem_map.mpr ⟨q, (show q ∈ lw_privs from List.mem_append_right _ (List.mem_append_right _ (List.mem_append_left _ h))), rfl⟩)
theorem in_t4 {w : Cond} (h : w ∈ tables_1_4) : w ∈ lw_tbl := List.mem_append_right _ (show w ∈ tables_1 from List.mem_append_right _ (List.mem_append_right _ (List.mem_append_right _ (List.mem_append_left _ h))))
theorem in_p4 {q : MethodName × Nat} (h : q ∈ lw_privs_4) : Cond.selects q.1.cls q.1 q.1 ∈ lw_tbl := List.mem_append_left _ (List.mem_map.mpr ⟨q, (show q ∈ lw_privs from List.mem_append_right _ (List.mem_append_right _ (List.mem_append_right _ (List.mem_append_left _ h)))), rfl⟩)
theorem in_t5 {w : Cond} (h : w ∈ tables_1_5) : w ∈ lw_tbl := List.mem_append_right _ (show w ∈ tables_1 from List.mem_append_right _ (List.mem_append_right _ (List.mem_append_right _ (List.mem_append_right _ (List.mem_append_left _ h)))))
theorem in_p5 {q : MethodName × Nat} (h : q ∈ lw_privs_5) : Cond.selects q.1.cls q.1 q.1 ∈ lw_tbl := List.mem_append_left _ (List.mem_map.mpr ⟨q, (show q ∈ lw_privs from List.mem_append_right _ (List.mem_append_right _ (List.mem_append_right _ (List.mem_append_right _ (List.mem_append_left _ h))))), rfl⟩)
theorem in_t6 {w : Cond} (h : w ∈ tables_1_6) : w ∈ lw_tbl := List.mem_append_right _ (show w ∈ tables_1 from List.mem_append_right _ (List.mem_append_right _ (List.mem_append_right _ (List.mem_append_right _ (List.mem_append_right _ (List.mem_append_left _ h))))))
theorem in_p6 {q : MethodName × Nat} (h : q ∈ lw_privs_6) : Cond.selects q.1.cls q.1 q.1 ∈ lw_tbl := List.mem_append_left _ (List.mem_map.mpr ⟨q, (show q ∈ lw_privs from List.mem_append_right _ (List.mem_append_right _ (List.mem_append_right _ (List.mem_append_right _ (List.mem_append_right _ (List.mem_append_left _ h)))))), rfl⟩)
theorem in_t7 {w : Cond} (h : w ∈ tables_1_7) : w ∈ lw_tbl := List.mem_append_right _ (show w ∈ tables_1 from List.mem_append_right _ (List.mem_append_right _ (List.mem_append_right _ (List.mem_append_right _ (List.mem_append_right _ (List.mem_append_right _ (h)))))))
theorem in_p7 {q : MethodName × Nat} (h : q ∈ lw_privs_7) : Cond.selects q.1.cls q.1 q.1 ∈ lw_tbl := List.mem_append_left _ (List.mem_map.mpr ⟨q, (show q ∈ lw_privs from List.mem_append_right _ (List.mem_append_right _ (List.mem_append_right _ (List.mem_append_right _ (List.mem_append_right _ (List.mem_append_right _ (h))))))), rfl⟩)
theorem q_1_1 : Cond.initialized RX5 ∈ gw := gw_of (in_t1 (List.mem_of_getElem? (i := 1) rfl)) rfl
theorem q_1_100 : Cond.fieldLink RX0 18 "WellIsAskedFirst$Shelves" "elements" "[J" ∈ gw := gw_of (in_t1 (List.mem_of_getElem? (i := 100) rfl)) rfl
theorem q_1_108 : Cond.arrayClass .long ∈ gw := gw_of (in_t1 (List.mem_of_getElem? (i := 108) rfl)) rfl
theorem q_1_109 : Cond.classLink RX5 29 RX2 ∈ gw := gw_of (in_t1 (List.mem_of_getElem? (i := 109) rfl)) rfl
theorem q_1_110 : Cond.instantiable RX2 5 ∈ gw := gw_of (in_t1 (List.mem_of_getElem? (i := 110) rfl)) rfl
theorem q_1_111 : Cond.methodLinkNest RX5 31 yX2_init "WellIsAskedFirst" ∈ nw := nw_of (in_t1 (List.mem_of_getElem? (i := 111) rfl)) rfl
theorem q_1_112 : Cond.instanceMethod yX2_init ∈ gw := gw_of (in_t1 (List.mem_of_getElem? (i := 112) rfl)) rfl
theorem q_1_113 : Cond.code yX2_init cX2_init 1 ((Option.none : Option Jvm.ClassFile.FieldType)) ∈ gw := gw_of (in_t1 (List.mem_of_getElem? (i := 113) rfl)) rfl
theorem q_1_114 : Cond.methodLink RX2 3 objectInit ∈ gw := gw_of (in_t1 (List.mem_of_getElem? (i := 114) rfl)) rfl
theorem q_1_115 : Cond.fieldLink RX2 9 "WellIsAskedFirst$Tape" "bytes" "[I" ∈ gw := gw_of (in_t1 (List.mem_of_getElem? (i := 115) rfl)) rfl
theorem q_1_116 : Cond.fieldLink RX2 15 "WellIsAskedFirst$Tape" "size" "I" ∈ gw := gw_of (in_t1 (List.mem_of_getElem? (i := 116) rfl)) rfl
theorem q_1_117 : Cond.fieldLinkNest RX5 193 "WellIsAskedFirst$Tape" "size" "I" "WellIsAskedFirst" ∈ nw := nw_of (in_t1 (List.mem_of_getElem? (i := 117) rfl)) rfl
theorem q_1_118 : Cond.fieldLink RX2 36 "WellIsAskedFirst$Tape" "place" "I" ∈ gw := gw_of (in_t1 (List.mem_of_getElem? (i := 118) rfl)) rfl
theorem q_1_120 : Cond.fieldLink RX2 23 "WellIsAskedFirst$Tape" "behind" "I" ∈ gw := gw_of (in_t1 (List.mem_of_getElem? (i := 120) rfl)) rfl
theorem q_1_121 : Cond.fieldLink RX2 33 "WellIsAskedFirst$Tape" "token" "I" ∈ gw := gw_of (in_t1 (List.mem_of_getElem? (i := 121) rfl)) rfl
theorem q_1_133 : Cond.classLink RX5 40 RX3 ∈ gw := gw_of (in_t1 (List.mem_of_getElem? (i := 133) rfl)) rfl
theorem q_1_134 : Cond.instantiable RX3 9 ∈ gw := gw_of (in_t1 (List.mem_of_getElem? (i := 134) rfl)) rfl
theorem q_1_135 : Cond.methodLinkNest RX5 42 yX3_init "WellIsAskedFirst" ∈ nw := nw_of (in_t1 (List.mem_of_getElem? (i := 135) rfl)) rfl
theorem q_1_136 : Cond.instanceMethod yX3_init ∈ gw := gw_of (in_t1 (List.mem_of_getElem? (i := 136) rfl)) rfl
theorem q_1_137 : Cond.code yX3_init cX3_init 1 ((Option.none : Option Jvm.ClassFile.FieldType)) ∈ gw := gw_of (in_t1 (List.mem_of_getElem? (i := 137) rfl)) rfl
theorem q_1_138 : Cond.methodLink RX3 3 objectInit ∈ gw := gw_of (in_t1 (List.mem_of_getElem? (i := 138) rfl)) rfl
theorem q_1_139 : Cond.fieldLink RX3 21 "WellIsAskedFirst$Trial" "kind" "I" ∈ gw := gw_of (in_t1 (List.mem_of_getElem? (i := 139) rfl)) rfl
theorem q_1_14 : Cond.initialized "java/lang/Math" ∈ gw := gw_of (in_t1 (List.mem_of_getElem? (i := 14) rfl)) rfl
theorem q_1_140 : Cond.fieldLinkNest RX5 376 "WellIsAskedFirst$Trial" "kind" "I" "WellIsAskedFirst" ∈ nw := nw_of (in_t1 (List.mem_of_getElem? (i := 140) rfl)) rfl
theorem q_1_141 : Cond.fieldLink RX3 28 "WellIsAskedFirst$Trial" "pitch" "I" ∈ gw := gw_of (in_t1 (List.mem_of_getElem? (i := 141) rfl)) rfl
theorem q_1_142 : Cond.fieldLinkNest RX5 251 "WellIsAskedFirst$Trial" "pitch" "I" "WellIsAskedFirst" ∈ nw := nw_of (in_t1 (List.mem_of_getElem? (i := 142) rfl)) rfl
theorem q_1_143 : Cond.fieldLink RX3 34 "WellIsAskedFirst$Trial" "depth" "I" ∈ gw := gw_of (in_t1 (List.mem_of_getElem? (i := 143) rfl)) rfl
theorem q_1_144 : Cond.fieldLinkNest RX5 371 "WellIsAskedFirst$Trial" "depth" "I" "WellIsAskedFirst" ∈ nw := nw_of (in_t1 (List.mem_of_getElem? (i := 144) rfl)) rfl
theorem q_1_145 : Cond.fieldLink RX3 38 "WellIsAskedFirst$Trial" "rain" "I" ∈ gw := gw_of (in_t1 (List.mem_of_getElem? (i := 145) rfl)) rfl
theorem q_1_146 : Cond.fieldLinkNest RX5 258 "WellIsAskedFirst$Trial" "rain" "I" "WellIsAskedFirst" ∈ nw := nw_of (in_t1 (List.mem_of_getElem? (i := 146) rfl)) rfl
theorem q_1_147 : Cond.fieldLink RX3 42 "WellIsAskedFirst$Trial" "day" "I" ∈ gw := gw_of (in_t1 (List.mem_of_getElem? (i := 147) rfl)) rfl
theorem q_1_148 : Cond.fieldLink RX3 46 "WellIsAskedFirst$Trial" "weight" "I" ∈ gw := gw_of (in_t1 (List.mem_of_getElem? (i := 148) rfl)) rfl
theorem q_1_149 : Cond.fieldLinkNest RX5 372 "WellIsAskedFirst$Trial" "weight" "I" "WellIsAskedFirst" ∈ nw := nw_of (in_t1 (List.mem_of_getElem? (i := 149) rfl)) rfl
theorem q_1_15 : Cond.initialized "java/lang/Long" ∈ gw := gw_of (in_t1 (List.mem_of_getElem? (i := 15) rfl)) rfl
theorem q_1_150 : Cond.fieldLink RX3 50 "WellIsAskedFirst$Trial" "rest" "I" ∈ gw := gw_of (in_t1 (List.mem_of_getElem? (i := 150) rfl)) rfl
theorem q_1_151 : Cond.fieldLink RX3 9 "WellIsAskedFirst$Trial" "heard" "[I" ∈ gw := gw_of (in_t1 (List.mem_of_getElem? (i := 151) rfl)) rfl
theorem q_1_152 : Cond.fieldLink RX3 51 "WellIsAskedFirst$Trial" "count" "I" ∈ gw := gw_of (in_t1 (List.mem_of_getElem? (i := 152) rfl)) rfl
theorem q_1_153 : Cond.fieldLinkNest RX5 230 "WellIsAskedFirst$Trial" "count" "I" "WellIsAskedFirst" ∈ nw := nw_of (in_t1 (List.mem_of_getElem? (i := 153) rfl)) rfl
theorem q_1_16 : Cond.initialized "java/lang/Integer" ∈ gw := gw_of (in_t1 (List.mem_of_getElem? (i := 16) rfl)) rfl
theorem q_1_173 : Cond.classLink RX5 50 RX4 ∈ gw := gw_of (in_t1 (List.mem_of_getElem? (i := 173) rfl)) rfl
theorem q_1_174 : Cond.instantiable RX4 2 ∈ gw := gw_of (in_t1 (List.mem_of_getElem? (i := 174) rfl)) rfl
theorem q_1_175 : Cond.methodLinkNest RX5 52 yX4_init "WellIsAskedFirst" ∈ nw := nw_of (in_t1 (List.mem_of_getElem? (i := 175) rfl)) rfl
theorem q_1_176 : Cond.instanceMethod yX4_init ∈ gw := gw_of (in_t1 (List.mem_of_getElem? (i := 176) rfl)) rfl
theorem q_1_177 : Cond.code yX4_init cX4_init 1 ((Option.none : Option Jvm.ClassFile.FieldType)) ∈ gw := gw_of (in_t1 (List.mem_of_getElem? (i := 177) rfl)) rfl
theorem q_1_178 : Cond.methodLink RX4 3 objectInit ∈ gw := gw_of (in_t1 (List.mem_of_getElem? (i := 178) rfl)) rfl
theorem q_1_179 : Cond.fieldLink RX4 9 "WellIsAskedFirst$Word" "sounds" "[I" ∈ gw := gw_of (in_t1 (List.mem_of_getElem? (i := 179) rfl)) rfl
theorem q_1_180 : Cond.fieldLink RX4 15 "WellIsAskedFirst$Word" "size" "I" ∈ gw := gw_of (in_t1 (List.mem_of_getElem? (i := 180) rfl)) rfl
theorem q_1_181 : Cond.fieldLinkNest RX3 72 "WellIsAskedFirst$Word" "size" "I" "WellIsAskedFirst" ∈ nw := nw_of (in_t1 (List.mem_of_getElem? (i := 181) rfl)) rfl
theorem q_1_182 : Cond.fieldLinkNest RX5 222 "WellIsAskedFirst$Word" "size" "I" "WellIsAskedFirst" ∈ nw := nw_of (in_t1 (List.mem_of_getElem? (i := 182) rfl)) rfl
theorem q_1_188 : Cond.fieldLink RX5 12 "WellIsAskedFirst" "now" "LWellIsAskedFirst$State;" ∈ gw := gw_of (in_t1 (List.mem_of_getElem? (i := 188) rfl)) rfl
theorem q_1_189 : Cond.fieldLink RX5 16 "WellIsAskedFirst" "kept" "LWellIsAskedFirst$State;" ∈ gw := gw_of (in_t1 (List.mem_of_getElem? (i := 189) rfl)) rfl
theorem q_1_190 : Cond.fieldLink RX5 19 "WellIsAskedFirst" "written" "LWellIsAskedFirst$State;" ∈ gw := gw_of (in_t1 (List.mem_of_getElem? (i := 190) rfl)) rfl
theorem q_1_191 : Cond.fieldLink RX5 353 "WellIsAskedFirst" "hasKept" "Z" ∈ gw := gw_of (in_t1 (List.mem_of_getElem? (i := 191) rfl)) rfl
theorem q_1_192 : Cond.fieldLink RX5 25 "WellIsAskedFirst" "shelves" "LWellIsAskedFirst$Shelves;" ∈ gw := gw_of (in_t1 (List.mem_of_getElem? (i := 192) rfl)) rfl
theorem q_1_193 : Cond.fieldLink RX5 32 "WellIsAskedFirst" "tape" "LWellIsAskedFirst$Tape;" ∈ gw := gw_of (in_t1 (List.mem_of_getElem? (i := 193) rfl)) rfl
theorem q_1_194 : Cond.fieldLink RX5 36 "WellIsAskedFirst" "refusals" "[I" ∈ gw := gw_of (in_t1 (List.mem_of_getElem? (i := 194) rfl)) rfl
theorem q_1_195 : Cond.fieldLink RX5 43 "WellIsAskedFirst" "trial" "LWellIsAskedFirst$Trial;" ∈ gw := gw_of (in_t1 (List.mem_of_getElem? (i := 195) rfl)) rfl
theorem q_1_196 : Cond.fieldLink RX5 47 "WellIsAskedFirst" "otherTrial" "LWellIsAskedFirst$Trial;" ∈ gw := gw_of (in_t1 (List.mem_of_getElem? (i := 196) rfl)) rfl
theorem q_1_197 : Cond.fieldLink RX5 53 "WellIsAskedFirst" "told" "LWellIsAskedFirst$Word;" ∈ gw := gw_of (in_t1 (List.mem_of_getElem? (i := 197) rfl)) rfl
theorem q_1_198 : Cond.fieldLink RX5 57 "WellIsAskedFirst" "tried" "LWellIsAskedFirst$Word;" ∈ gw := gw_of (in_t1 (List.mem_of_getElem? (i := 198) rfl)) rfl
theorem q_1_199 : Cond.fieldLink RX5 60 "WellIsAskedFirst" "yesesAt" "[I" ∈ gw := gw_of (in_t1 (List.mem_of_getElem? (i := 199) rfl)) rfl
theorem q_1_2 : Cond.initialized RX1 ∈ gw := gw_of (in_t1 (List.mem_of_getElem? (i := 2) rfl)) rfl
theorem q_1_200 : Cond.fieldLink RX5 63 "WellIsAskedFirst" "mostFrom" "[I" ∈ gw := gw_of (in_t1 (List.mem_of_getElem? (i := 200) rfl)) rfl
theorem q_1_201 : Cond.fieldLink RX5 66 "WellIsAskedFirst" "nextFrom" "[I" ∈ gw := gw_of (in_t1 (List.mem_of_getElem? (i := 201) rfl)) rfl
theorem q_1_202 : Cond.fieldLink RX5 69 "WellIsAskedFirst" "ways" "[I" ∈ gw := gw_of (in_t1 (List.mem_of_getElem? (i := 202) rfl)) rfl
theorem q_1_203 : Cond.fieldLink RX5 72 "WellIsAskedFirst" "waysThen" "[I" ∈ gw := gw_of (in_t1 (List.mem_of_getElem? (i := 203) rfl)) rfl
theorem q_1_204 : Cond.fieldLink RX5 75 "WellIsAskedFirst" "parts" "[I" ∈ gw := gw_of (in_t1 (List.mem_of_getElem? (i := 204) rfl)) rfl
theorem q_1_22 : Cond.methodLink RX5 3 objectInit ∈ gw := gw_of (in_t1 (List.mem_of_getElem? (i := 22) rfl)) rfl
theorem q_1_23 : Cond.instanceMethod objectInit ∈ gw := gw_of (in_t1 (List.mem_of_getElem? (i := 23) rfl)) rfl
theorem q_1_24 : Cond.code objectInit ⟨#[0xb1]⟩ 1 none ∈ gw := gw_of (in_t1 (List.mem_of_getElem? (i := 24) rfl)) rfl
theorem q_1_25 : Cond.classLink RX5 9 RX1 ∈ gw := gw_of (in_t1 (List.mem_of_getElem? (i := 25) rfl)) rfl
theorem q_1_26 : Cond.instantiable RX1 12 ∈ gw := gw_of (in_t1 (List.mem_of_getElem? (i := 26) rfl)) rfl
theorem q_1_27 : Cond.methodLinkNest RX5 11 yX1_init "WellIsAskedFirst" ∈ nw := nw_of (in_t1 (List.mem_of_getElem? (i := 27) rfl)) rfl
theorem q_1_28 : Cond.instanceMethod yX1_init ∈ gw := gw_of (in_t1 (List.mem_of_getElem? (i := 28) rfl)) rfl
theorem q_1_29 : Cond.code yX1_init cX1_init 1 ((Option.none : Option Jvm.ClassFile.FieldType)) ∈ gw := gw_of (in_t1 (List.mem_of_getElem? (i := 29) rfl)) rfl
theorem q_1_3 : Cond.initialized RX0 ∈ gw := gw_of (in_t1 (List.mem_of_getElem? (i := 3) rfl)) rfl
theorem q_1_30 : Cond.methodLink RX1 3 objectInit ∈ gw := gw_of (in_t1 (List.mem_of_getElem? (i := 30) rfl)) rfl
theorem q_1_31 : Cond.fieldLink RX1 9 "WellIsAskedFirst$State" "depth" "I" ∈ gw := gw_of (in_t1 (List.mem_of_getElem? (i := 31) rfl)) rfl
theorem q_1_32 : Cond.fieldLinkNest RX3 31 "WellIsAskedFirst$State" "depth" "I" "WellIsAskedFirst" ∈ nw := nw_of (in_t1 (List.mem_of_getElem? (i := 32) rfl)) rfl
theorem q_1_34 : Cond.fieldLinkNest RX5 174 "WellIsAskedFirst$State" "depth" "I" "WellIsAskedFirst" ∈ nw := nw_of (in_t1 (List.mem_of_getElem? (i := 34) rfl)) rfl
theorem q_1_35 : Cond.fieldLink RX1 15 "WellIsAskedFirst$State" "rain" "I" ∈ gw := gw_of (in_t1 (List.mem_of_getElem? (i := 35) rfl)) rfl
theorem q_1_36 : Cond.fieldLinkNest RX3 35 "WellIsAskedFirst$State" "rain" "I" "WellIsAskedFirst" ∈ nw := nw_of (in_t1 (List.mem_of_getElem? (i := 36) rfl)) rfl
theorem q_1_38 : Cond.fieldLinkNest RX5 177 "WellIsAskedFirst$State" "rain" "I" "WellIsAskedFirst" ∈ nw := nw_of (in_t1 (List.mem_of_getElem? (i := 38) rfl)) rfl
theorem q_1_39 : Cond.fieldLink RX1 34 "WellIsAskedFirst$State" "day" "I" ∈ gw := gw_of (in_t1 (List.mem_of_getElem? (i := 39) rfl)) rfl
theorem q_1_4 : Cond.initialized "java/util/Arrays" ∈ gw := gw_of (in_t1 (List.mem_of_getElem? (i := 4) rfl)) rfl
theorem q_1_40 : Cond.fieldLinkNest RX3 39 "WellIsAskedFirst$State" "day" "I" "WellIsAskedFirst" ∈ nw := nw_of (in_t1 (List.mem_of_getElem? (i := 40) rfl)) rfl
theorem q_1_42 : Cond.fieldLinkNest RX5 180 "WellIsAskedFirst$State" "day" "I" "WellIsAskedFirst" ∈ nw := nw_of (in_t1 (List.mem_of_getElem? (i := 42) rfl)) rfl
theorem q_1_43 : Cond.fieldLink RX1 18 "WellIsAskedFirst$State" "weight" "I" ∈ gw := gw_of (in_t1 (List.mem_of_getElem? (i := 43) rfl)) rfl
theorem q_1_44 : Cond.fieldLinkNest RX3 43 "WellIsAskedFirst$State" "weight" "I" "WellIsAskedFirst" ∈ nw := nw_of (in_t1 (List.mem_of_getElem? (i := 44) rfl)) rfl
theorem q_1_45 : Cond.fieldLinkNest RX2 98 "WellIsAskedFirst$State" "weight" "I" "WellIsAskedFirst" ∈ nw := nw_of (in_t1 (List.mem_of_getElem? (i := 45) rfl)) rfl
theorem q_1_46 : Cond.fieldLinkNest RX5 183 "WellIsAskedFirst$State" "weight" "I" "WellIsAskedFirst" ∈ nw := nw_of (in_t1 (List.mem_of_getElem? (i := 46) rfl)) rfl
theorem q_1_47 : Cond.fieldLink RX1 37 "WellIsAskedFirst$State" "rest" "I" ∈ gw := gw_of (in_t1 (List.mem_of_getElem? (i := 47) rfl)) rfl
theorem q_1_48 : Cond.fieldLinkNest RX3 47 "WellIsAskedFirst$State" "rest" "I" "WellIsAskedFirst" ∈ nw := nw_of (in_t1 (List.mem_of_getElem? (i := 48) rfl)) rfl
theorem q_1_49 : Cond.fieldLinkNest RX2 101 "WellIsAskedFirst$State" "rest" "I" "WellIsAskedFirst" ∈ nw := nw_of (in_t1 (List.mem_of_getElem? (i := 49) rfl)) rfl
theorem q_1_5 : Cond.initialized RX2 ∈ gw := gw_of (in_t1 (List.mem_of_getElem? (i := 5) rfl)) rfl
theorem q_1_50 : Cond.fieldLinkNest RX5 186 "WellIsAskedFirst$State" "rest" "I" "WellIsAskedFirst" ∈ nw := nw_of (in_t1 (List.mem_of_getElem? (i := 50) rfl)) rfl
theorem q_1_51 : Cond.fieldLink RX1 40 "WellIsAskedFirst$State" "done" "I" ∈ gw := gw_of (in_t1 (List.mem_of_getElem? (i := 51) rfl)) rfl
theorem q_1_52 : Cond.fieldLinkNest RX5 360 "WellIsAskedFirst$State" "done" "I" "WellIsAskedFirst" ∈ nw := nw_of (in_t1 (List.mem_of_getElem? (i := 52) rfl)) rfl
theorem q_1_53 : Cond.fieldLink RX1 43 "WellIsAskedFirst$State" "refused" "I" ∈ gw := gw_of (in_t1 (List.mem_of_getElem? (i := 53) rfl)) rfl
theorem q_1_54 : Cond.fieldLinkNest RX5 363 "WellIsAskedFirst$State" "refused" "I" "WellIsAskedFirst" ∈ nw := nw_of (in_t1 (List.mem_of_getElem? (i := 54) rfl)) rfl
theorem q_1_55 : Cond.fieldLink RX1 21 "WellIsAskedFirst$State" "seed" "I" ∈ gw := gw_of (in_t1 (List.mem_of_getElem? (i := 55) rfl)) rfl
theorem q_1_56 : Cond.fieldLinkNest RX5 350 "WellIsAskedFirst$State" "seed" "I" "WellIsAskedFirst" ∈ nw := nw_of (in_t1 (List.mem_of_getElem? (i := 56) rfl)) rfl
theorem q_1_57 : Cond.fieldLink RX1 46 "WellIsAskedFirst$State" "voices" "I" ∈ gw := gw_of (in_t1 (List.mem_of_getElem? (i := 57) rfl)) rfl
theorem q_1_58 : Cond.fieldLinkNest RX5 167 "WellIsAskedFirst$State" "voices" "I" "WellIsAskedFirst" ∈ nw := nw_of (in_t1 (List.mem_of_getElem? (i := 58) rfl)) rfl
theorem q_1_59 : Cond.fieldLinkNest RX2 91 "WellIsAskedFirst$State" "voices" "I" "WellIsAskedFirst" ∈ nw := nw_of (in_t1 (List.mem_of_getElem? (i := 59) rfl)) rfl
theorem q_1_6 : Cond.initialized RX3 ∈ gw := gw_of (in_t1 (List.mem_of_getElem? (i := 6) rfl)) rfl
theorem q_1_60 : Cond.fieldLink RX1 24 "WellIsAskedFirst$State" "kinds" "[I" ∈ gw := gw_of (in_t1 (List.mem_of_getElem? (i := 60) rfl)) rfl
theorem q_1_61 : Cond.fieldLink RX1 28 "WellIsAskedFirst$State" "as" "[I" ∈ gw := gw_of (in_t1 (List.mem_of_getElem? (i := 61) rfl)) rfl
theorem q_1_62 : Cond.fieldLink RX1 31 "WellIsAskedFirst$State" "pitches" "[I" ∈ gw := gw_of (in_t1 (List.mem_of_getElem? (i := 62) rfl)) rfl
theorem q_1_7 : Cond.initialized RX4 ∈ gw := gw_of (in_t1 (List.mem_of_getElem? (i := 7) rfl)) rfl
theorem q_1_8 : Cond.initialized RX6 ∈ gw := gw_of (in_t1 (List.mem_of_getElem? (i := 8) rfl)) rfl
theorem q_1_88 : Cond.arrayClass .int ∈ gw := gw_of (in_t1 (List.mem_of_getElem? (i := 88) rfl)) rfl
theorem q_1_89 : Cond.classLink RX5 22 RX0 ∈ gw := gw_of (in_t1 (List.mem_of_getElem? (i := 89) rfl)) rfl
theorem q_1_9 : Cond.initialized "java/lang/System" ∈ gw := gw_of (in_t1 (List.mem_of_getElem? (i := 9) rfl)) rfl
theorem q_1_90 : Cond.instantiable RX0 3 ∈ gw := gw_of (in_t1 (List.mem_of_getElem? (i := 90) rfl)) rfl
theorem q_1_91 : Cond.methodLinkNest RX5 24 yX0_init "WellIsAskedFirst" ∈ nw := nw_of (in_t1 (List.mem_of_getElem? (i := 91) rfl)) rfl
theorem q_1_92 : Cond.instanceMethod yX0_init ∈ gw := gw_of (in_t1 (List.mem_of_getElem? (i := 92) rfl)) rfl
theorem q_1_93 : Cond.code yX0_init cX0_init 1 ((Option.none : Option Jvm.ClassFile.FieldType)) ∈ gw := gw_of (in_t1 (List.mem_of_getElem? (i := 93) rfl)) rfl
theorem q_1_94 : Cond.methodLink RX0 3 objectInit ∈ gw := gw_of (in_t1 (List.mem_of_getElem? (i := 94) rfl)) rfl
theorem q_1_95 : Cond.methodLink RX0 22 yJ7_fill_53178 ∈ gw := gw_of (in_t1 (List.mem_of_getElem? (i := 95) rfl)) rfl
theorem q_1_96 : Cond.static yJ7_fill_53178 ∈ gw := gw_of (in_t1 (List.mem_of_getElem? (i := 96) rfl)) rfl
theorem q_1_97 : Cond.code yJ7_fill_53178 cJ7_fill_53178 4 ((Option.none : Option Jvm.ClassFile.FieldType)) ∈ gw := gw_of (in_t1 (List.mem_of_getElem? (i := 97) rfl)) rfl
theorem q_1_98 : Cond.fieldLink RX0 9 "WellIsAskedFirst$Shelves" "holding" "[I" ∈ gw := gw_of (in_t1 (List.mem_of_getElem? (i := 98) rfl)) rfl
theorem q_1_99 : Cond.fieldLink RX0 15 "WellIsAskedFirst$Shelves" "sizes" "[I" ∈ gw := gw_of (in_t1 (List.mem_of_getElem? (i := 99) rfl)) rfl
theorem q_2_10 : Cond.methodLink RX5 86 yX5_refuse ∈ gw := gw_of (in_t2 (List.mem_of_getElem? (i := 10) rfl)) rfl
theorem q_2_100 : Cond.static yX5_isKind ∈ gw := gw_of (in_t2 (List.mem_of_getElem? (i := 100) rfl)) rfl
theorem q_2_101 : Cond.code yX5_isKind cX5_isKind 1 ((Option.some Jvm.ClassFile.FieldType.boolean)) ∈ gw := gw_of (in_t2 (List.mem_of_getElem? (i := 101) rfl)) rfl
theorem q_2_102 : Cond.methodLinkNest RX5 132 yX1_kindOf "WellIsAskedFirst" ∈ nw := nw_of (in_t2 (List.mem_of_getElem? (i := 102) rfl)) rfl
theorem q_2_104 : Cond.instanceMethod yX1_kindOf ∈ gw := gw_of (in_t2 (List.mem_of_getElem? (i := 104) rfl)) rfl
theorem q_2_105 : Cond.code yX1_kindOf cX1_kindOf 2 ((Option.some Jvm.ClassFile.FieldType.int)) ∈ gw := gw_of (in_t2 (List.mem_of_getElem? (i := 105) rfl)) rfl
theorem q_2_106 : Cond.methodLinkNest RX1 49 yX5_isWithin "WellIsAskedFirst" ∈ nw := nw_of (in_t2 (List.mem_of_getElem? (i := 106) rfl)) rfl
theorem q_2_107 : Cond.methodLink RX5 135 yX5_isUnder ∈ gw := gw_of (in_t2 (List.mem_of_getElem? (i := 107) rfl)) rfl
theorem q_2_108 : Cond.static yX5_isUnder ∈ gw := gw_of (in_t2 (List.mem_of_getElem? (i := 108) rfl)) rfl
theorem q_2_109 : Cond.code yX5_isUnder cX5_isUnder 2 ((Option.some Jvm.ClassFile.FieldType.boolean)) ∈ gw := gw_of (in_t2 (List.mem_of_getElem? (i := 109) rfl)) rfl
theorem q_2_110 : Cond.methodLinkNest RX5 138 yX1_pitchOf "WellIsAskedFirst" ∈ nw := nw_of (in_t2 (List.mem_of_getElem? (i := 110) rfl)) rfl
theorem q_2_112 : Cond.instanceMethod yX1_pitchOf ∈ gw := gw_of (in_t2 (List.mem_of_getElem? (i := 112) rfl)) rfl
theorem q_2_113 : Cond.code yX1_pitchOf cX1_pitchOf 2 ((Option.some Jvm.ClassFile.FieldType.int)) ∈ gw := gw_of (in_t2 (List.mem_of_getElem? (i := 113) rfl)) rfl
theorem q_2_114 : Cond.methodLinkNest RX5 141 yX4_clear "WellIsAskedFirst" ∈ nw := nw_of (in_t2 (List.mem_of_getElem? (i := 114) rfl)) rfl
theorem q_2_116 : Cond.instanceMethod yX4_clear ∈ gw := gw_of (in_t2 (List.mem_of_getElem? (i := 116) rfl)) rfl
theorem q_2_117 : Cond.code yX4_clear cX4_clear 1 ((Option.none : Option Jvm.ClassFile.FieldType)) ∈ gw := gw_of (in_t2 (List.mem_of_getElem? (i := 117) rfl)) rfl
theorem q_2_118 : Cond.methodLinkNest RX5 144 yX4_add "WellIsAskedFirst" ∈ nw := nw_of (in_t2 (List.mem_of_getElem? (i := 118) rfl)) rfl
theorem q_2_12 : Cond.instanceMethod yX5_refuse ∈ gw := gw_of (in_t2 (List.mem_of_getElem? (i := 12) rfl)) rfl
theorem q_2_120 : Cond.instanceMethod yX4_add ∈ gw := gw_of (in_t2 (List.mem_of_getElem? (i := 120) rfl)) rfl
theorem q_2_121 : Cond.code yX4_add cX4_add 2 ((Option.none : Option Jvm.ClassFile.FieldType)) ∈ gw := gw_of (in_t2 (List.mem_of_getElem? (i := 121) rfl)) rfl
theorem q_2_122 : Cond.methodLinkNest RX4 19 yX5_isWithin "WellIsAskedFirst" ∈ nw := nw_of (in_t2 (List.mem_of_getElem? (i := 122) rfl)) rfl
theorem q_2_123 : Cond.methodLinkNest RX5 148 yX3_standsFor "WellIsAskedFirst" ∈ nw := nw_of (in_t2 (List.mem_of_getElem? (i := 123) rfl)) rfl
theorem q_2_125 : Cond.instanceMethod yX3_standsFor ∈ gw := gw_of (in_t2 (List.mem_of_getElem? (i := 125) rfl)) rfl
theorem q_2_126 : Cond.code yX3_standsFor cX3_standsFor 3 ((Option.none : Option Jvm.ClassFile.FieldType)) ∈ gw := gw_of (in_t2 (List.mem_of_getElem? (i := 126) rfl)) rfl
theorem q_2_127 : Cond.methodLinkNest RX3 15 yX1_kindOf "WellIsAskedFirst" ∈ nw := nw_of (in_t2 (List.mem_of_getElem? (i := 127) rfl)) rfl
theorem q_2_128 : Cond.methodLinkNest RX3 25 yX1_pitchOf "WellIsAskedFirst" ∈ nw := nw_of (in_t2 (List.mem_of_getElem? (i := 128) rfl)) rfl
theorem q_2_129 : Cond.methodLinkNest RX5 152 yX3_hears "WellIsAskedFirst" ∈ nw := nw_of (in_t2 (List.mem_of_getElem? (i := 129) rfl)) rfl
theorem q_2_13 : Cond.code yX5_refuse cX5_refuse 3 ((Option.some Jvm.ClassFile.FieldType.int)) ∈ gw := gw_of (in_t2 (List.mem_of_getElem? (i := 13) rfl)) rfl
theorem q_2_131 : Cond.instanceMethod yX3_hears ∈ gw := gw_of (in_t2 (List.mem_of_getElem? (i := 131) rfl)) rfl
theorem q_2_132 : Cond.code yX3_hears cX3_hears 3 ((Option.none : Option Jvm.ClassFile.FieldType)) ∈ gw := gw_of (in_t2 (List.mem_of_getElem? (i := 132) rfl)) rfl
theorem q_2_133 : Cond.methodLinkNest RX3 64 yX5_isUnder "WellIsAskedFirst" ∈ nw := nw_of (in_t2 (List.mem_of_getElem? (i := 133) rfl)) rfl
theorem q_2_134 : Cond.methodLinkNest RX3 77 yX4_soundAt "WellIsAskedFirst" ∈ nw := nw_of (in_t2 (List.mem_of_getElem? (i := 134) rfl)) rfl
theorem q_2_136 : Cond.instanceMethod yX4_soundAt ∈ gw := gw_of (in_t2 (List.mem_of_getElem? (i := 136) rfl)) rfl
theorem q_2_137 : Cond.code yX4_soundAt cX4_soundAt 2 ((Option.some Jvm.ClassFile.FieldType.int)) ∈ gw := gw_of (in_t2 (List.mem_of_getElem? (i := 137) rfl)) rfl
theorem q_2_138 : Cond.methodLink RX3 80 yX3_hearBack ∈ gw := gw_of (in_t2 (List.mem_of_getElem? (i := 138) rfl)) rfl
theorem q_2_14 : Cond.methodLinkNest RX5 90 yX0_putRow "WellIsAskedFirst" ∈ nw := nw_of (in_t2 (List.mem_of_getElem? (i := 14) rfl)) rfl
theorem q_2_140 : Cond.instanceMethod yX3_hearBack ∈ gw := gw_of (in_t2 (List.mem_of_getElem? (i := 140) rfl)) rfl
theorem q_2_141 : Cond.code yX3_hearBack cX3_hearBack 3 ((Option.none : Option Jvm.ClassFile.FieldType)) ∈ gw := gw_of (in_t2 (List.mem_of_getElem? (i := 141) rfl)) rfl
theorem q_2_142 : Cond.methodLink RX3 87 yX3_returnOf ∈ gw := gw_of (in_t2 (List.mem_of_getElem? (i := 142) rfl)) rfl
theorem q_2_144 : Cond.instanceMethod yX3_returnOf ∈ gw := gw_of (in_t2 (List.mem_of_getElem? (i := 144) rfl)) rfl
theorem q_2_145 : Cond.code yX3_returnOf cX3_returnOf 4 ((Option.some Jvm.ClassFile.FieldType.int)) ∈ gw := gw_of (in_t2 (List.mem_of_getElem? (i := 145) rfl)) rfl
theorem q_2_146 : Cond.methodLink RX3 68 yX3_pitchToday ∈ gw := gw_of (in_t2 (List.mem_of_getElem? (i := 146) rfl)) rfl
theorem q_2_148 : Cond.instanceMethod yX3_pitchToday ∈ gw := gw_of (in_t2 (List.mem_of_getElem? (i := 148) rfl)) rfl
theorem q_2_149 : Cond.code yX3_pitchToday cX3_pitchToday 1 ((Option.some Jvm.ClassFile.FieldType.int)) ∈ gw := gw_of (in_t2 (List.mem_of_getElem? (i := 149) rfl)) rfl
theorem q_2_150 : Cond.methodLinkNest RX3 90 yX5_isWithin "WellIsAskedFirst" ∈ nw := nw_of (in_t2 (List.mem_of_getElem? (i := 150) rfl)) rfl
theorem q_2_151 : Cond.methodLink RX3 84 yX3_turnRound ∈ gw := gw_of (in_t2 (List.mem_of_getElem? (i := 151) rfl)) rfl
theorem q_2_153 : Cond.instanceMethod yX3_turnRound ∈ gw := gw_of (in_t2 (List.mem_of_getElem? (i := 153) rfl)) rfl
theorem q_2_154 : Cond.code yX3_turnRound cX3_turnRound 4 ((Option.none : Option Jvm.ClassFile.FieldType)) ∈ gw := gw_of (in_t2 (List.mem_of_getElem? (i := 154) rfl)) rfl
theorem q_2_155 : Cond.methodLinkNest RX5 156 yX3_total "WellIsAskedFirst" ∈ nw := nw_of (in_t2 (List.mem_of_getElem? (i := 155) rfl)) rfl
theorem q_2_157 : Cond.instanceMethod yX3_total ∈ gw := gw_of (in_t2 (List.mem_of_getElem? (i := 157) rfl)) rfl
theorem q_2_158 : Cond.code yX3_total cX3_total 3 ((Option.some Jvm.ClassFile.FieldType.int)) ∈ gw := gw_of (in_t2 (List.mem_of_getElem? (i := 158) rfl)) rfl
theorem q_2_159 : Cond.methodLink RX3 94 yX3_heardAt ∈ gw := gw_of (in_t2 (List.mem_of_getElem? (i := 159) rfl)) rfl
theorem q_2_16 : Cond.instanceMethod yX0_putRow ∈ gw := gw_of (in_t2 (List.mem_of_getElem? (i := 16) rfl)) rfl
theorem q_2_161 : Cond.instanceMethod yX3_heardAt ∈ gw := gw_of (in_t2 (List.mem_of_getElem? (i := 161) rfl)) rfl
theorem q_2_162 : Cond.code yX3_heardAt cX3_heardAt 2 ((Option.some Jvm.ClassFile.FieldType.int)) ∈ gw := gw_of (in_t2 (List.mem_of_getElem? (i := 162) rfl)) rfl
theorem q_2_167 : Cond.methodLinkNest RX5 160 yX1_hasRoom "WellIsAskedFirst" ∈ nw := nw_of (in_t2 (List.mem_of_getElem? (i := 167) rfl)) rfl
theorem q_2_169 : Cond.instanceMethod yX1_hasRoom ∈ gw := gw_of (in_t2 (List.mem_of_getElem? (i := 169) rfl)) rfl
theorem q_2_17 : Cond.code yX0_putRow cX0_putRow 4 ((Option.none : Option Jvm.ClassFile.FieldType)) ∈ gw := gw_of (in_t2 (List.mem_of_getElem? (i := 17) rfl)) rfl
theorem q_2_170 : Cond.code yX1_hasRoom cX1_hasRoom 1 ((Option.some Jvm.ClassFile.FieldType.boolean)) ∈ gw := gw_of (in_t2 (List.mem_of_getElem? (i := 170) rfl)) rfl
theorem q_2_171 : Cond.methodLinkNest RX5 164 yX1_addVoice "WellIsAskedFirst" ∈ nw := nw_of (in_t2 (List.mem_of_getElem? (i := 171) rfl)) rfl
theorem q_2_173 : Cond.instanceMethod yX1_addVoice ∈ gw := gw_of (in_t2 (List.mem_of_getElem? (i := 173) rfl)) rfl
theorem q_2_174 : Cond.code yX1_addVoice cX1_addVoice 4 ((Option.none : Option Jvm.ClassFile.FieldType)) ∈ gw := gw_of (in_t2 (List.mem_of_getElem? (i := 174) rfl)) rfl
theorem q_2_179 : Cond.methodLinkNest RX5 171 yX1_putPitch "WellIsAskedFirst" ∈ nw := nw_of (in_t2 (List.mem_of_getElem? (i := 179) rfl)) rfl
theorem q_2_18 : Cond.methodLinkNest RX0 28 yX5_isShelf "WellIsAskedFirst" ∈ nw := nw_of (in_t2 (List.mem_of_getElem? (i := 18) rfl)) rfl
theorem q_2_181 : Cond.instanceMethod yX1_putPitch ∈ gw := gw_of (in_t2 (List.mem_of_getElem? (i := 181) rfl)) rfl
theorem q_2_182 : Cond.code yX1_putPitch cX1_putPitch 3 ((Option.none : Option Jvm.ClassFile.FieldType)) ∈ gw := gw_of (in_t2 (List.mem_of_getElem? (i := 182) rfl)) rfl
theorem q_2_19 : Cond.methodLinkNest RX0 39 yX5_isWithin "WellIsAskedFirst" ∈ nw := nw_of (in_t2 (List.mem_of_getElem? (i := 19) rfl)) rfl
theorem q_2_195 : Cond.methodLinkNest RX5 189 yX2_hasRoom "WellIsAskedFirst" ∈ nw := nw_of (in_t2 (List.mem_of_getElem? (i := 195) rfl)) rfl
theorem q_2_197 : Cond.instanceMethod yX2_hasRoom ∈ gw := gw_of (in_t2 (List.mem_of_getElem? (i := 197) rfl)) rfl
theorem q_2_198 : Cond.code yX2_hasRoom cX2_hasRoom 1 ((Option.some Jvm.ClassFile.FieldType.boolean)) ∈ gw := gw_of (in_t2 (List.mem_of_getElem? (i := 198) rfl)) rfl
theorem q_2_199 : Cond.methodLinkNest RX5 190 yX2_put "WellIsAskedFirst" ∈ nw := nw_of (in_t2 (List.mem_of_getElem? (i := 199) rfl)) rfl
theorem q_2_20 : Cond.methodLink RX0 43 yJ7_fill_bad5a ∈ gw := gw_of (in_t2 (List.mem_of_getElem? (i := 20) rfl)) rfl
theorem q_2_201 : Cond.instanceMethod yX2_put ∈ gw := gw_of (in_t2 (List.mem_of_getElem? (i := 201) rfl)) rfl
theorem q_2_202 : Cond.code yX2_put cX2_put 2 ((Option.none : Option Jvm.ClassFile.FieldType)) ∈ gw := gw_of (in_t2 (List.mem_of_getElem? (i := 202) rfl)) rfl
theorem q_2_203 : Cond.methodLinkNest RX2 19 yX5_isWithin "WellIsAskedFirst" ∈ nw := nw_of (in_t2 (List.mem_of_getElem? (i := 203) rfl)) rfl
theorem q_2_21 : Cond.static yJ7_fill_bad5a ∈ gw := gw_of (in_t2 (List.mem_of_getElem? (i := 21) rfl)) rfl
theorem q_2_212 : Cond.methodLinkNest RX5 196 yX1_becomes "WellIsAskedFirst" ∈ nw := nw_of (in_t2 (List.mem_of_getElem? (i := 212) rfl)) rfl
theorem q_2_214 : Cond.instanceMethod yX1_becomes ∈ gw := gw_of (in_t2 (List.mem_of_getElem? (i := 214) rfl)) rfl
theorem q_2_215 : Cond.code yX1_becomes cX1_becomes 3 ((Option.none : Option Jvm.ClassFile.FieldType)) ∈ gw := gw_of (in_t2 (List.mem_of_getElem? (i := 215) rfl)) rfl
theorem q_2_22 : Cond.code yJ7_fill_bad5a cJ7_fill_bad5a 6 ((Option.none : Option Jvm.ClassFile.FieldType)) ∈ gw := gw_of (in_t2 (List.mem_of_getElem? (i := 22) rfl)) rfl
theorem q_2_220 : Cond.methodLink RX2 26 yX2_step ∈ gw := gw_of (in_t2 (List.mem_of_getElem? (i := 220) rfl)) rfl
theorem q_2_222 : Cond.instanceMethod yX2_step ∈ gw := gw_of (in_t2 (List.mem_of_getElem? (i := 222) rfl)) rfl
theorem q_2_223 : Cond.code yX2_step cX2_step 2 ((Option.none : Option Jvm.ClassFile.FieldType)) ∈ gw := gw_of (in_t2 (List.mem_of_getElem? (i := 223) rfl)) rfl
theorem q_2_224 : Cond.methodLink RX2 39 yX2_byteAt ∈ gw := gw_of (in_t2 (List.mem_of_getElem? (i := 224) rfl)) rfl
theorem q_2_226 : Cond.instanceMethod yX2_byteAt ∈ gw := gw_of (in_t2 (List.mem_of_getElem? (i := 226) rfl)) rfl
theorem q_2_227 : Cond.code yX2_byteAt cX2_byteAt 2 ((Option.some Jvm.ClassFile.FieldType.int)) ∈ gw := gw_of (in_t2 (List.mem_of_getElem? (i := 227) rfl)) rfl
theorem q_2_228 : Cond.methodLink RX2 43 yX2_tokenOf ∈ gw := gw_of (in_t2 (List.mem_of_getElem? (i := 228) rfl)) rfl
theorem q_2_229 : Cond.static yX2_tokenOf ∈ gw := gw_of (in_t2 (List.mem_of_getElem? (i := 229) rfl)) rfl
theorem q_2_23 : Cond.methodLink "java/util/Arrays" 13 yJ7_rangeCheck_23922 ∈ gw := gw_of (in_t2 (List.mem_of_getElem? (i := 23) rfl)) rfl
theorem q_2_230 : Cond.code yX2_tokenOf cX2_tokenOf 1 ((Option.some Jvm.ClassFile.FieldType.int)) ∈ gw := gw_of (in_t2 (List.mem_of_getElem? (i := 230) rfl)) rfl
theorem q_2_24 : Cond.static yJ7_rangeCheck_23922 ∈ gw := gw_of (in_t2 (List.mem_of_getElem? (i := 24) rfl)) rfl
theorem q_2_25 : Cond.code yJ7_rangeCheck_23922 cJ7_rangeCheck_23922 3 ((Option.none : Option Jvm.ClassFile.FieldType)) ∈ gw := gw_of (in_t2 (List.mem_of_getElem? (i := 25) rfl)) rfl
theorem q_2_30 : Cond.methodLinkNest RX5 94 yX0_hasVoice "WellIsAskedFirst" ∈ nw := nw_of (in_t2 (List.mem_of_getElem? (i := 30) rfl)) rfl
theorem q_2_32 : Cond.instanceMethod yX0_hasVoice ∈ gw := gw_of (in_t2 (List.mem_of_getElem? (i := 32) rfl)) rfl
theorem q_2_33 : Cond.code yX0_hasVoice cX0_hasVoice 2 ((Option.some Jvm.ClassFile.FieldType.boolean)) ∈ gw := gw_of (in_t2 (List.mem_of_getElem? (i := 33) rfl)) rfl
theorem q_2_34 : Cond.methodLink RX0 32 yX0_holdingOf ∈ gw := gw_of (in_t2 (List.mem_of_getElem? (i := 34) rfl)) rfl
theorem q_2_36 : Cond.instanceMethod yX0_holdingOf ∈ gw := gw_of (in_t2 (List.mem_of_getElem? (i := 36) rfl)) rfl
theorem q_2_37 : Cond.code yX0_holdingOf cX0_holdingOf 2 ((Option.some Jvm.ClassFile.FieldType.int)) ∈ gw := gw_of (in_t2 (List.mem_of_getElem? (i := 37) rfl)) rfl
theorem q_2_38 : Cond.methodLinkNest RX5 97 yX0_isBare "WellIsAskedFirst" ∈ nw := nw_of (in_t2 (List.mem_of_getElem? (i := 38) rfl)) rfl
theorem q_2_4 : Cond.methodLink RX5 78 yX5_isShelf ∈ gw := gw_of (in_t2 (List.mem_of_getElem? (i := 4) rfl)) rfl
theorem q_2_40 : Cond.instanceMethod yX0_isBare ∈ gw := gw_of (in_t2 (List.mem_of_getElem? (i := 40) rfl)) rfl
theorem q_2_41 : Cond.code yX0_isBare cX0_isBare 2 ((Option.some Jvm.ClassFile.FieldType.boolean)) ∈ gw := gw_of (in_t2 (List.mem_of_getElem? (i := 41) rfl)) rfl
theorem q_2_42 : Cond.methodLinkNest RX5 100 yX0_hasPlaces "WellIsAskedFirst" ∈ nw := nw_of (in_t2 (List.mem_of_getElem? (i := 42) rfl)) rfl
theorem q_2_44 : Cond.instanceMethod yX0_hasPlaces ∈ gw := gw_of (in_t2 (List.mem_of_getElem? (i := 44) rfl)) rfl
theorem q_2_45 : Cond.code yX0_hasPlaces cX0_hasPlaces 4 ((Option.some Jvm.ClassFile.FieldType.boolean)) ∈ gw := gw_of (in_t2 (List.mem_of_getElem? (i := 45) rfl)) rfl
theorem q_2_46 : Cond.methodLinkNest RX5 103 yX0_putElement "WellIsAskedFirst" ∈ nw := nw_of (in_t2 (List.mem_of_getElem? (i := 46) rfl)) rfl
theorem q_2_48 : Cond.instanceMethod yX0_putElement ∈ gw := gw_of (in_t2 (List.mem_of_getElem? (i := 48) rfl)) rfl
theorem q_2_49 : Cond.code yX0_putElement cX0_putElement 5 ((Option.none : Option Jvm.ClassFile.FieldType)) ∈ gw := gw_of (in_t2 (List.mem_of_getElem? (i := 49) rfl)) rfl
theorem q_2_5 : Cond.static yX5_isShelf ∈ gw := gw_of (in_t2 (List.mem_of_getElem? (i := 5) rfl)) rfl
theorem q_2_50 : Cond.methodLink RX0 46 yX0_hasPlaces ∈ gw := gw_of (in_t2 (List.mem_of_getElem? (i := 50) rfl)) rfl
theorem q_2_51 : Cond.methodLink RX0 49 yX0_asKept ∈ gw := gw_of (in_t2 (List.mem_of_getElem? (i := 51) rfl)) rfl
theorem q_2_52 : Cond.static yX0_asKept ∈ gw := gw_of (in_t2 (List.mem_of_getElem? (i := 52) rfl)) rfl
theorem q_2_53 : Cond.code yX0_asKept cX0_asKept 3 ((Option.some Jvm.ClassFile.FieldType.long)) ∈ gw := gw_of (in_t2 (List.mem_of_getElem? (i := 53) rfl)) rfl
theorem q_2_58 : Cond.methodLinkNest RX5 107 yX0_haveTwoSorts "WellIsAskedFirst" ∈ nw := nw_of (in_t2 (List.mem_of_getElem? (i := 58) rfl)) rfl
theorem q_2_6 : Cond.code yX5_isShelf cX5_isShelf 1 ((Option.some Jvm.ClassFile.FieldType.boolean)) ∈ gw := gw_of (in_t2 (List.mem_of_getElem? (i := 6) rfl)) rfl
theorem q_2_60 : Cond.instanceMethod yX0_haveTwoSorts ∈ gw := gw_of (in_t2 (List.mem_of_getElem? (i := 60) rfl)) rfl
theorem q_2_61 : Cond.code yX0_haveTwoSorts cX0_haveTwoSorts 3 ((Option.some Jvm.ClassFile.FieldType.boolean)) ∈ gw := gw_of (in_t2 (List.mem_of_getElem? (i := 61) rfl)) rfl
theorem q_2_62 : Cond.methodLink RX0 36 yX0_isBare ∈ gw := gw_of (in_t2 (List.mem_of_getElem? (i := 62) rfl)) rfl
theorem q_2_63 : Cond.methodLinkNest RX5 111 yX0_copyElements "WellIsAskedFirst" ∈ nw := nw_of (in_t2 (List.mem_of_getElem? (i := 63) rfl)) rfl
theorem q_2_65 : Cond.instanceMethod yX0_copyElements ∈ gw := gw_of (in_t2 (List.mem_of_getElem? (i := 65) rfl)) rfl
theorem q_2_66 : Cond.code yX0_copyElements cX0_copyElements 6 ((Option.none : Option Jvm.ClassFile.FieldType)) ∈ gw := gw_of (in_t2 (List.mem_of_getElem? (i := 66) rfl)) rfl
theorem q_2_67 : Cond.methodLink RX0 53 arraycopyName ∈ gw := gw_of (in_t2 (List.mem_of_getElem? (i := 67) rfl)) rfl
theorem q_2_68 : Cond.static arraycopyName ∈ gw := gw_of (in_t2 (List.mem_of_getElem? (i := 68) rfl)) rfl
theorem q_2_69 : Cond.native arraycopyName ∈ gw := gw_of (in_t2 (List.mem_of_getElem? (i := 69) rfl)) rfl
theorem q_2_7 : Cond.methodLink RX5 82 yX5_isWithin ∈ gw := gw_of (in_t2 (List.mem_of_getElem? (i := 7) rfl)) rfl
theorem q_2_74 : Cond.methodLinkNest RX5 115 yX0_elementAt "WellIsAskedFirst" ∈ nw := nw_of (in_t2 (List.mem_of_getElem? (i := 74) rfl)) rfl
theorem q_2_76 : Cond.instanceMethod yX0_elementAt ∈ gw := gw_of (in_t2 (List.mem_of_getElem? (i := 76) rfl)) rfl
theorem q_2_77 : Cond.code yX0_elementAt cX0_elementAt 3 ((Option.some Jvm.ClassFile.FieldType.long)) ∈ gw := gw_of (in_t2 (List.mem_of_getElem? (i := 77) rfl)) rfl
theorem q_2_8 : Cond.static yX5_isWithin ∈ gw := gw_of (in_t2 (List.mem_of_getElem? (i := 8) rfl)) rfl
theorem q_2_82 : Cond.methodLinkNest RX5 119 yX0_holdingOf "WellIsAskedFirst" ∈ nw := nw_of (in_t2 (List.mem_of_getElem? (i := 82) rfl)) rfl
theorem q_2_87 : Cond.methodLink RX5 122 yX5_isVoice ∈ gw := gw_of (in_t2 (List.mem_of_getElem? (i := 87) rfl)) rfl
theorem q_2_89 : Cond.instanceMethod yX5_isVoice ∈ gw := gw_of (in_t2 (List.mem_of_getElem? (i := 89) rfl)) rfl
theorem q_2_9 : Cond.code yX5_isWithin cX5_isWithin 3 ((Option.some Jvm.ClassFile.FieldType.boolean)) ∈ gw := gw_of (in_t2 (List.mem_of_getElem? (i := 9) rfl)) rfl
theorem q_2_90 : Cond.code yX5_isVoice cX5_isVoice 2 ((Option.some Jvm.ClassFile.FieldType.boolean)) ∈ gw := gw_of (in_t2 (List.mem_of_getElem? (i := 90) rfl)) rfl
theorem q_2_91 : Cond.methodLinkNest RX5 125 yX0_putVoice "WellIsAskedFirst" ∈ nw := nw_of (in_t2 (List.mem_of_getElem? (i := 91) rfl)) rfl
theorem q_2_93 : Cond.instanceMethod yX0_putVoice ∈ gw := gw_of (in_t2 (List.mem_of_getElem? (i := 93) rfl)) rfl
theorem q_2_94 : Cond.code yX0_putVoice cX0_putVoice 3 ((Option.none : Option Jvm.ClassFile.FieldType)) ∈ gw := gw_of (in_t2 (List.mem_of_getElem? (i := 94) rfl)) rfl
theorem q_2_99 : Cond.methodLink RX5 129 yX5_isKind ∈ gw := gw_of (in_t2 (List.mem_of_getElem? (i := 99) rfl)) rfl
theorem q_3_101 : Cond.instanceMethod yX5_areTwins ∈ gw := gw_of (in_t3 (List.mem_of_getElem? (i := 101) rfl)) rfl
theorem q_3_102 : Cond.code yX5_areTwins cX5_areTwins 4 ((Option.some Jvm.ClassFile.FieldType.boolean)) ∈ gw := gw_of (in_t3 (List.mem_of_getElem? (i := 102) rfl)) rfl
theorem q_3_111 : Cond.methodLink RX5 219 yX5_findShortestYes ∈ gw := gw_of (in_t3 (List.mem_of_getElem? (i := 111) rfl)) rfl
theorem q_3_113 : Cond.instanceMethod yX5_findShortestYes ∈ gw := gw_of (in_t3 (List.mem_of_getElem? (i := 113) rfl)) rfl
theorem q_3_114 : Cond.code yX5_findShortestYes cX5_findShortestYes 4 ((Option.none : Option Jvm.ClassFile.FieldType)) ∈ gw := gw_of (in_t3 (List.mem_of_getElem? (i := 114) rfl)) rfl
theorem q_3_115 : Cond.methodLinkNest RX5 236 yX3_weighs "WellIsAskedFirst" ∈ nw := nw_of (in_t3 (List.mem_of_getElem? (i := 115) rfl)) rfl
theorem q_3_117 : Cond.instanceMethod yX3_weighs ∈ gw := gw_of (in_t3 (List.mem_of_getElem? (i := 117) rfl)) rfl
theorem q_3_118 : Cond.code yX3_weighs cX3_weighs 2 ((Option.some Jvm.ClassFile.FieldType.int)) ∈ gw := gw_of (in_t3 (List.mem_of_getElem? (i := 118) rfl)) rfl
theorem q_3_119 : Cond.methodLink RX3 97 yX3_hears ∈ gw := gw_of (in_t3 (List.mem_of_getElem? (i := 119) rfl)) rfl
theorem q_3_120 : Cond.methodLink RX3 101 yX3_total ∈ gw := gw_of (in_t3 (List.mem_of_getElem? (i := 120) rfl)) rfl
theorem q_3_121 : Cond.methodLinkNest RX5 223 yX4_soundAt "WellIsAskedFirst" ∈ nw := nw_of (in_t3 (List.mem_of_getElem? (i := 121) rfl)) rfl
theorem q_3_126 : Cond.methodLink RX5 226 yX5_takeWord ∈ gw := gw_of (in_t3 (List.mem_of_getElem? (i := 126) rfl)) rfl
theorem q_3_128 : Cond.instanceMethod yX5_takeWord ∈ gw := gw_of (in_t3 (List.mem_of_getElem? (i := 128) rfl)) rfl
theorem q_3_129 : Cond.code yX5_takeWord cX5_takeWord 4 ((Option.some Jvm.ClassFile.FieldType.int)) ∈ gw := gw_of (in_t3 (List.mem_of_getElem? (i := 129) rfl)) rfl
theorem q_3_130 : Cond.methodLink RX5 314 yX5_takeWordAndRow ∈ gw := gw_of (in_t3 (List.mem_of_getElem? (i := 130) rfl)) rfl
theorem q_3_132 : Cond.instanceMethod yX5_takeWordAndRow ∈ gw := gw_of (in_t3 (List.mem_of_getElem? (i := 132) rfl)) rfl
theorem q_3_133 : Cond.code yX5_takeWordAndRow cX5_takeWordAndRow 9 ((Option.some Jvm.ClassFile.FieldType.int)) ∈ gw := gw_of (in_t3 (List.mem_of_getElem? (i := 133) rfl)) rfl
theorem q_3_134 : Cond.constantLong RX5 369 40 ∈ gw := gw_of (in_t3 (List.mem_of_getElem? (i := 134) rfl)) rfl
theorem q_3_135 : Cond.methodLinkNest RX5 233 yX3_heardAt "WellIsAskedFirst" ∈ nw := nw_of (in_t3 (List.mem_of_getElem? (i := 135) rfl)) rfl
theorem q_3_148 : Cond.methodLinkNest RX5 240 yX3_passDay "WellIsAskedFirst" ∈ nw := nw_of (in_t3 (List.mem_of_getElem? (i := 148) rfl)) rfl
theorem q_3_150 : Cond.instanceMethod yX3_passDay ∈ gw := gw_of (in_t3 (List.mem_of_getElem? (i := 150) rfl)) rfl
theorem q_3_151 : Cond.code yX3_passDay cX3_passDay 1 ((Option.none : Option Jvm.ClassFile.FieldType)) ∈ gw := gw_of (in_t3 (List.mem_of_getElem? (i := 151) rfl)) rfl
theorem q_3_152 : Cond.methodLinkNest RX3 54 yX5_depthBehind "WellIsAskedFirst" ∈ nw := nw_of (in_t3 (List.mem_of_getElem? (i := 152) rfl)) rfl
theorem q_3_153 : Cond.static yX5_depthBehind ∈ gw := gw_of (in_t3 (List.mem_of_getElem? (i := 153) rfl)) rfl
theorem q_3_154 : Cond.code yX5_depthBehind cX5_depthBehind 2 ((Option.some Jvm.ClassFile.FieldType.int)) ∈ gw := gw_of (in_t3 (List.mem_of_getElem? (i := 154) rfl)) rfl
theorem q_3_155 : Cond.methodLink RX5 292 Lib.Math.min.name ∈ gw := gw_of (in_t3 (List.mem_of_getElem? (i := 155) rfl)) rfl
theorem q_3_156 : Cond.static Lib.Math.min.name ∈ gw := gw_of (in_t3 (List.mem_of_getElem? (i := 156) rfl)) rfl
theorem q_3_157 : Cond.code Lib.Math.min.name Lib.Math.min.code 2 (some .int) ∈ gw := gw_of (in_t3 (List.mem_of_getElem? (i := 157) rfl)) rfl
theorem q_3_158 : Cond.methodLink RX5 303 Lib.Math.max.name ∈ gw := gw_of (in_t3 (List.mem_of_getElem? (i := 158) rfl)) rfl
theorem q_3_159 : Cond.static Lib.Math.max.name ∈ gw := gw_of (in_t3 (List.mem_of_getElem? (i := 159) rfl)) rfl
theorem q_3_160 : Cond.code Lib.Math.max.name Lib.Math.max.code 2 (some .int) ∈ gw := gw_of (in_t3 (List.mem_of_getElem? (i := 160) rfl)) rfl
theorem q_3_161 : Cond.methodLinkNest RX3 58 yX5_dayBehind "WellIsAskedFirst" ∈ nw := nw_of (in_t3 (List.mem_of_getElem? (i := 161) rfl)) rfl
theorem q_3_162 : Cond.static yX5_dayBehind ∈ gw := gw_of (in_t3 (List.mem_of_getElem? (i := 162) rfl)) rfl
theorem q_3_163 : Cond.code yX5_dayBehind cX5_dayBehind 1 ((Option.some Jvm.ClassFile.FieldType.int)) ∈ gw := gw_of (in_t3 (List.mem_of_getElem? (i := 163) rfl)) rfl
theorem q_3_172 : Cond.methodLink RX5 243 yX5_depthsOfYes ∈ gw := gw_of (in_t3 (List.mem_of_getElem? (i := 172) rfl)) rfl
theorem q_3_174 : Cond.instanceMethod yX5_depthsOfYes ∈ gw := gw_of (in_t3 (List.mem_of_getElem? (i := 174) rfl)) rfl
theorem q_3_175 : Cond.code yX5_depthsOfYes cX5_depthsOfYes 5 ((Option.some Jvm.ClassFile.FieldType.long)) ∈ gw := gw_of (in_t3 (List.mem_of_getElem? (i := 175) rfl)) rfl
theorem q_3_176 : Cond.methodLink RX5 247 yX5_tellOf ∈ gw := gw_of (in_t3 (List.mem_of_getElem? (i := 176) rfl)) rfl
theorem q_3_177 : Cond.static yX5_tellOf ∈ gw := gw_of (in_t3 (List.mem_of_getElem? (i := 177) rfl)) rfl
theorem q_3_178 : Cond.code yX5_tellOf cX5_tellOf 5 ((Option.some Jvm.ClassFile.FieldType.int)) ∈ gw := gw_of (in_t3 (List.mem_of_getElem? (i := 178) rfl)) rfl
theorem q_3_179 : Cond.methodLink RX5 329 yJ13_bitCount_95d88 ∈ gw := gw_of (in_t3 (List.mem_of_getElem? (i := 179) rfl)) rfl
theorem q_3_180 : Cond.static yJ13_bitCount_95d88 ∈ gw := gw_of (in_t3 (List.mem_of_getElem? (i := 180) rfl)) rfl
theorem q_3_181 : Cond.code yJ13_bitCount_95d88 cJ13_bitCount_95d88 2 ((Option.some Jvm.ClassFile.FieldType.int)) ∈ gw := gw_of (in_t3 (List.mem_of_getElem? (i := 181) rfl)) rfl
theorem q_3_182 : Cond.constantLong "java/lang/Long" 314 6148914691236517205 ∈ gw := gw_of (in_t3 (List.mem_of_getElem? (i := 182) rfl)) rfl
theorem q_3_183 : Cond.constantLong "java/lang/Long" 316 3689348814741910323 ∈ gw := gw_of (in_t3 (List.mem_of_getElem? (i := 183) rfl)) rfl
theorem q_3_184 : Cond.constantLong "java/lang/Long" 318 1085102592571150095 ∈ gw := gw_of (in_t3 (List.mem_of_getElem? (i := 184) rfl)) rfl
theorem q_3_185 : Cond.methodLink RX5 270 yX5_isIn ∈ gw := gw_of (in_t3 (List.mem_of_getElem? (i := 185) rfl)) rfl
theorem q_3_186 : Cond.static yX5_isIn ∈ gw := gw_of (in_t3 (List.mem_of_getElem? (i := 186) rfl)) rfl
theorem q_3_187 : Cond.code yX5_isIn cX5_isIn 3 ((Option.some Jvm.ClassFile.FieldType.boolean)) ∈ gw := gw_of (in_t3 (List.mem_of_getElem? (i := 187) rfl)) rfl
theorem q_3_196 : Cond.methodLinkNest RX5 254 yX4_takes "WellIsAskedFirst" ∈ nw := nw_of (in_t3 (List.mem_of_getElem? (i := 196) rfl)) rfl
theorem q_3_198 : Cond.instanceMethod yX4_takes ∈ gw := gw_of (in_t3 (List.mem_of_getElem? (i := 198) rfl)) rfl
theorem q_3_199 : Cond.code yX4_takes cX4_takes 4 ((Option.none : Option Jvm.ClassFile.FieldType)) ∈ gw := gw_of (in_t3 (List.mem_of_getElem? (i := 199) rfl)) rfl
theorem q_3_200 : Cond.methodLink RX4 23 yX4_clear ∈ gw := gw_of (in_t3 (List.mem_of_getElem? (i := 200) rfl)) rfl
theorem q_3_201 : Cond.methodLink RX4 26 yX4_soundAt ∈ gw := gw_of (in_t3 (List.mem_of_getElem? (i := 201) rfl)) rfl
theorem q_3_202 : Cond.methodLink RX4 30 yX4_add ∈ gw := gw_of (in_t3 (List.mem_of_getElem? (i := 202) rfl)) rfl
theorem q_3_211 : Cond.methodLinkNest RX5 259 yX3_passDays "WellIsAskedFirst" ∈ nw := nw_of (in_t3 (List.mem_of_getElem? (i := 211) rfl)) rfl
theorem q_3_213 : Cond.instanceMethod yX3_passDays ∈ gw := gw_of (in_t3 (List.mem_of_getElem? (i := 213) rfl)) rfl
theorem q_3_214 : Cond.code yX3_passDays cX3_passDays 3 ((Option.none : Option Jvm.ClassFile.FieldType)) ∈ gw := gw_of (in_t3 (List.mem_of_getElem? (i := 214) rfl)) rfl
theorem q_3_215 : Cond.methodLink RX3 61 yX3_passDay ∈ gw := gw_of (in_t3 (List.mem_of_getElem? (i := 215) rfl)) rfl
theorem q_3_220 : Cond.methodLinkNest RX5 262 yX3_heardSameAs "WellIsAskedFirst" ∈ nw := nw_of (in_t3 (List.mem_of_getElem? (i := 220) rfl)) rfl
theorem q_3_222 : Cond.instanceMethod yX3_heardSameAs ∈ gw := gw_of (in_t3 (List.mem_of_getElem? (i := 222) rfl)) rfl
theorem q_3_223 : Cond.code yX3_heardSameAs cX3_heardSameAs 3 ((Option.some Jvm.ClassFile.FieldType.boolean)) ∈ gw := gw_of (in_t3 (List.mem_of_getElem? (i := 223) rfl)) rfl
theorem q_3_232 : Cond.methodLink RX5 266 yX5_depthsWonBefore ∈ gw := gw_of (in_t3 (List.mem_of_getElem? (i := 232) rfl)) rfl
theorem q_3_233 : Cond.static yX5_depthsWonBefore ∈ gw := gw_of (in_t3 (List.mem_of_getElem? (i := 233) rfl)) rfl
theorem q_3_234 : Cond.code yX5_depthsWonBefore cX5_depthsWonBefore 7 ((Option.some Jvm.ClassFile.FieldType.long)) ∈ gw := gw_of (in_t3 (List.mem_of_getElem? (i := 234) rfl)) rfl
theorem q_3_235 : Cond.methodLink RX5 395 yX5_depthsPouredInto ∈ gw := gw_of (in_t3 (List.mem_of_getElem? (i := 235) rfl)) rfl
theorem q_3_236 : Cond.static yX5_depthsPouredInto ∈ gw := gw_of (in_t3 (List.mem_of_getElem? (i := 236) rfl)) rfl
theorem q_3_237 : Cond.code yX5_depthsPouredInto cX5_depthsPouredInto 2 ((Option.some Jvm.ClassFile.FieldType.long)) ∈ gw := gw_of (in_t3 (List.mem_of_getElem? (i := 237) rfl)) rfl
theorem q_3_238 : Cond.constantLong RX5 391 2199023255551 ∈ gw := gw_of (in_t3 (List.mem_of_getElem? (i := 238) rfl)) rfl
theorem q_3_239 : Cond.methodLink RX5 399 yX5_depthsDrawnInto ∈ gw := gw_of (in_t3 (List.mem_of_getElem? (i := 239) rfl)) rfl
theorem q_3_52 : Cond.methodLinkNest RX2 83 yX1_hasRoom "WellIsAskedFirst" ∈ nw := nw_of (in_t3 (List.mem_of_getElem? (i := 52) rfl)) rfl
theorem q_3_53 : Cond.methodLink RX2 67 yX2_readNumber ∈ gw := gw_of (in_t3 (List.mem_of_getElem? (i := 53) rfl)) rfl
theorem q_3_55 : Cond.instanceMethod yX2_readNumber ∈ gw := gw_of (in_t3 (List.mem_of_getElem? (i := 55) rfl)) rfl
theorem q_3_56 : Cond.code yX2_readNumber cX2_readNumber 5 ((Option.some Jvm.ClassFile.FieldType.int)) ∈ gw := gw_of (in_t3 (List.mem_of_getElem? (i := 56) rfl)) rfl
theorem q_3_57 : Cond.methodLinkNest RX2 87 yX1_addVoice "WellIsAskedFirst" ∈ nw := nw_of (in_t3 (List.mem_of_getElem? (i := 57) rfl)) rfl
theorem q_3_63 : Cond.methodLinkNest RX2 94 yX1_putPitch "WellIsAskedFirst" ∈ nw := nw_of (in_t3 (List.mem_of_getElem? (i := 63) rfl)) rfl
theorem q_3_77 : Cond.methodLinkNest RX5 207 yX1_aOf "WellIsAskedFirst" ∈ nw := nw_of (in_t3 (List.mem_of_getElem? (i := 77) rfl)) rfl
theorem q_3_79 : Cond.instanceMethod yX1_aOf ∈ gw := gw_of (in_t3 (List.mem_of_getElem? (i := 79) rfl)) rfl
theorem q_3_80 : Cond.code yX1_aOf cX1_aOf 2 ((Option.some Jvm.ClassFile.FieldType.int)) ∈ gw := gw_of (in_t3 (List.mem_of_getElem? (i := 80) rfl)) rfl
theorem q_3_81 : Cond.methodLinkNest RX5 210 yX3_pitchToday "WellIsAskedFirst" ∈ nw := nw_of (in_t3 (List.mem_of_getElem? (i := 81) rfl)) rfl
theorem q_3_86 : Cond.methodLinkNest RX5 213 yX3_returnOf "WellIsAskedFirst" ∈ nw := nw_of (in_t3 (List.mem_of_getElem? (i := 86) rfl)) rfl
theorem q_3_99 : Cond.methodLink RX5 216 yX5_areTwins ∈ gw := gw_of (in_t3 (List.mem_of_getElem? (i := 99) rfl)) rfl
theorem q_4_0 : Cond.static yX5_depthsDrawnInto ∈ gw := gw_of (in_t4 (List.mem_of_getElem? (i := 0) rfl)) rfl
theorem q_4_1 : Cond.code yX5_depthsDrawnInto cX5_depthsDrawnInto 2 ((Option.some Jvm.ClassFile.FieldType.long)) ∈ gw := gw_of (in_t4 (List.mem_of_getElem? (i := 1) rfl)) rfl
theorem q_4_108 : Cond.methodLink RX5 333 yX5_mostLeftBehind ∈ gw := gw_of (in_t4 (List.mem_of_getElem? (i := 108) rfl)) rfl
theorem q_4_11 : Cond.constant RX5 278 1000000 ∈ gw := gw_of (in_t4 (List.mem_of_getElem? (i := 11) rfl)) rfl
theorem q_4_110 : Cond.instanceMethod yX5_mostLeftBehind ∈ gw := gw_of (in_t4 (List.mem_of_getElem? (i := 110) rfl)) rfl
theorem q_4_111 : Cond.code yX5_mostLeftBehind cX5_mostLeftBehind 8 ((Option.some Jvm.ClassFile.FieldType.int)) ∈ gw := gw_of (in_t4 (List.mem_of_getElem? (i := 111) rfl)) rfl
theorem q_4_116 : Cond.methodLink RX5 337 yX5_isSo ∈ gw := gw_of (in_t4 (List.mem_of_getElem? (i := 116) rfl)) rfl
theorem q_4_118 : Cond.instanceMethod yX5_isSo ∈ gw := gw_of (in_t4 (List.mem_of_getElem? (i := 118) rfl)) rfl
theorem q_4_119 : Cond.code yX5_isSo cX5_isSo 5 ((Option.some Jvm.ClassFile.FieldType.boolean)) ∈ gw := gw_of (in_t4 (List.mem_of_getElem? (i := 119) rfl)) rfl
theorem q_4_12 : Cond.methodLink RX5 279 yX5_spreadWays ∈ gw := gw_of (in_t4 (List.mem_of_getElem? (i := 12) rfl)) rfl
theorem q_4_132 : Cond.methodLink RX5 343 yX5_shoutInTruth ∈ gw := gw_of (in_t4 (List.mem_of_getElem? (i := 132) rfl)) rfl
theorem q_4_134 : Cond.instanceMethod yX5_shoutInTruth ∈ gw := gw_of (in_t4 (List.mem_of_getElem? (i := 134) rfl)) rfl
theorem q_4_135 : Cond.code yX5_shoutInTruth cX5_shoutInTruth 3 ((Option.some Jvm.ClassFile.FieldType.int)) ∈ gw := gw_of (in_t4 (List.mem_of_getElem? (i := 135) rfl)) rfl
theorem q_4_14 : Cond.instanceMethod yX5_spreadWays ∈ gw := gw_of (in_t4 (List.mem_of_getElem? (i := 14) rfl)) rfl
theorem q_4_140 : Cond.methodLinkNest RX5 346 yX1_passDay "WellIsAskedFirst" ∈ nw := nw_of (in_t4 (List.mem_of_getElem? (i := 140) rfl)) rfl
theorem q_4_142 : Cond.instanceMethod yX1_passDay ∈ gw := gw_of (in_t4 (List.mem_of_getElem? (i := 142) rfl)) rfl
theorem q_4_143 : Cond.code yX1_passDay cX1_passDay 1 ((Option.none : Option Jvm.ClassFile.FieldType)) ∈ gw := gw_of (in_t4 (List.mem_of_getElem? (i := 143) rfl)) rfl
theorem q_4_144 : Cond.methodLinkNest RX1 53 yX5_depthBehind "WellIsAskedFirst" ∈ nw := nw_of (in_t4 (List.mem_of_getElem? (i := 144) rfl)) rfl
theorem q_4_145 : Cond.methodLinkNest RX1 57 yX5_dayBehind "WellIsAskedFirst" ∈ nw := nw_of (in_t4 (List.mem_of_getElem? (i := 145) rfl)) rfl
theorem q_4_15 : Cond.code yX5_spreadWays cX5_spreadWays 4 ((Option.none : Option Jvm.ClassFile.FieldType)) ∈ gw := gw_of (in_t4 (List.mem_of_getElem? (i := 15) rfl)) rfl
theorem q_4_150 : Cond.methodLinkNest RX5 347 yX1_draw "WellIsAskedFirst" ∈ nw := nw_of (in_t4 (List.mem_of_getElem? (i := 150) rfl)) rfl
theorem q_4_152 : Cond.instanceMethod yX1_draw ∈ gw := gw_of (in_t4 (List.mem_of_getElem? (i := 152) rfl)) rfl
theorem q_4_153 : Cond.code yX1_draw cX1_draw 2 ((Option.some Jvm.ClassFile.FieldType.int)) ∈ gw := gw_of (in_t4 (List.mem_of_getElem? (i := 153) rfl)) rfl
theorem q_4_154 : Cond.constant RX1 61 1103515245 ∈ gw := gw_of (in_t4 (List.mem_of_getElem? (i := 154) rfl)) rfl
theorem q_4_16 : Cond.methodLink RX5 379 yJ7_fill_53178 ∈ gw := gw_of (in_t4 (List.mem_of_getElem? (i := 16) rfl)) rfl
theorem q_4_167 : Cond.methodLinkNest RX5 357 yX0_dropVoicesFrom "WellIsAskedFirst" ∈ nw := nw_of (in_t4 (List.mem_of_getElem? (i := 167) rfl)) rfl
theorem q_4_169 : Cond.instanceMethod yX0_dropVoicesFrom ∈ gw := gw_of (in_t4 (List.mem_of_getElem? (i := 169) rfl)) rfl
theorem q_4_17 : Cond.methodLink RX5 340 yX5_depthBehind ∈ gw := gw_of (in_t4 (List.mem_of_getElem? (i := 17) rfl)) rfl
theorem q_4_170 : Cond.code yX0_dropVoicesFrom cX0_dropVoicesFrom 3 ((Option.none : Option Jvm.ClassFile.FieldType)) ∈ gw := gw_of (in_t4 (List.mem_of_getElem? (i := 170) rfl)) rfl
theorem q_4_175 : Cond.methodLinkNest RX5 366 yX0_countHolding "WellIsAskedFirst" ∈ nw := nw_of (in_t4 (List.mem_of_getElem? (i := 175) rfl)) rfl
theorem q_4_177 : Cond.instanceMethod yX0_countHolding ∈ gw := gw_of (in_t4 (List.mem_of_getElem? (i := 177) rfl)) rfl
theorem q_4_178 : Cond.code yX0_countHolding cX0_countHolding 3 ((Option.some Jvm.ClassFile.FieldType.int)) ∈ gw := gw_of (in_t4 (List.mem_of_getElem? (i := 178) rfl)) rfl
theorem q_4_18 : Cond.methodLink RX5 402 arraycopyName ∈ gw := gw_of (in_t4 (List.mem_of_getElem? (i := 18) rfl)) rfl
theorem q_4_184 : Cond.methodLink RX6 1 objectInit ∈ gw := gw_of (in_t4 (List.mem_of_getElem? (i := 184) rfl)) rfl
theorem q_4_185 : Cond.classLink RX6 19 "[[J" ∈ gw := gw_of (in_t4 (List.mem_of_getElem? (i := 185) rfl)) rfl
theorem q_4_186 : Cond.arrayOver (.array .long) ∈ nw := nw_of (in_t4 (List.mem_of_getElem? (i := 186) rfl)) rfl
theorem q_4_187 : Cond.classLink RX6 78 "[[Z" ∈ gw := gw_of (in_t4 (List.mem_of_getElem? (i := 187) rfl)) rfl
theorem q_4_188 : Cond.arrayOver (.array .boolean) ∈ nw := nw_of (in_t4 (List.mem_of_getElem? (i := 188) rfl)) rfl
theorem q_4_189 : Cond.fieldLink RX6 7 "WellIsAskedFirstModel" "shelf" "[I" ∈ gw := gw_of (in_t4 (List.mem_of_getElem? (i := 189) rfl)) rfl
theorem q_4_19 : Cond.methodLink RX5 282 yX5_waysToYes ∈ gw := gw_of (in_t4 (List.mem_of_getElem? (i := 19) rfl)) rfl
theorem q_4_190 : Cond.fieldLink RX6 13 "WellIsAskedFirstModel" "rowSort" "[I" ∈ gw := gw_of (in_t4 (List.mem_of_getElem? (i := 190) rfl)) rfl
theorem q_4_191 : Cond.fieldLink RX6 16 "WellIsAskedFirstModel" "rowSize" "[I" ∈ gw := gw_of (in_t4 (List.mem_of_getElem? (i := 191) rfl)) rfl
theorem q_4_192 : Cond.fieldLink RX6 21 "WellIsAskedFirstModel" "rows" "[[J" ∈ gw := gw_of (in_t4 (List.mem_of_getElem? (i := 192) rfl)) rfl
theorem q_4_193 : Cond.fieldLink RX6 24 "WellIsAskedFirstModel" "moved" "[J" ∈ gw := gw_of (in_t4 (List.mem_of_getElem? (i := 193) rfl)) rfl
theorem q_4_194 : Cond.fieldLink RX6 28 "WellIsAskedFirstModel" "shown" "[I" ∈ gw := gw_of (in_t4 (List.mem_of_getElem? (i := 194) rfl)) rfl
theorem q_4_195 : Cond.fieldLink RX6 31 "WellIsAskedFirstModel" "tape" "[I" ∈ gw := gw_of (in_t4 (List.mem_of_getElem? (i := 195) rfl)) rfl
theorem q_4_196 : Cond.fieldLink RX6 149 "WellIsAskedFirstModel" "tapeSize" "I" ∈ gw := gw_of (in_t4 (List.mem_of_getElem? (i := 196) rfl)) rfl
theorem q_4_197 : Cond.fieldLink RX6 34 "WellIsAskedFirstModel" "refused" "[I" ∈ gw := gw_of (in_t4 (List.mem_of_getElem? (i := 197) rfl)) rfl
theorem q_4_198 : Cond.fieldLink RX6 37 "WellIsAskedFirstModel" "depth" "I" ∈ gw := gw_of (in_t4 (List.mem_of_getElem? (i := 198) rfl)) rfl
theorem q_4_199 : Cond.fieldLink RX6 41 "WellIsAskedFirstModel" "rain" "I" ∈ gw := gw_of (in_t4 (List.mem_of_getElem? (i := 199) rfl)) rfl
theorem q_4_2 : Cond.constantLong RX5 393 1099511627776 ∈ gw := gw_of (in_t4 (List.mem_of_getElem? (i := 2) rfl)) rfl
theorem q_4_200 : Cond.fieldLink RX6 141 "WellIsAskedFirstModel" "day" "I" ∈ gw := gw_of (in_t4 (List.mem_of_getElem? (i := 200) rfl)) rfl
theorem q_4_201 : Cond.fieldLink RX6 44 "WellIsAskedFirstModel" "weight" "I" ∈ gw := gw_of (in_t4 (List.mem_of_getElem? (i := 201) rfl)) rfl
theorem q_4_202 : Cond.fieldLink RX6 144 "WellIsAskedFirstModel" "rest" "I" ∈ gw := gw_of (in_t4 (List.mem_of_getElem? (i := 202) rfl)) rfl
theorem q_4_203 : Cond.fieldLink RX6 346 "WellIsAskedFirstModel" "yes" "I" ∈ gw := gw_of (in_t4 (List.mem_of_getElem? (i := 203) rfl)) rfl
theorem q_4_204 : Cond.fieldLink RX6 349 "WellIsAskedFirstModel" "no" "I" ∈ gw := gw_of (in_t4 (List.mem_of_getElem? (i := 204) rfl)) rfl
theorem q_4_205 : Cond.fieldLink RX6 89 "WellIsAskedFirstModel" "voices" "I" ∈ gw := gw_of (in_t4 (List.mem_of_getElem? (i := 205) rfl)) rfl
theorem q_4_206 : Cond.fieldLink RX6 47 "WellIsAskedFirstModel" "kind" "[I" ∈ gw := gw_of (in_t4 (List.mem_of_getElem? (i := 206) rfl)) rfl
theorem q_4_207 : Cond.fieldLink RX6 50 "WellIsAskedFirstModel" "by" "[I" ∈ gw := gw_of (in_t4 (List.mem_of_getElem? (i := 207) rfl)) rfl
theorem q_4_208 : Cond.fieldLink RX6 53 "WellIsAskedFirstModel" "pitch" "[I" ∈ gw := gw_of (in_t4 (List.mem_of_getElem? (i := 208) rfl)) rfl
theorem q_4_209 : Cond.fieldLink RX6 56 "WellIsAskedFirstModel" "seed" "I" ∈ gw := gw_of (in_t4 (List.mem_of_getElem? (i := 209) rfl)) rfl
theorem q_4_21 : Cond.instanceMethod yX5_waysToYes ∈ gw := gw_of (in_t4 (List.mem_of_getElem? (i := 21) rfl)) rfl
theorem q_4_212 : Cond.fieldLink RX6 152 "WellIsAskedFirstModel" "at" "I" ∈ gw := gw_of (in_t4 (List.mem_of_getElem? (i := 212) rfl)) rfl
theorem q_4_213 : Cond.fieldLink RX6 161 "WellIsAskedFirstModel" "token" "I" ∈ gw := gw_of (in_t4 (List.mem_of_getElem? (i := 213) rfl)) rfl
theorem q_4_214 : Cond.fieldLink RX6 155 "WellIsAskedFirstModel" "from" "I" ∈ gw := gw_of (in_t4 (List.mem_of_getElem? (i := 214) rfl)) rfl
theorem q_4_215 : Cond.fieldLink RX6 158 "WellIsAskedFirstModel" "figures" "I" ∈ gw := gw_of (in_t4 (List.mem_of_getElem? (i := 215) rfl)) rfl
theorem q_4_216 : Cond.fieldLink RX6 170 "WellIsAskedFirstModel" "fault" "I" ∈ gw := gw_of (in_t4 (List.mem_of_getElem? (i := 216) rfl)) rfl
theorem q_4_217 : Cond.fieldLink RX6 59 "WellIsAskedFirstModel" "told" "[I" ∈ gw := gw_of (in_t4 (List.mem_of_getElem? (i := 217) rfl)) rfl
theorem q_4_219 : Cond.fieldLink RX6 62 "WellIsAskedFirstModel" "word" "[I" ∈ gw := gw_of (in_t4 (List.mem_of_getElem? (i := 219) rfl)) rfl
theorem q_4_22 : Cond.code yX5_waysToYes cX5_waysToYes 3 ((Option.some Jvm.ClassFile.FieldType.int)) ∈ gw := gw_of (in_t4 (List.mem_of_getElem? (i := 22) rfl)) rfl
theorem q_4_220 : Cond.fieldLink RX6 123 "WellIsAskedFirstModel" "size" "I" ∈ gw := gw_of (in_t4 (List.mem_of_getElem? (i := 220) rfl)) rfl
theorem q_4_221 : Cond.fieldLink RX6 65 "WellIsAskedFirstModel" "heard" "[I" ∈ gw := gw_of (in_t4 (List.mem_of_getElem? (i := 221) rfl)) rfl
theorem q_4_222 : Cond.fieldLink RX6 241 "WellIsAskedFirstModel" "many" "I" ∈ gw := gw_of (in_t4 (List.mem_of_getElem? (i := 222) rfl)) rfl
theorem q_4_223 : Cond.fieldLink RX6 68 "WellIsAskedFirstModel" "other" "[I" ∈ gw := gw_of (in_t4 (List.mem_of_getElem? (i := 223) rfl)) rfl
theorem q_4_224 : Cond.fieldLink RX6 269 "WellIsAskedFirstModel" "wasDepth" "I" ∈ gw := gw_of (in_t4 (List.mem_of_getElem? (i := 224) rfl)) rfl
theorem q_4_225 : Cond.fieldLink RX6 272 "WellIsAskedFirstModel" "wasDay" "I" ∈ gw := gw_of (in_t4 (List.mem_of_getElem? (i := 225) rfl)) rfl
theorem q_4_226 : Cond.fieldLink RX6 275 "WellIsAskedFirstModel" "wasRain" "I" ∈ gw := gw_of (in_t4 (List.mem_of_getElem? (i := 226) rfl)) rfl
theorem q_4_227 : Cond.fieldLink RX6 291 "WellIsAskedFirstModel" "yeses" "J" ∈ gw := gw_of (in_t4 (List.mem_of_getElem? (i := 227) rfl)) rfl
theorem q_4_228 : Cond.fieldLink RX6 295 "WellIsAskedFirstModel" "depths" "J" ∈ gw := gw_of (in_t4 (List.mem_of_getElem? (i := 228) rfl)) rfl
theorem q_4_229 : Cond.fieldLink RX6 309 "WellIsAskedFirstModel" "asked" "I" ∈ gw := gw_of (in_t4 (List.mem_of_getElem? (i := 229) rfl)) rfl
theorem q_4_23 : Cond.methodLink RX5 285 yX5_depthsOfWays ∈ gw := gw_of (in_t4 (List.mem_of_getElem? (i := 23) rfl)) rfl
theorem q_4_230 : Cond.fieldLink RX6 71 "WellIsAskedFirstModel" "may" "[Z" ∈ gw := gw_of (in_t4 (List.mem_of_getElem? (i := 230) rfl)) rfl
theorem q_4_231 : Cond.fieldLink RX6 315 "WellIsAskedFirstModel" "mayBe" "I" ∈ gw := gw_of (in_t4 (List.mem_of_getElem? (i := 231) rfl)) rfl
theorem q_4_232 : Cond.fieldLink RX6 318 "WellIsAskedFirstModel" "least" "I" ∈ gw := gw_of (in_t4 (List.mem_of_getElem? (i := 232) rfl)) rfl
theorem q_4_233 : Cond.fieldLink RX6 321 "WellIsAskedFirstModel" "greatest" "I" ∈ gw := gw_of (in_t4 (List.mem_of_getElem? (i := 233) rfl)) rfl
theorem q_4_234 : Cond.fieldLink RX6 75 "WellIsAskedFirstModel" "sounds" "[I" ∈ gw := gw_of (in_t4 (List.mem_of_getElem? (i := 234) rfl)) rfl
theorem q_4_235 : Cond.fieldLink RX6 80 "WellIsAskedFirstModel" "yesAt" "[[Z" ∈ gw := gw_of (in_t4 (List.mem_of_getElem? (i := 235) rfl)) rfl
theorem q_4_236 : Cond.fieldLink RX6 83 "WellIsAskedFirstModel" "more" "[I" ∈ gw := gw_of (in_t4 (List.mem_of_getElem? (i := 236) rfl)) rfl
theorem q_4_237 : Cond.fieldLink RX6 86 "WellIsAskedFirstModel" "yesBy" "[Z" ∈ gw := gw_of (in_t4 (List.mem_of_getElem? (i := 237) rfl)) rfl
theorem q_4_25 : Cond.instanceMethod yX5_depthsOfWays ∈ gw := gw_of (in_t4 (List.mem_of_getElem? (i := 25) rfl)) rfl
theorem q_4_26 : Cond.code yX5_depthsOfWays cX5_depthsOfWays 3 ((Option.some Jvm.ClassFile.FieldType.int)) ∈ gw := gw_of (in_t4 (List.mem_of_getElem? (i := 26) rfl)) rfl
theorem q_4_3 : Cond.methodLink RX5 274 yX5_firstMoveInto ∈ gw := gw_of (in_t4 (List.mem_of_getElem? (i := 3) rfl)) rfl
theorem q_4_31 : Cond.methodLink RX5 288 yX5_voicesOfYes ∈ gw := gw_of (in_t4 (List.mem_of_getElem? (i := 31) rfl)) rfl
theorem q_4_33 : Cond.instanceMethod yX5_voicesOfYes ∈ gw := gw_of (in_t4 (List.mem_of_getElem? (i := 33) rfl)) rfl
theorem q_4_34 : Cond.code yX5_voicesOfYes cX5_voicesOfYes 5 ((Option.some Jvm.ClassFile.FieldType.int)) ∈ gw := gw_of (in_t4 (List.mem_of_getElem? (i := 34) rfl)) rfl
theorem q_4_43 : Cond.methodLink RX5 297 yX5_findOrder ∈ gw := gw_of (in_t4 (List.mem_of_getElem? (i := 43) rfl)) rfl
theorem q_4_45 : Cond.instanceMethod yX5_findOrder ∈ gw := gw_of (in_t4 (List.mem_of_getElem? (i := 45) rfl)) rfl
theorem q_4_46 : Cond.code yX5_findOrder cX5_findOrder 3 ((Option.none : Option Jvm.ClassFile.FieldType)) ∈ gw := gw_of (in_t4 (List.mem_of_getElem? (i := 46) rfl)) rfl
theorem q_4_47 : Cond.methodLink RX5 306 yJ6_bitCount_0f7a4 ∈ gw := gw_of (in_t4 (List.mem_of_getElem? (i := 47) rfl)) rfl
theorem q_4_48 : Cond.static yJ6_bitCount_0f7a4 ∈ gw := gw_of (in_t4 (List.mem_of_getElem? (i := 48) rfl)) rfl
theorem q_4_49 : Cond.code yJ6_bitCount_0f7a4 cJ6_bitCount_0f7a4 1 ((Option.some Jvm.ClassFile.FieldType.int)) ∈ gw := gw_of (in_t4 (List.mem_of_getElem? (i := 49) rfl)) rfl
theorem q_4_5 : Cond.instanceMethod yX5_firstMoveInto ∈ gw := gw_of (in_t4 (List.mem_of_getElem? (i := 5) rfl)) rfl
theorem q_4_50 : Cond.constant "java/lang/Integer" 265 1431655765 ∈ gw := gw_of (in_t4 (List.mem_of_getElem? (i := 50) rfl)) rfl
theorem q_4_51 : Cond.constant "java/lang/Integer" 266 858993459 ∈ gw := gw_of (in_t4 (List.mem_of_getElem? (i := 51) rfl)) rfl
theorem q_4_52 : Cond.constant "java/lang/Integer" 267 252645135 ∈ gw := gw_of (in_t4 (List.mem_of_getElem? (i := 52) rfl)) rfl
theorem q_4_53 : Cond.methodLink RX5 385 yX5_yesesOfPlace ∈ gw := gw_of (in_t4 (List.mem_of_getElem? (i := 53) rfl)) rfl
theorem q_4_55 : Cond.instanceMethod yX5_yesesOfPlace ∈ gw := gw_of (in_t4 (List.mem_of_getElem? (i := 55) rfl)) rfl
theorem q_4_56 : Cond.code yX5_yesesOfPlace cX5_yesesOfPlace 2 ((Option.some Jvm.ClassFile.FieldType.int)) ∈ gw := gw_of (in_t4 (List.mem_of_getElem? (i := 56) rfl)) rfl
theorem q_4_57 : Cond.methodLink RX5 388 yX5_findNextVoice ∈ gw := gw_of (in_t4 (List.mem_of_getElem? (i := 57) rfl)) rfl
theorem q_4_59 : Cond.instanceMethod yX5_findNextVoice ∈ gw := gw_of (in_t4 (List.mem_of_getElem? (i := 59) rfl)) rfl
theorem q_4_6 : Cond.code yX5_firstMoveInto cX5_firstMoveInto 3 ((Option.some Jvm.ClassFile.FieldType.int)) ∈ gw := gw_of (in_t4 (List.mem_of_getElem? (i := 6) rfl)) rfl
theorem q_4_60 : Cond.code yX5_findNextVoice cX5_findNextVoice 8 ((Option.none : Option Jvm.ClassFile.FieldType)) ∈ gw := gw_of (in_t4 (List.mem_of_getElem? (i := 60) rfl)) rfl
theorem q_4_61 : Cond.methodLink RX5 300 yX5_voiceInOrder ∈ gw := gw_of (in_t4 (List.mem_of_getElem? (i := 61) rfl)) rfl
theorem q_4_63 : Cond.instanceMethod yX5_voiceInOrder ∈ gw := gw_of (in_t4 (List.mem_of_getElem? (i := 63) rfl)) rfl
theorem q_4_64 : Cond.code yX5_voiceInOrder cX5_voiceInOrder 5 ((Option.some Jvm.ClassFile.FieldType.int)) ∈ gw := gw_of (in_t4 (List.mem_of_getElem? (i := 64) rfl)) rfl
theorem q_4_77 : Cond.methodLink RX5 311 yX5_isEchoSize ∈ gw := gw_of (in_t4 (List.mem_of_getElem? (i := 77) rfl)) rfl
theorem q_4_78 : Cond.static yX5_isEchoSize ∈ gw := gw_of (in_t4 (List.mem_of_getElem? (i := 78) rfl)) rfl
theorem q_4_79 : Cond.code yX5_isEchoSize cX5_isEchoSize 1 ((Option.some Jvm.ClassFile.FieldType.boolean)) ∈ gw := gw_of (in_t4 (List.mem_of_getElem? (i := 79) rfl)) rfl
theorem q_4_80 : Cond.methodLink RX5 318 yX5_depthsOfEcho ∈ gw := gw_of (in_t4 (List.mem_of_getElem? (i := 80) rfl)) rfl
theorem q_4_82 : Cond.instanceMethod yX5_depthsOfEcho ∈ gw := gw_of (in_t4 (List.mem_of_getElem? (i := 82) rfl)) rfl
theorem q_4_83 : Cond.code yX5_depthsOfEcho cX5_depthsOfEcho 7 ((Option.some Jvm.ClassFile.FieldType.long)) ∈ gw := gw_of (in_t4 (List.mem_of_getElem? (i := 83) rfl)) rfl
theorem q_4_84 : Cond.methodLink RX5 373 yX5_echoIsRow ∈ gw := gw_of (in_t4 (List.mem_of_getElem? (i := 84) rfl)) rfl
theorem q_4_86 : Cond.instanceMethod yX5_echoIsRow ∈ gw := gw_of (in_t4 (List.mem_of_getElem? (i := 86) rfl)) rfl
theorem q_4_87 : Cond.code yX5_echoIsRow cX5_echoIsRow 4 ((Option.some Jvm.ClassFile.FieldType.boolean)) ∈ gw := gw_of (in_t4 (List.mem_of_getElem? (i := 87) rfl)) rfl
theorem q_4_92 : Cond.methodLink RX5 322 yX5_kindsOfEcho ∈ gw := gw_of (in_t4 (List.mem_of_getElem? (i := 92) rfl)) rfl
theorem q_4_94 : Cond.instanceMethod yX5_kindsOfEcho ∈ gw := gw_of (in_t4 (List.mem_of_getElem? (i := 94) rfl)) rfl
theorem q_4_95 : Cond.code yX5_kindsOfEcho cX5_kindsOfEcho 6 ((Option.some Jvm.ClassFile.FieldType.int)) ∈ gw := gw_of (in_t4 (List.mem_of_getElem? (i := 95) rfl)) rfl
theorem q_4_96 : Cond.methodLink RX5 326 yX5_pitchesOfEcho ∈ gw := gw_of (in_t4 (List.mem_of_getElem? (i := 96) rfl)) rfl
theorem q_4_98 : Cond.instanceMethod yX5_pitchesOfEcho ∈ gw := gw_of (in_t4 (List.mem_of_getElem? (i := 98) rfl)) rfl
theorem q_4_99 : Cond.code yX5_pitchesOfEcho cX5_pitchesOfEcho 6 ((Option.some Jvm.ClassFile.FieldType.int)) ∈ gw := gw_of (in_t4 (List.mem_of_getElem? (i := 99) rfl)) rfl
theorem q_5_102 : Cond.constantLong RX6 96 7 ∈ gw := gw_of (in_t5 (List.mem_of_getElem? (i := 102) rfl)) rfl
theorem q_5_103 : Cond.methodLink RX6 92 yX6_in ∈ gw := gw_of (in_t5 (List.mem_of_getElem? (i := 103) rfl)) rfl
theorem q_5_104 : Cond.static yX6_in ∈ gw := gw_of (in_t5 (List.mem_of_getElem? (i := 104) rfl)) rfl
theorem q_5_105 : Cond.code yX6_in cX6_in 6 ((Option.some Jvm.ClassFile.FieldType.boolean)) ∈ gw := gw_of (in_t5 (List.mem_of_getElem? (i := 105) rfl)) rfl
theorem q_5_106 : Cond.constantLong RX6 98 4 ∈ gw := gw_of (in_t5 (List.mem_of_getElem? (i := 106) rfl)) rfl
theorem q_5_107 : Cond.constantLong RX6 100 40 ∈ gw := gw_of (in_t5 (List.mem_of_getElem? (i := 107) rfl)) rfl
theorem q_5_108 : Cond.methodLink RX6 102 yX6_refuse ∈ gw := gw_of (in_t5 (List.mem_of_getElem? (i := 108) rfl)) rfl
theorem q_5_110 : Cond.instanceMethod yX6_refuse ∈ gw := gw_of (in_t5 (List.mem_of_getElem? (i := 110) rfl)) rfl
theorem q_5_111 : Cond.code yX6_refuse cX6_refuse 2 ((Option.some Jvm.ClassFile.FieldType.int)) ∈ gw := gw_of (in_t5 (List.mem_of_getElem? (i := 111) rfl)) rfl
theorem q_5_116 : Cond.methodLink RX6 106 yX6_noRow ∈ gw := gw_of (in_t5 (List.mem_of_getElem? (i := 116) rfl)) rfl
theorem q_5_118 : Cond.instanceMethod yX6_noRow ∈ gw := gw_of (in_t5 (List.mem_of_getElem? (i := 118) rfl)) rfl
theorem q_5_119 : Cond.code yX6_noRow cX6_noRow 2 ((Option.some Jvm.ClassFile.FieldType.int)) ∈ gw := gw_of (in_t5 (List.mem_of_getElem? (i := 119) rfl)) rfl
theorem q_5_120 : Cond.methodLink RX6 109 yX6_fit ∈ gw := gw_of (in_t5 (List.mem_of_getElem? (i := 120) rfl)) rfl
theorem q_5_121 : Cond.static yX6_fit ∈ gw := gw_of (in_t5 (List.mem_of_getElem? (i := 121) rfl)) rfl
theorem q_5_122 : Cond.code yX6_fit cX6_fit 3 ((Option.some Jvm.ClassFile.FieldType.long)) ∈ gw := gw_of (in_t5 (List.mem_of_getElem? (i := 122) rfl)) rfl
theorem q_5_139 : Cond.methodLink RX6 113 yX6_isVoice ∈ gw := gw_of (in_t5 (List.mem_of_getElem? (i := 139) rfl)) rfl
theorem q_5_141 : Cond.instanceMethod yX6_isVoice ∈ gw := gw_of (in_t5 (List.mem_of_getElem? (i := 141) rfl)) rfl
theorem q_5_142 : Cond.code yX6_isVoice cX6_isVoice 2 ((Option.some Jvm.ClassFile.FieldType.boolean)) ∈ gw := gw_of (in_t5 (List.mem_of_getElem? (i := 142) rfl)) rfl
theorem q_5_147 : Cond.constantLong RX6 117 5 ∈ gw := gw_of (in_t5 (List.mem_of_getElem? (i := 147) rfl)) rfl
theorem q_5_148 : Cond.methodLink RX6 119 yX6_isUnder ∈ gw := gw_of (in_t5 (List.mem_of_getElem? (i := 148) rfl)) rfl
theorem q_5_149 : Cond.static yX6_isUnder ∈ gw := gw_of (in_t5 (List.mem_of_getElem? (i := 149) rfl)) rfl
theorem q_5_150 : Cond.code yX6_isUnder cX6_isUnder 2 ((Option.some Jvm.ClassFile.FieldType.boolean)) ∈ gw := gw_of (in_t5 (List.mem_of_getElem? (i := 150) rfl)) rfl
theorem q_5_151 : Cond.methodLink RX6 126 yX6_sumOf ∈ gw := gw_of (in_t5 (List.mem_of_getElem? (i := 151) rfl)) rfl
theorem q_5_153 : Cond.instanceMethod yX6_sumOf ∈ gw := gw_of (in_t5 (List.mem_of_getElem? (i := 153) rfl)) rfl
theorem q_5_154 : Cond.code yX6_sumOf cX6_sumOf 4 ((Option.some Jvm.ClassFile.FieldType.int)) ∈ gw := gw_of (in_t5 (List.mem_of_getElem? (i := 154) rfl)) rfl
theorem q_5_155 : Cond.methodLink RX6 244 yX6_listen ∈ gw := gw_of (in_t5 (List.mem_of_getElem? (i := 155) rfl)) rfl
theorem q_5_157 : Cond.instanceMethod yX6_listen ∈ gw := gw_of (in_t5 (List.mem_of_getElem? (i := 157) rfl)) rfl
theorem q_5_158 : Cond.code yX6_listen cX6_listen 6 ((Option.none : Option Jvm.ClassFile.FieldType)) ∈ gw := gw_of (in_t5 (List.mem_of_getElem? (i := 158) rfl)) rfl
theorem q_5_159 : Cond.methodLink RX6 234 yX6_comesBack ∈ gw := gw_of (in_t5 (List.mem_of_getElem? (i := 159) rfl)) rfl
theorem q_5_161 : Cond.instanceMethod yX6_comesBack ∈ gw := gw_of (in_t5 (List.mem_of_getElem? (i := 161) rfl)) rfl
theorem q_5_162 : Cond.code yX6_comesBack cX6_comesBack 5 ((Option.some Jvm.ClassFile.FieldType.int)) ∈ gw := gw_of (in_t5 (List.mem_of_getElem? (i := 162) rfl)) rfl
theorem q_5_163 : Cond.methodLink RX6 227 yX6_pitchOf ∈ gw := gw_of (in_t5 (List.mem_of_getElem? (i := 163) rfl)) rfl
theorem q_5_165 : Cond.instanceMethod yX6_pitchOf ∈ gw := gw_of (in_t5 (List.mem_of_getElem? (i := 165) rfl)) rfl
theorem q_5_166 : Cond.code yX6_pitchOf cX6_pitchOf 2 ((Option.some Jvm.ClassFile.FieldType.int)) ∈ gw := gw_of (in_t5 (List.mem_of_getElem? (i := 166) rfl)) rfl
theorem q_5_171 : Cond.constantLong RX6 129 9 ∈ gw := gw_of (in_t5 (List.mem_of_getElem? (i := 171) rfl)) rfl
theorem q_5_172 : Cond.constantLong RX6 131 20 ∈ gw := gw_of (in_t5 (List.mem_of_getElem? (i := 172) rfl)) rfl
theorem q_5_173 : Cond.methodLink RX6 133 yX6_addVoice ∈ gw := gw_of (in_t5 (List.mem_of_getElem? (i := 173) rfl)) rfl
theorem q_5_175 : Cond.instanceMethod yX6_addVoice ∈ gw := gw_of (in_t5 (List.mem_of_getElem? (i := 175) rfl)) rfl
theorem q_5_176 : Cond.code yX6_addVoice cX6_addVoice 4 ((Option.none : Option Jvm.ClassFile.FieldType)) ∈ gw := gw_of (in_t5 (List.mem_of_getElem? (i := 176) rfl)) rfl
theorem q_5_185 : Cond.constantLong RX6 137 2 ∈ gw := gw_of (in_t5 (List.mem_of_getElem? (i := 185) rfl)) rfl
theorem q_5_186 : Cond.constantLong RX6 139 9999 ∈ gw := gw_of (in_t5 (List.mem_of_getElem? (i := 186) rfl)) rfl
theorem q_5_195 : Cond.constantLong RX6 147 255 ∈ gw := gw_of (in_t5 (List.mem_of_getElem? (i := 195) rfl)) rfl
theorem q_5_210 : Cond.methodLink RX6 359 yX6_copied ∈ gw := gw_of (in_t5 (List.mem_of_getElem? (i := 210) rfl)) rfl
theorem q_5_211 : Cond.static yX6_copied ∈ gw := gw_of (in_t5 (List.mem_of_getElem? (i := 211) rfl)) rfl
theorem q_5_212 : Cond.code yX6_copied cX6_copied 3 ((Option.none : Option Jvm.ClassFile.FieldType)) ∈ gw := gw_of (in_t5 (List.mem_of_getElem? (i := 212) rfl)) rfl
theorem q_5_217 : Cond.methodLink RX6 187 yX6_look ∈ gw := gw_of (in_t5 (List.mem_of_getElem? (i := 217) rfl)) rfl
theorem q_5_219 : Cond.instanceMethod yX6_look ∈ gw := gw_of (in_t5 (List.mem_of_getElem? (i := 219) rfl)) rfl
theorem q_5_220 : Cond.code yX6_look cX6_look 1 ((Option.none : Option Jvm.ClassFile.FieldType)) ∈ gw := gw_of (in_t5 (List.mem_of_getElem? (i := 220) rfl)) rfl
theorem q_5_221 : Cond.methodLink RX6 164 yX6_isLetter ∈ gw := gw_of (in_t5 (List.mem_of_getElem? (i := 221) rfl)) rfl
theorem q_5_222 : Cond.static yX6_isLetter ∈ gw := gw_of (in_t5 (List.mem_of_getElem? (i := 222) rfl)) rfl
theorem q_5_223 : Cond.code yX6_isLetter cX6_isLetter 1 ((Option.some Jvm.ClassFile.FieldType.boolean)) ∈ gw := gw_of (in_t5 (List.mem_of_getElem? (i := 223) rfl)) rfl
theorem q_5_224 : Cond.methodLink RX6 167 yX6_isDigit ∈ gw := gw_of (in_t5 (List.mem_of_getElem? (i := 224) rfl)) rfl
theorem q_5_225 : Cond.static yX6_isDigit ∈ gw := gw_of (in_t5 (List.mem_of_getElem? (i := 225) rfl)) rfl
theorem q_5_226 : Cond.code yX6_isDigit cX6_isDigit 1 ((Option.some Jvm.ClassFile.FieldType.boolean)) ∈ gw := gw_of (in_t5 (List.mem_of_getElem? (i := 226) rfl)) rfl
theorem q_5_97 : Cond.arrayClass .boolean ∈ gw := gw_of (in_t5 (List.mem_of_getElem? (i := 97) rfl)) rfl
theorem q_6_100 : Cond.code yX6_held cX6_held 1 ((Option.some Jvm.ClassFile.FieldType.int)) ∈ gw := gw_of (in_t6 (List.mem_of_getElem? (i := 100) rfl)) rfl
theorem q_6_109 : Cond.methodLink RX6 280 yX6_keeps ∈ gw := gw_of (in_t6 (List.mem_of_getElem? (i := 109) rfl)) rfl
theorem q_6_111 : Cond.instanceMethod yX6_keeps ∈ gw := gw_of (in_t6 (List.mem_of_getElem? (i := 111) rfl)) rfl
theorem q_6_112 : Cond.code yX6_keeps cX6_keeps 1 ((Option.none : Option Jvm.ClassFile.FieldType)) ∈ gw := gw_of (in_t6 (List.mem_of_getElem? (i := 112) rfl)) rfl
theorem q_6_113 : Cond.methodLink RX6 283 yX6_passes ∈ gw := gw_of (in_t6 (List.mem_of_getElem? (i := 113) rfl)) rfl
theorem q_6_115 : Cond.instanceMethod yX6_passes ∈ gw := gw_of (in_t6 (List.mem_of_getElem? (i := 115) rfl)) rfl
theorem q_6_116 : Cond.code yX6_passes cX6_passes 1 ((Option.none : Option Jvm.ClassFile.FieldType)) ∈ gw := gw_of (in_t6 (List.mem_of_getElem? (i := 116) rfl)) rfl
theorem q_6_117 : Cond.methodLink RX6 286 yX6_goesBack ∈ gw := gw_of (in_t6 (List.mem_of_getElem? (i := 117) rfl)) rfl
theorem q_6_119 : Cond.instanceMethod yX6_goesBack ∈ gw := gw_of (in_t6 (List.mem_of_getElem? (i := 119) rfl)) rfl
theorem q_6_120 : Cond.code yX6_goesBack cX6_goesBack 1 ((Option.none : Option Jvm.ClassFile.FieldType)) ∈ gw := gw_of (in_t6 (List.mem_of_getElem? (i := 120) rfl)) rfl
theorem q_6_129 : Cond.constantLong RX6 289 60 ∈ gw := gw_of (in_t6 (List.mem_of_getElem? (i := 129) rfl)) rfl
theorem q_6_134 : Cond.methodLink RX6 298 yX6_fans ∈ gw := gw_of (in_t6 (List.mem_of_getElem? (i := 134) rfl)) rfl
theorem q_6_136 : Cond.instanceMethod yX6_fans ∈ gw := gw_of (in_t6 (List.mem_of_getElem? (i := 136) rfl)) rfl
theorem q_6_137 : Cond.code yX6_fans cX6_fans 6 ((Option.none : Option Jvm.ClassFile.FieldType)) ∈ gw := gw_of (in_t6 (List.mem_of_getElem? (i := 137) rfl)) rfl
theorem q_6_138 : Cond.constantLong RX6 302 1000000 ∈ gw := gw_of (in_t6 (List.mem_of_getElem? (i := 138) rfl)) rfl
theorem q_6_139 : Cond.constantLong RX6 304 1000 ∈ gw := gw_of (in_t6 (List.mem_of_getElem? (i := 139) rfl)) rfl
theorem q_6_148 : Cond.methodLink RX6 306 yX6_bits ∈ gw := gw_of (in_t6 (List.mem_of_getElem? (i := 148) rfl)) rfl
theorem q_6_149 : Cond.static yX6_bits ∈ gw := gw_of (in_t6 (List.mem_of_getElem? (i := 149) rfl)) rfl
theorem q_6_150 : Cond.code yX6_bits cX6_bits 3 ((Option.some Jvm.ClassFile.FieldType.int)) ∈ gw := gw_of (in_t6 (List.mem_of_getElem? (i := 150) rfl)) rfl
theorem q_6_171 : Cond.methodLink RX6 312 yX6_finds ∈ gw := gw_of (in_t6 (List.mem_of_getElem? (i := 171) rfl)) rfl
theorem q_6_173 : Cond.instanceMethod yX6_finds ∈ gw := gw_of (in_t6 (List.mem_of_getElem? (i := 173) rfl)) rfl
theorem q_6_174 : Cond.code yX6_finds cX6_finds 4 ((Option.some Jvm.ClassFile.FieldType.boolean)) ∈ gw := gw_of (in_t6 (List.mem_of_getElem? (i := 174) rfl)) rfl
theorem q_6_179 : Cond.methodLink RX6 327 yX6_noWords ∈ gw := gw_of (in_t6 (List.mem_of_getElem? (i := 179) rfl)) rfl
theorem q_6_181 : Cond.instanceMethod yX6_noWords ∈ gw := gw_of (in_t6 (List.mem_of_getElem? (i := 181) rfl)) rfl
theorem q_6_182 : Cond.code yX6_noWords cX6_noWords 8 ((Option.some Jvm.ClassFile.FieldType.int)) ∈ gw := gw_of (in_t6 (List.mem_of_getElem? (i := 182) rfl)) rfl
theorem q_6_183 : Cond.constantLong RX6 254 12 ∈ gw := gw_of (in_t6 (List.mem_of_getElem? (i := 183) rfl)) rfl
theorem q_6_184 : Cond.methodLink RX6 331 yX6_findDepths ∈ gw := gw_of (in_t6 (List.mem_of_getElem? (i := 184) rfl)) rfl
theorem q_6_186 : Cond.instanceMethod yX6_findDepths ∈ gw := gw_of (in_t6 (List.mem_of_getElem? (i := 186) rfl)) rfl
theorem q_6_187 : Cond.code yX6_findDepths cX6_findDepths 4 ((Option.none : Option Jvm.ClassFile.FieldType)) ∈ gw := gw_of (in_t6 (List.mem_of_getElem? (i := 187) rfl)) rfl
theorem q_6_188 : Cond.methodLink RX6 324 yX6_isEcho ∈ gw := gw_of (in_t6 (List.mem_of_getElem? (i := 188) rfl)) rfl
theorem q_6_19 : Cond.constantLong RX6 230 3 ∈ gw := gw_of (in_t6 (List.mem_of_getElem? (i := 19) rfl)) rfl
theorem q_6_190 : Cond.instanceMethod yX6_isEcho ∈ gw := gw_of (in_t6 (List.mem_of_getElem? (i := 190) rfl)) rfl
theorem q_6_191 : Cond.code yX6_isEcho cX6_isEcho 5 ((Option.some Jvm.ClassFile.FieldType.boolean)) ∈ gw := gw_of (in_t6 (List.mem_of_getElem? (i := 191) rfl)) rfl
theorem q_6_2 : Cond.methodLink RX6 190 yX6_number ∈ gw := gw_of (in_t6 (List.mem_of_getElem? (i := 2) rfl)) rfl
theorem q_6_204 : Cond.methodLink RX6 334 yX6_worstBy ∈ gw := gw_of (in_t6 (List.mem_of_getElem? (i := 204) rfl)) rfl
theorem q_6_206 : Cond.instanceMethod yX6_worstBy ∈ gw := gw_of (in_t6 (List.mem_of_getElem? (i := 206) rfl)) rfl
theorem q_6_207 : Cond.code yX6_worstBy cX6_worstBy 7 ((Option.some Jvm.ClassFile.FieldType.int)) ∈ gw := gw_of (in_t6 (List.mem_of_getElem? (i := 207) rfl)) rfl
theorem q_6_212 : Cond.methodLink RX6 337 yX6_findSuits ∈ gw := gw_of (in_t6 (List.mem_of_getElem? (i := 212) rfl)) rfl
theorem q_6_214 : Cond.instanceMethod yX6_findSuits ∈ gw := gw_of (in_t6 (List.mem_of_getElem? (i := 214) rfl)) rfl
theorem q_6_215 : Cond.code yX6_findSuits cX6_findSuits 5 ((Option.none : Option Jvm.ClassFile.FieldType)) ∈ gw := gw_of (in_t6 (List.mem_of_getElem? (i := 215) rfl)) rfl
theorem q_6_220 : Cond.constantLong RX6 344 8 ∈ gw := gw_of (in_t6 (List.mem_of_getElem? (i := 220) rfl)) rfl
theorem q_6_221 : Cond.methodLink RX6 340 yX6_makes ∈ gw := gw_of (in_t6 (List.mem_of_getElem? (i := 221) rfl)) rfl
theorem q_6_223 : Cond.instanceMethod yX6_makes ∈ gw := gw_of (in_t6 (List.mem_of_getElem? (i := 223) rfl)) rfl
theorem q_6_224 : Cond.code yX6_makes cX6_makes 5 ((Option.some Jvm.ClassFile.FieldType.boolean)) ∈ gw := gw_of (in_t6 (List.mem_of_getElem? (i := 224) rfl)) rfl
theorem q_6_233 : Cond.methodLink RX6 352 yX6_shouts ∈ gw := gw_of (in_t6 (List.mem_of_getElem? (i := 233) rfl)) rfl
theorem q_6_235 : Cond.instanceMethod yX6_shouts ∈ gw := gw_of (in_t6 (List.mem_of_getElem? (i := 235) rfl)) rfl
theorem q_6_236 : Cond.code yX6_shouts cX6_shouts 3 ((Option.some Jvm.ClassFile.FieldType.int)) ∈ gw := gw_of (in_t6 (List.mem_of_getElem? (i := 236) rfl)) rfl
theorem q_6_24 : Cond.constantLong RX6 232 39 ∈ gw := gw_of (in_t6 (List.mem_of_getElem? (i := 24) rfl)) rfl
theorem q_6_37 : Cond.methodLink RX6 238 yX6_areTwins ∈ gw := gw_of (in_t6 (List.mem_of_getElem? (i := 37) rfl)) rfl
theorem q_6_39 : Cond.instanceMethod yX6_areTwins ∈ gw := gw_of (in_t6 (List.mem_of_getElem? (i := 39) rfl)) rfl
theorem q_6_4 : Cond.instanceMethod yX6_number ∈ gw := gw_of (in_t6 (List.mem_of_getElem? (i := 4) rfl)) rfl
theorem q_6_40 : Cond.code yX6_areTwins cX6_areTwins 4 ((Option.some Jvm.ClassFile.FieldType.boolean)) ∈ gw := gw_of (in_t6 (List.mem_of_getElem? (i := 40) rfl)) rfl
theorem q_6_49 : Cond.methodLink RX6 256 yX6_noWord ∈ gw := gw_of (in_t6 (List.mem_of_getElem? (i := 49) rfl)) rfl
theorem q_6_5 : Cond.code yX6_number cX6_number 4 ((Option.some Jvm.ClassFile.FieldType.boolean)) ∈ gw := gw_of (in_t6 (List.mem_of_getElem? (i := 5) rfl)) rfl
theorem q_6_51 : Cond.instanceMethod yX6_noWord ∈ gw := gw_of (in_t6 (List.mem_of_getElem? (i := 51) rfl)) rfl
theorem q_6_52 : Cond.code yX6_noWord cX6_noWord 6 ((Option.some Jvm.ClassFile.FieldType.int)) ∈ gw := gw_of (in_t6 (List.mem_of_getElem? (i := 52) rfl)) rfl
theorem q_6_53 : Cond.methodLink RX6 251 yX6_takeWord ∈ gw := gw_of (in_t6 (List.mem_of_getElem? (i := 53) rfl)) rfl
theorem q_6_55 : Cond.instanceMethod yX6_takeWord ∈ gw := gw_of (in_t6 (List.mem_of_getElem? (i := 55) rfl)) rfl
theorem q_6_56 : Cond.code yX6_takeWord cX6_takeWord 4 ((Option.some Jvm.ClassFile.FieldType.int)) ∈ gw := gw_of (in_t6 (List.mem_of_getElem? (i := 56) rfl)) rfl
theorem q_6_6 : Cond.methodLink RX6 183 yX6_wrong ∈ gw := gw_of (in_t6 (List.mem_of_getElem? (i := 6) rfl)) rfl
theorem q_6_65 : Cond.methodLink RX6 248 yX6_weighedOf ∈ gw := gw_of (in_t6 (List.mem_of_getElem? (i := 65) rfl)) rfl
theorem q_6_67 : Cond.instanceMethod yX6_weighedOf ∈ gw := gw_of (in_t6 (List.mem_of_getElem? (i := 67) rfl)) rfl
theorem q_6_68 : Cond.code yX6_weighedOf cX6_weighedOf 3 ((Option.some Jvm.ClassFile.FieldType.int)) ∈ gw := gw_of (in_t6 (List.mem_of_getElem? (i := 68) rfl)) rfl
theorem q_6_73 : Cond.methodLink RX6 263 yX6_yesBits ∈ gw := gw_of (in_t6 (List.mem_of_getElem? (i := 73) rfl)) rfl
theorem q_6_75 : Cond.instanceMethod yX6_yesBits ∈ gw := gw_of (in_t6 (List.mem_of_getElem? (i := 75) rfl)) rfl
theorem q_6_76 : Cond.code yX6_yesBits cX6_yesBits 3 ((Option.some Jvm.ClassFile.FieldType.int)) ∈ gw := gw_of (in_t6 (List.mem_of_getElem? (i := 76) rfl)) rfl
theorem q_6_77 : Cond.methodLink RX6 260 yX6_gets ∈ gw := gw_of (in_t6 (List.mem_of_getElem? (i := 77) rfl)) rfl
theorem q_6_79 : Cond.instanceMethod yX6_gets ∈ gw := gw_of (in_t6 (List.mem_of_getElem? (i := 79) rfl)) rfl
theorem q_6_8 : Cond.instanceMethod yX6_wrong ∈ gw := gw_of (in_t6 (List.mem_of_getElem? (i := 8) rfl)) rfl
theorem q_6_80 : Cond.code yX6_gets cX6_gets 2 ((Option.some Jvm.ClassFile.FieldType.boolean)) ∈ gw := gw_of (in_t6 (List.mem_of_getElem? (i := 80) rfl)) rfl
theorem q_6_9 : Cond.code yX6_wrong cX6_wrong 1 ((Option.some Jvm.ClassFile.FieldType.boolean)) ∈ gw := gw_of (in_t6 (List.mem_of_getElem? (i := 9) rfl)) rfl
theorem q_6_97 : Cond.constantLong RX6 278 200 ∈ gw := gw_of (in_t6 (List.mem_of_getElem? (i := 97) rfl)) rfl
theorem q_6_98 : Cond.methodLink RX6 266 yX6_held ∈ gw := gw_of (in_t6 (List.mem_of_getElem? (i := 98) rfl)) rfl
theorem q_6_99 : Cond.static yX6_held ∈ gw := gw_of (in_t6 (List.mem_of_getElem? (i := 99) rfl)) rfl
theorem q_7_26 : Cond.constantLong RX6 366 16 ∈ gw := gw_of (in_t7 (List.mem_of_getElem? (i := 26) rfl)) rfl
theorem q_7_5 : Cond.methodLink RX6 356 yX6_draw ∈ gw := gw_of (in_t7 (List.mem_of_getElem? (i := 5) rfl)) rfl
theorem q_7_7 : Cond.instanceMethod yX6_draw ∈ gw := gw_of (in_t7 (List.mem_of_getElem? (i := 7) rfl)) rfl
theorem q_7_8 : Cond.code yX6_draw cX6_draw 2 ((Option.some Jvm.ClassFile.FieldType.int)) ∈ gw := gw_of (in_t7 (List.mem_of_getElem? (i := 8) rfl)) rfl
theorem q_7_9 : Cond.constant RX6 355 1103515245 ∈ gw := gw_of (in_t7 (List.mem_of_getElem? (i := 9) rfl)) rfl
theorem q_p1_0 : Cond.selects RX5 yX5_refuse yX5_refuse ∈ gw := gw_of (in_p1 (List.mem_of_getElem? (i := 0) rfl)) rfl
theorem q_p1_1 : Cond.selects RX0 yX0_putRow yX0_putRow ∈ gw := gw_of (in_p1 (List.mem_of_getElem? (i := 1) rfl)) rfl
theorem q_p1_10 : Cond.selects RX5 yX5_isVoice yX5_isVoice ∈ gw := gw_of (in_p1 (List.mem_of_getElem? (i := 10) rfl)) rfl
theorem q_p1_11 : Cond.selects RX0 yX0_putVoice yX0_putVoice ∈ gw := gw_of (in_p1 (List.mem_of_getElem? (i := 11) rfl)) rfl
theorem q_p1_12 : Cond.selects RX1 yX1_kindOf yX1_kindOf ∈ gw := gw_of (in_p1 (List.mem_of_getElem? (i := 12) rfl)) rfl
theorem q_p1_13 : Cond.selects RX1 yX1_pitchOf yX1_pitchOf ∈ gw := gw_of (in_p1 (List.mem_of_getElem? (i := 13) rfl)) rfl
theorem q_p1_14 : Cond.selects RX4 yX4_clear yX4_clear ∈ gw := gw_of (in_p1 (List.mem_of_getElem? (i := 14) rfl)) rfl
theorem q_p1_15 : Cond.selects RX4 yX4_add yX4_add ∈ gw := gw_of (in_p1 (List.mem_of_getElem? (i := 15) rfl)) rfl
theorem q_p1_2 : Cond.selects RX0 yX0_hasVoice yX0_hasVoice ∈ gw := gw_of (in_p1 (List.mem_of_getElem? (i := 2) rfl)) rfl
theorem q_p1_3 : Cond.selects RX0 yX0_holdingOf yX0_holdingOf ∈ gw := gw_of (in_p1 (List.mem_of_getElem? (i := 3) rfl)) rfl
theorem q_p1_4 : Cond.selects RX0 yX0_isBare yX0_isBare ∈ gw := gw_of (in_p1 (List.mem_of_getElem? (i := 4) rfl)) rfl
theorem q_p1_5 : Cond.selects RX0 yX0_hasPlaces yX0_hasPlaces ∈ gw := gw_of (in_p1 (List.mem_of_getElem? (i := 5) rfl)) rfl
theorem q_p1_6 : Cond.selects RX0 yX0_putElement yX0_putElement ∈ gw := gw_of (in_p1 (List.mem_of_getElem? (i := 6) rfl)) rfl
theorem q_p1_7 : Cond.selects RX0 yX0_haveTwoSorts yX0_haveTwoSorts ∈ gw := gw_of (in_p1 (List.mem_of_getElem? (i := 7) rfl)) rfl
theorem q_p1_8 : Cond.selects RX0 yX0_copyElements yX0_copyElements ∈ gw := gw_of (in_p1 (List.mem_of_getElem? (i := 8) rfl)) rfl
theorem q_p1_9 : Cond.selects RX0 yX0_elementAt yX0_elementAt ∈ gw := gw_of (in_p1 (List.mem_of_getElem? (i := 9) rfl)) rfl
theorem q_p2_0 : Cond.selects RX3 yX3_standsFor yX3_standsFor ∈ gw := gw_of (in_p2 (List.mem_of_getElem? (i := 0) rfl)) rfl
theorem q_p2_1 : Cond.selects RX3 yX3_hears yX3_hears ∈ gw := gw_of (in_p2 (List.mem_of_getElem? (i := 1) rfl)) rfl
theorem q_p2_10 : Cond.selects RX1 yX1_addVoice yX1_addVoice ∈ gw := gw_of (in_p2 (List.mem_of_getElem? (i := 10) rfl)) rfl
theorem q_p2_11 : Cond.selects RX1 yX1_putPitch yX1_putPitch ∈ gw := gw_of (in_p2 (List.mem_of_getElem? (i := 11) rfl)) rfl
theorem q_p2_12 : Cond.selects RX2 yX2_hasRoom yX2_hasRoom ∈ gw := gw_of (in_p2 (List.mem_of_getElem? (i := 12) rfl)) rfl
theorem q_p2_13 : Cond.selects RX2 yX2_put yX2_put ∈ gw := gw_of (in_p2 (List.mem_of_getElem? (i := 13) rfl)) rfl
theorem q_p2_14 : Cond.selects RX1 yX1_becomes yX1_becomes ∈ gw := gw_of (in_p2 (List.mem_of_getElem? (i := 14) rfl)) rfl
theorem q_p2_2 : Cond.selects RX4 yX4_soundAt yX4_soundAt ∈ gw := gw_of (in_p2 (List.mem_of_getElem? (i := 2) rfl)) rfl
theorem q_p2_3 : Cond.selects RX3 yX3_hearBack yX3_hearBack ∈ gw := gw_of (in_p2 (List.mem_of_getElem? (i := 3) rfl)) rfl
theorem q_p2_4 : Cond.selects RX3 yX3_returnOf yX3_returnOf ∈ gw := gw_of (in_p2 (List.mem_of_getElem? (i := 4) rfl)) rfl
theorem q_p2_5 : Cond.selects RX3 yX3_pitchToday yX3_pitchToday ∈ gw := gw_of (in_p2 (List.mem_of_getElem? (i := 5) rfl)) rfl
theorem q_p2_6 : Cond.selects RX3 yX3_turnRound yX3_turnRound ∈ gw := gw_of (in_p2 (List.mem_of_getElem? (i := 6) rfl)) rfl
theorem q_p2_7 : Cond.selects RX3 yX3_total yX3_total ∈ gw := gw_of (in_p2 (List.mem_of_getElem? (i := 7) rfl)) rfl
theorem q_p2_8 : Cond.selects RX3 yX3_heardAt yX3_heardAt ∈ gw := gw_of (in_p2 (List.mem_of_getElem? (i := 8) rfl)) rfl
theorem q_p2_9 : Cond.selects RX1 yX1_hasRoom yX1_hasRoom ∈ gw := gw_of (in_p2 (List.mem_of_getElem? (i := 9) rfl)) rfl
theorem q_p3_0 : Cond.selects RX2 yX2_step yX2_step ∈ gw := gw_of (in_p3 (List.mem_of_getElem? (i := 0) rfl)) rfl
theorem q_p3_1 : Cond.selects RX2 yX2_byteAt yX2_byteAt ∈ gw := gw_of (in_p3 (List.mem_of_getElem? (i := 1) rfl)) rfl
theorem q_p3_10 : Cond.selects RX5 yX5_findShortestYes yX5_findShortestYes ∈ gw := gw_of (in_p3 (List.mem_of_getElem? (i := 10) rfl)) rfl
theorem q_p3_11 : Cond.selects RX3 yX3_weighs yX3_weighs ∈ gw := gw_of (in_p3 (List.mem_of_getElem? (i := 11) rfl)) rfl
theorem q_p3_12 : Cond.selects RX5 yX5_takeWord yX5_takeWord ∈ gw := gw_of (in_p3 (List.mem_of_getElem? (i := 12) rfl)) rfl
theorem q_p3_13 : Cond.selects RX5 yX5_takeWordAndRow yX5_takeWordAndRow ∈ gw := gw_of (in_p3 (List.mem_of_getElem? (i := 13) rfl)) rfl
theorem q_p3_14 : Cond.selects RX3 yX3_passDay yX3_passDay ∈ gw := gw_of (in_p3 (List.mem_of_getElem? (i := 14) rfl)) rfl
theorem q_p3_15 : Cond.selects RX5 yX5_depthsOfYes yX5_depthsOfYes ∈ gw := gw_of (in_p3 (List.mem_of_getElem? (i := 15) rfl)) rfl
theorem q_p3_5 : Cond.selects RX2 yX2_readNumber yX2_readNumber ∈ gw := gw_of (in_p3 (List.mem_of_getElem? (i := 5) rfl)) rfl
theorem q_p3_8 : Cond.selects RX1 yX1_aOf yX1_aOf ∈ gw := gw_of (in_p3 (List.mem_of_getElem? (i := 8) rfl)) rfl
theorem q_p3_9 : Cond.selects RX5 yX5_areTwins yX5_areTwins ∈ gw := gw_of (in_p3 (List.mem_of_getElem? (i := 9) rfl)) rfl
theorem q_p4_0 : Cond.selects RX4 yX4_takes yX4_takes ∈ gw := gw_of (in_p4 (List.mem_of_getElem? (i := 0) rfl)) rfl
theorem q_p4_1 : Cond.selects RX3 yX3_passDays yX3_passDays ∈ gw := gw_of (in_p4 (List.mem_of_getElem? (i := 1) rfl)) rfl
theorem q_p4_10 : Cond.selects RX5 yX5_findNextVoice yX5_findNextVoice ∈ gw := gw_of (in_p4 (List.mem_of_getElem? (i := 10) rfl)) rfl
theorem q_p4_11 : Cond.selects RX5 yX5_voiceInOrder yX5_voiceInOrder ∈ gw := gw_of (in_p4 (List.mem_of_getElem? (i := 11) rfl)) rfl
theorem q_p4_12 : Cond.selects RX5 yX5_depthsOfEcho yX5_depthsOfEcho ∈ gw := gw_of (in_p4 (List.mem_of_getElem? (i := 12) rfl)) rfl
theorem q_p4_13 : Cond.selects RX5 yX5_echoIsRow yX5_echoIsRow ∈ gw := gw_of (in_p4 (List.mem_of_getElem? (i := 13) rfl)) rfl
theorem q_p4_14 : Cond.selects RX5 yX5_kindsOfEcho yX5_kindsOfEcho ∈ gw := gw_of (in_p4 (List.mem_of_getElem? (i := 14) rfl)) rfl
theorem q_p4_15 : Cond.selects RX5 yX5_pitchesOfEcho yX5_pitchesOfEcho ∈ gw := gw_of (in_p4 (List.mem_of_getElem? (i := 15) rfl)) rfl
theorem q_p4_2 : Cond.selects RX3 yX3_heardSameAs yX3_heardSameAs ∈ gw := gw_of (in_p4 (List.mem_of_getElem? (i := 2) rfl)) rfl
theorem q_p4_3 : Cond.selects RX5 yX5_firstMoveInto yX5_firstMoveInto ∈ gw := gw_of (in_p4 (List.mem_of_getElem? (i := 3) rfl)) rfl
theorem q_p4_4 : Cond.selects RX5 yX5_spreadWays yX5_spreadWays ∈ gw := gw_of (in_p4 (List.mem_of_getElem? (i := 4) rfl)) rfl
theorem q_p4_5 : Cond.selects RX5 yX5_waysToYes yX5_waysToYes ∈ gw := gw_of (in_p4 (List.mem_of_getElem? (i := 5) rfl)) rfl
theorem q_p4_6 : Cond.selects RX5 yX5_depthsOfWays yX5_depthsOfWays ∈ gw := gw_of (in_p4 (List.mem_of_getElem? (i := 6) rfl)) rfl
theorem q_p4_7 : Cond.selects RX5 yX5_voicesOfYes yX5_voicesOfYes ∈ gw := gw_of (in_p4 (List.mem_of_getElem? (i := 7) rfl)) rfl
theorem q_p4_8 : Cond.selects RX5 yX5_findOrder yX5_findOrder ∈ gw := gw_of (in_p4 (List.mem_of_getElem? (i := 8) rfl)) rfl
theorem q_p4_9 : Cond.selects RX5 yX5_yesesOfPlace yX5_yesesOfPlace ∈ gw := gw_of (in_p4 (List.mem_of_getElem? (i := 9) rfl)) rfl
theorem q_p5_0 : Cond.selects RX5 yX5_mostLeftBehind yX5_mostLeftBehind ∈ gw := gw_of (in_p5 (List.mem_of_getElem? (i := 0) rfl)) rfl
theorem q_p5_1 : Cond.selects RX5 yX5_isSo yX5_isSo ∈ gw := gw_of (in_p5 (List.mem_of_getElem? (i := 1) rfl)) rfl
theorem q_p5_10 : Cond.selects RX6 yX6_sumOf yX6_sumOf ∈ gw := gw_of (in_p5 (List.mem_of_getElem? (i := 10) rfl)) rfl
theorem q_p5_11 : Cond.selects RX6 yX6_listen yX6_listen ∈ gw := gw_of (in_p5 (List.mem_of_getElem? (i := 11) rfl)) rfl
theorem q_p5_12 : Cond.selects RX6 yX6_comesBack yX6_comesBack ∈ gw := gw_of (in_p5 (List.mem_of_getElem? (i := 12) rfl)) rfl
theorem q_p5_13 : Cond.selects RX6 yX6_pitchOf yX6_pitchOf ∈ gw := gw_of (in_p5 (List.mem_of_getElem? (i := 13) rfl)) rfl
theorem q_p5_14 : Cond.selects RX6 yX6_addVoice yX6_addVoice ∈ gw := gw_of (in_p5 (List.mem_of_getElem? (i := 14) rfl)) rfl
theorem q_p5_2 : Cond.selects RX5 yX5_shoutInTruth yX5_shoutInTruth ∈ gw := gw_of (in_p5 (List.mem_of_getElem? (i := 2) rfl)) rfl
theorem q_p5_3 : Cond.selects RX1 yX1_passDay yX1_passDay ∈ gw := gw_of (in_p5 (List.mem_of_getElem? (i := 3) rfl)) rfl
theorem q_p5_4 : Cond.selects RX1 yX1_draw yX1_draw ∈ gw := gw_of (in_p5 (List.mem_of_getElem? (i := 4) rfl)) rfl
theorem q_p5_5 : Cond.selects RX0 yX0_dropVoicesFrom yX0_dropVoicesFrom ∈ gw := gw_of (in_p5 (List.mem_of_getElem? (i := 5) rfl)) rfl
theorem q_p5_6 : Cond.selects RX0 yX0_countHolding yX0_countHolding ∈ gw := gw_of (in_p5 (List.mem_of_getElem? (i := 6) rfl)) rfl
theorem q_p5_7 : Cond.selects RX6 yX6_refuse yX6_refuse ∈ gw := gw_of (in_p5 (List.mem_of_getElem? (i := 7) rfl)) rfl
theorem q_p5_8 : Cond.selects RX6 yX6_noRow yX6_noRow ∈ gw := gw_of (in_p5 (List.mem_of_getElem? (i := 8) rfl)) rfl
theorem q_p5_9 : Cond.selects RX6 yX6_isVoice yX6_isVoice ∈ gw := gw_of (in_p5 (List.mem_of_getElem? (i := 9) rfl)) rfl
theorem q_p6_1 : Cond.selects RX6 yX6_look yX6_look ∈ gw := gw_of (in_p6 (List.mem_of_getElem? (i := 1) rfl)) rfl
theorem q_p6_10 : Cond.selects RX6 yX6_weighedOf yX6_weighedOf ∈ gw := gw_of (in_p6 (List.mem_of_getElem? (i := 10) rfl)) rfl
theorem q_p6_11 : Cond.selects RX6 yX6_yesBits yX6_yesBits ∈ gw := gw_of (in_p6 (List.mem_of_getElem? (i := 11) rfl)) rfl
theorem q_p6_12 : Cond.selects RX6 yX6_gets yX6_gets ∈ gw := gw_of (in_p6 (List.mem_of_getElem? (i := 12) rfl)) rfl
theorem q_p6_13 : Cond.selects RX6 yX6_keeps yX6_keeps ∈ gw := gw_of (in_p6 (List.mem_of_getElem? (i := 13) rfl)) rfl
theorem q_p6_14 : Cond.selects RX6 yX6_passes yX6_passes ∈ gw := gw_of (in_p6 (List.mem_of_getElem? (i := 14) rfl)) rfl
theorem q_p6_15 : Cond.selects RX6 yX6_goesBack yX6_goesBack ∈ gw := gw_of (in_p6 (List.mem_of_getElem? (i := 15) rfl)) rfl
theorem q_p6_5 : Cond.selects RX6 yX6_number yX6_number ∈ gw := gw_of (in_p6 (List.mem_of_getElem? (i := 5) rfl)) rfl
theorem q_p6_6 : Cond.selects RX6 yX6_wrong yX6_wrong ∈ gw := gw_of (in_p6 (List.mem_of_getElem? (i := 6) rfl)) rfl
theorem q_p6_7 : Cond.selects RX6 yX6_areTwins yX6_areTwins ∈ gw := gw_of (in_p6 (List.mem_of_getElem? (i := 7) rfl)) rfl
theorem q_p6_8 : Cond.selects RX6 yX6_noWord yX6_noWord ∈ gw := gw_of (in_p6 (List.mem_of_getElem? (i := 8) rfl)) rfl
theorem q_p6_9 : Cond.selects RX6 yX6_takeWord yX6_takeWord ∈ gw := gw_of (in_p6 (List.mem_of_getElem? (i := 9) rfl)) rfl
theorem q_p7_0 : Cond.selects RX6 yX6_fans yX6_fans ∈ gw := gw_of (in_p7 (List.mem_of_getElem? (i := 0) rfl)) rfl
theorem q_p7_1 : Cond.selects RX6 yX6_finds yX6_finds ∈ gw := gw_of (in_p7 (List.mem_of_getElem? (i := 1) rfl)) rfl
theorem q_p7_2 : Cond.selects RX6 yX6_noWords yX6_noWords ∈ gw := gw_of (in_p7 (List.mem_of_getElem? (i := 2) rfl)) rfl
theorem q_p7_3 : Cond.selects RX6 yX6_findDepths yX6_findDepths ∈ gw := gw_of (in_p7 (List.mem_of_getElem? (i := 3) rfl)) rfl
theorem q_p7_4 : Cond.selects RX6 yX6_isEcho yX6_isEcho ∈ gw := gw_of (in_p7 (List.mem_of_getElem? (i := 4) rfl)) rfl
theorem q_p7_5 : Cond.selects RX6 yX6_worstBy yX6_worstBy ∈ gw := gw_of (in_p7 (List.mem_of_getElem? (i := 5) rfl)) rfl
theorem q_p7_6 : Cond.selects RX6 yX6_findSuits yX6_findSuits ∈ gw := gw_of (in_p7 (List.mem_of_getElem? (i := 6) rfl)) rfl
theorem q_p7_7 : Cond.selects RX6 yX6_makes yX6_makes ∈ gw := gw_of (in_p7 (List.mem_of_getElem? (i := 7) rfl)) rfl
theorem q_p7_8 : Cond.selects RX6 yX6_shouts yX6_shouts ∈ gw := gw_of (in_p7 (List.mem_of_getElem? (i := 8) rfl)) rfl
theorem q_p7_9 : Cond.selects RX6 yX6_draw yX6_draw ∈ gw := gw_of (in_p7 (List.mem_of_getElem? (i := 9) rfl)) rfl
