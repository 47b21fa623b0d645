theorem dX6_init_0 : decode cX6_init 0 = .ok (.aload_n 0, 1) := by decide +kernel
theorem dX6_init_1 : decode cX6_init 1 = .ok (.invokespecial 1, 3) := by decide +kernel
theorem dX6_init_4 : decode cX6_init 4 = .ok (.aload_n 0, 1) := by decide +kernel
theorem dX6_init_5 : decode cX6_init 5 = .ok (.bipush 8, 2) := by decide +kernel
theorem dX6_init_7 : decode cX6_init 7 = .ok (.newarray .int, 2) := by decide +kernel
theorem dX6_init_9 : decode cX6_init 9 = .ok (.putfield 7, 3) := by decide +kernel
theorem dX6_init_12 : decode cX6_init 12 = .ok (.aload_n 0, 1) := by decide +kernel
theorem dX6_init_13 : decode cX6_init 13 = .ok (.bipush 8, 2) := by decide +kernel
theorem dX6_init_15 : decode cX6_init 15 = .ok (.newarray .int, 2) := by decide +kernel
theorem dX6_init_17 : decode cX6_init 17 = .ok (.putfield 13, 3) := by decide +kernel
theorem dX6_init_20 : decode cX6_init 20 = .ok (.aload_n 0, 1) := by decide +kernel
theorem dX6_init_21 : decode cX6_init 21 = .ok (.bipush 8, 2) := by decide +kernel
theorem dX6_init_23 : decode cX6_init 23 = .ok (.newarray .int, 2) := by decide +kernel
theorem dX6_init_25 : decode cX6_init 25 = .ok (.putfield 16, 3) := by decide +kernel
theorem dX6_init_28 : decode cX6_init 28 = .ok (.aload_n 0, 1) := by decide +kernel
theorem dX6_init_29 : decode cX6_init 29 = .ok (.bipush 8, 2) := by decide +kernel
theorem dX6_init_31 : decode cX6_init 31 = .ok (.bipush 40, 2) := by decide +kernel
theorem dX6_init_33 : decode cX6_init 33 = .ok (.multianewarray 19 2, 4) := by decide +kernel
theorem dX6_init_37 : decode cX6_init 37 = .ok (.putfield 21, 3) := by decide +kernel
theorem dX6_init_40 : decode cX6_init 40 = .ok (.aload_n 0, 1) := by decide +kernel
theorem dX6_init_41 : decode cX6_init 41 = .ok (.bipush 40, 2) := by decide +kernel
theorem dX6_init_43 : decode cX6_init 43 = .ok (.newarray .long, 2) := by decide +kernel
theorem dX6_init_45 : decode cX6_init 45 = .ok (.putfield 24, 3) := by decide +kernel
theorem dX6_init_48 : decode cX6_init 48 = .ok (.aload_n 0, 1) := by decide +kernel
theorem dX6_init_49 : decode cX6_init 49 = .ok (.bipush 8, 2) := by decide +kernel
theorem dX6_init_51 : decode cX6_init 51 = .ok (.newarray .int, 2) := by decide +kernel
theorem dX6_init_53 : decode cX6_init 53 = .ok (.putfield 28, 3) := by decide +kernel
theorem dX6_init_56 : decode cX6_init 56 = .ok (.aload_n 0, 1) := by decide +kernel
theorem dX6_init_57 : decode cX6_init 57 = .ok (.sipush 250, 3) := by decide +kernel
theorem dX6_init_60 : decode cX6_init 60 = .ok (.newarray .int, 2) := by decide +kernel
theorem dX6_init_62 : decode cX6_init 62 = .ok (.putfield 31, 3) := by decide +kernel
theorem dX6_init_65 : decode cX6_init 65 = .ok (.aload_n 0, 1) := by decide +kernel
theorem dX6_init_66 : decode cX6_init 66 = .ok (.bipush 8, 2) := by decide +kernel
theorem dX6_init_68 : decode cX6_init 68 = .ok (.newarray .int, 2) := by decide +kernel
theorem dX6_init_70 : decode cX6_init 70 = .ok (.putfield 34, 3) := by decide +kernel
theorem dX6_init_73 : decode cX6_init 73 = .ok (.aload_n 0, 1) := by decide +kernel
theorem dX6_init_74 : decode cX6_init 74 = .ok (.bipush 10, 2) := by decide +kernel
theorem dX6_init_76 : decode cX6_init 76 = .ok (.putfield 37, 3) := by decide +kernel
theorem dX6_init_79 : decode cX6_init 79 = .ok (.aload_n 0, 1) := by decide +kernel
theorem dX6_init_80 : decode cX6_init 80 = .ok (.iconst 1, 1) := by decide +kernel
theorem dX6_init_81 : decode cX6_init 81 = .ok (.putfield 41, 3) := by decide +kernel
theorem dX6_init_84 : decode cX6_init 84 = .ok (.aload_n 0, 1) := by decide +kernel
theorem dX6_init_85 : decode cX6_init 85 = .ok (.iconst 5, 1) := by decide +kernel
theorem dX6_init_86 : decode cX6_init 86 = .ok (.putfield 44, 3) := by decide +kernel
theorem dX6_init_89 : decode cX6_init 89 = .ok (.aload_n 0, 1) := by decide +kernel
theorem dX6_init_90 : decode cX6_init 90 = .ok (.bipush 8, 2) := by decide +kernel
theorem dX6_init_92 : decode cX6_init 92 = .ok (.newarray .int, 2) := by decide +kernel
theorem dX6_init_94 : decode cX6_init 94 = .ok (.putfield 47, 3) := by decide +kernel
theorem dX6_init_97 : decode cX6_init 97 = .ok (.aload_n 0, 1) := by decide +kernel
theorem dX6_init_98 : decode cX6_init 98 = .ok (.bipush 8, 2) := by decide +kernel
theorem dX6_init_100 : decode cX6_init 100 = .ok (.newarray .int, 2) := by decide +kernel
theorem dX6_init_102 : decode cX6_init 102 = .ok (.putfield 50, 3) := by decide +kernel
theorem dX6_init_105 : decode cX6_init 105 = .ok (.aload_n 0, 1) := by decide +kernel
theorem dX6_init_106 : decode cX6_init 106 = .ok (.bipush 8, 2) := by decide +kernel
theorem dX6_init_108 : decode cX6_init 108 = .ok (.newarray .int, 2) := by decide +kernel
theorem dX6_init_110 : decode cX6_init 110 = .ok (.putfield 53, 3) := by decide +kernel
theorem dX6_init_113 : decode cX6_init 113 = .ok (.aload_n 0, 1) := by decide +kernel
theorem dX6_init_114 : decode cX6_init 114 = .ok (.iconst 1, 1) := by decide +kernel
theorem dX6_init_115 : decode cX6_init 115 = .ok (.putfield 56, 3) := by decide +kernel
theorem dX6_init_118 : decode cX6_init 118 = .ok (.aload_n 0, 1) := by decide +kernel
theorem dX6_init_119 : decode cX6_init 119 = .ok (.iconst 4, 1) := by decide +kernel
theorem dX6_init_120 : decode cX6_init 120 = .ok (.newarray .int, 2) := by decide +kernel
theorem dX6_init_122 : decode cX6_init 122 = .ok (.putfield 59, 3) := by decide +kernel
theorem dX6_init_125 : decode cX6_init 125 = .ok (.aload_n 0, 1) := by decide +kernel
theorem dX6_init_126 : decode cX6_init 126 = .ok (.bipush 12, 2) := by decide +kernel
theorem dX6_init_128 : decode cX6_init 128 = .ok (.newarray .int, 2) := by decide +kernel
theorem dX6_init_130 : decode cX6_init 130 = .ok (.putfield 62, 3) := by decide +kernel
theorem dX6_init_133 : decode cX6_init 133 = .ok (.aload_n 0, 1) := by decide +kernel
theorem dX6_init_134 : decode cX6_init 134 = .ok (.bipush 13, 2) := by decide +kernel
theorem dX6_init_136 : decode cX6_init 136 = .ok (.newarray .int, 2) := by decide +kernel
theorem dX6_init_138 : decode cX6_init 138 = .ok (.putfield 65, 3) := by decide +kernel
theorem dX6_init_141 : decode cX6_init 141 = .ok (.aload_n 0, 1) := by decide +kernel
theorem dX6_init_142 : decode cX6_init 142 = .ok (.bipush 13, 2) := by decide +kernel
theorem dX6_init_144 : decode cX6_init 144 = .ok (.newarray .int, 2) := by decide +kernel
theorem dX6_init_146 : decode cX6_init 146 = .ok (.putfield 68, 3) := by decide +kernel
theorem dX6_init_149 : decode cX6_init 149 = .ok (.aload_n 0, 1) := by decide +kernel
theorem dX6_init_150 : decode cX6_init 150 = .ok (.bipush 41, 2) := by decide +kernel
theorem dX6_init_152 : decode cX6_init 152 = .ok (.newarray .boolean, 2) := by decide +kernel
theorem dX6_init_154 : decode cX6_init 154 = .ok (.putfield 71, 3) := by decide +kernel
theorem dX6_init_157 : decode cX6_init 157 = .ok (.aload_n 0, 1) := by decide +kernel
theorem dX6_init_158 : decode cX6_init 158 = .ok (.bipush 41, 2) := by decide +kernel
theorem dX6_init_160 : decode cX6_init 160 = .ok (.newarray .int, 2) := by decide +kernel
theorem dX6_init_162 : decode cX6_init 162 = .ok (.putfield 75, 3) := by decide +kernel
theorem dX6_init_165 : decode cX6_init 165 = .ok (.aload_n 0, 1) := by decide +kernel
theorem dX6_init_166 : decode cX6_init 166 = .ok (.bipush 8, 2) := by decide +kernel
theorem dX6_init_168 : decode cX6_init 168 = .ok (.bipush 8, 2) := by decide +kernel
theorem dX6_init_170 : decode cX6_init 170 = .ok (.multianewarray 78 2, 4) := by decide +kernel
theorem dX6_init_174 : decode cX6_init 174 = .ok (.putfield 80, 3) := by decide +kernel
theorem dX6_init_177 : decode cX6_init 177 = .ok (.aload_n 0, 1) := by decide +kernel
theorem dX6_init_178 : decode cX6_init 178 = .ok (.sipush 256, 3) := by decide +kernel
theorem dX6_init_181 : decode cX6_init 181 = .ok (.newarray .int, 2) := by decide +kernel
theorem dX6_init_183 : decode cX6_init 183 = .ok (.putfield 83, 3) := by decide +kernel
theorem dX6_init_186 : decode cX6_init 186 = .ok (.aload_n 0, 1) := by decide +kernel
theorem dX6_init_187 : decode cX6_init 187 = .ok (.bipush 41, 2) := by decide +kernel
theorem dX6_init_189 : decode cX6_init 189 = .ok (.newarray .boolean, 2) := by decide +kernel
theorem dX6_init_191 : decode cX6_init 191 = .ok (.putfield 86, 3) := by decide +kernel
theorem dX6_init_194 : decode cX6_init 194 = .ok (.return_, 1) := by decide +kernel
theorem dX6_refuse_0 : decode cX6_refuse 0 = .ok (.aload_n 0, 1) := by decide +kernel
theorem dX6_refuse_1 : decode cX6_refuse 1 = .ok (.getfield 34, 3) := by decide +kernel
theorem dX6_refuse_4 : decode cX6_refuse 4 = .ok (.iload_n 1, 1) := by decide +kernel
theorem dX6_refuse_5 : decode cX6_refuse 5 = .ok (.ineg, 1) := by decide +kernel
theorem dX6_refuse_6 : decode cX6_refuse 6 = .ok (.dup2, 1) := by decide +kernel
theorem dX6_refuse_7 : decode cX6_refuse 7 = .ok (.iaload, 1) := by decide +kernel
theorem dX6_refuse_8 : decode cX6_refuse 8 = .ok (.iconst 1, 1) := by decide +kernel
theorem dX6_refuse_9 : decode cX6_refuse 9 = .ok (.iadd, 1) := by decide +kernel
theorem dX6_refuse_10 : decode cX6_refuse 10 = .ok (.iastore, 1) := by decide +kernel
theorem dX6_refuse_11 : decode cX6_refuse 11 = .ok (.iload_n 1, 1) := by decide +kernel
theorem dX6_refuse_12 : decode cX6_refuse 12 = .ok (.ireturn, 1) := by decide +kernel
theorem dX6_in_0 : decode cX6_in 0 = .ok (.lload_n 0, 1) := by decide +kernel
theorem dX6_in_1 : decode cX6_in 1 = .ok (.lload_n 2, 1) := by decide +kernel
theorem dX6_in_2 : decode cX6_in 2 = .ok (.lcmp, 1) := by decide +kernel
theorem dX6_in_3 : decode cX6_in 3 = .ok (.ifCond .lt 14, 3) := by decide +kernel
theorem dX6_in_6 : decode cX6_in 6 = .ok (.lload_n 0, 1) := by decide +kernel
theorem dX6_in_7 : decode cX6_in 7 = .ok (.lload 4, 2) := by decide +kernel
theorem dX6_in_9 : decode cX6_in 9 = .ok (.lcmp, 1) := by decide +kernel
theorem dX6_in_10 : decode cX6_in 10 = .ok (.ifCond .gt 7, 3) := by decide +kernel
theorem dX6_in_13 : decode cX6_in 13 = .ok (.iconst 1, 1) := by decide +kernel
theorem dX6_in_14 : decode cX6_in 14 = .ok (.goto 4, 3) := by decide +kernel
theorem dX6_in_17 : decode cX6_in 17 = .ok (.iconst 0, 1) := by decide +kernel
theorem dX6_in_18 : decode cX6_in 18 = .ok (.ireturn, 1) := by decide +kernel
theorem dX6_isVoice_0 : decode cX6_isVoice 0 = .ok (.iload_n 1, 1) := by decide +kernel
theorem dX6_isVoice_1 : decode cX6_isVoice 1 = .ok (.i2l, 1) := by decide +kernel
theorem dX6_isVoice_2 : decode cX6_isVoice 2 = .ok (.lconst 0, 1) := by decide +kernel
theorem dX6_isVoice_3 : decode cX6_isVoice 3 = .ok (.aload_n 0, 1) := by decide +kernel
theorem dX6_isVoice_4 : decode cX6_isVoice 4 = .ok (.getfield 89, 3) := by decide +kernel
theorem dX6_isVoice_7 : decode cX6_isVoice 7 = .ok (.iconst 1, 1) := by decide +kernel
theorem dX6_isVoice_8 : decode cX6_isVoice 8 = .ok (.isub, 1) := by decide +kernel
theorem dX6_isVoice_9 : decode cX6_isVoice 9 = .ok (.i2l, 1) := by decide +kernel
theorem dX6_isVoice_10 : decode cX6_isVoice 10 = .ok (.invokestatic 92, 3) := by decide +kernel
theorem dX6_isVoice_13 : decode cX6_isVoice 13 = .ok (.ireturn, 1) := by decide +kernel
theorem dX6_bits_0 : decode cX6_bits 0 = .ok (.iconst 0, 1) := by decide +kernel
theorem dX6_bits_1 : decode cX6_bits 1 = .ok (.istore_n 1, 1) := by decide +kernel
theorem dX6_bits_2 : decode cX6_bits 2 = .ok (.iload_n 0, 1) := by decide +kernel
theorem dX6_bits_3 : decode cX6_bits 3 = .ok (.istore_n 2, 1) := by decide +kernel
theorem dX6_bits_4 : decode cX6_bits 4 = .ok (.iload_n 2, 1) := by decide +kernel
theorem dX6_bits_5 : decode cX6_bits 5 = .ok (.ifCond .eq 15, 3) := by decide +kernel
theorem dX6_bits_8 : decode cX6_bits 8 = .ok (.iinc 1 1, 3) := by decide +kernel
theorem dX6_bits_11 : decode cX6_bits 11 = .ok (.iload_n 2, 1) := by decide +kernel
theorem dX6_bits_12 : decode cX6_bits 12 = .ok (.iload_n 2, 1) := by decide +kernel
theorem dX6_bits_13 : decode cX6_bits 13 = .ok (.iconst 1, 1) := by decide +kernel
theorem dX6_bits_14 : decode cX6_bits 14 = .ok (.isub, 1) := by decide +kernel
theorem dX6_bits_15 : decode cX6_bits 15 = .ok (.iand, 1) := by decide +kernel
theorem dX6_bits_16 : decode cX6_bits 16 = .ok (.istore_n 2, 1) := by decide +kernel
theorem dX6_bits_17 : decode cX6_bits 17 = .ok (.goto (-13), 3) := by decide +kernel
theorem dX6_bits_20 : decode cX6_bits 20 = .ok (.iload_n 1, 1) := by decide +kernel
theorem dX6_bits_21 : decode cX6_bits 21 = .ok (.ireturn, 1) := by decide +kernel
theorem dX6_row_0 : decode cX6_row 0 = .ok (.iload_n 1, 1) := by decide +kernel
theorem dX6_row_1 : decode cX6_row 1 = .ok (.i2l, 1) := by decide +kernel
theorem dX6_row_2 : decode cX6_row 2 = .ok (.lconst 0, 1) := by decide +kernel
theorem dX6_row_3 : decode cX6_row 3 = .ok (.ldc2_w 96, 3) := by decide +kernel
theorem dX6_row_6 : decode cX6_row 6 = .ok (.invokestatic 92, 3) := by decide +kernel
theorem dX6_row_9 : decode cX6_row 9 = .ok (.ifCond .eq 27, 3) := by decide +kernel
theorem dX6_row_12 : decode cX6_row 12 = .ok (.iload_n 2, 1) := by decide +kernel
theorem dX6_row_13 : decode cX6_row 13 = .ok (.i2l, 1) := by decide +kernel
theorem dX6_row_14 : decode cX6_row 14 = .ok (.lconst 0, 1) := by decide +kernel
theorem dX6_row_15 : decode cX6_row 15 = .ok (.ldc2_w 98, 3) := by decide +kernel
theorem dX6_row_18 : decode cX6_row 18 = .ok (.invokestatic 92, 3) := by decide +kernel
theorem dX6_row_21 : decode cX6_row 21 = .ok (.ifCond .eq 15, 3) := by decide +kernel
theorem dX6_row_24 : decode cX6_row 24 = .ok (.iload_n 3, 1) := by decide +kernel
theorem dX6_row_25 : decode cX6_row 25 = .ok (.i2l, 1) := by decide +kernel
theorem dX6_row_26 : decode cX6_row 26 = .ok (.lconst 0, 1) := by decide +kernel
theorem dX6_row_27 : decode cX6_row 27 = .ok (.ldc2_w 100, 3) := by decide +kernel
theorem dX6_row_30 : decode cX6_row 30 = .ok (.invokestatic 92, 3) := by decide +kernel
theorem dX6_row_33 : decode cX6_row 33 = .ok (.ifCond .ne 10, 3) := by decide +kernel
theorem dX6_row_36 : decode cX6_row 36 = .ok (.aload_n 0, 1) := by decide +kernel
theorem dX6_row_37 : decode cX6_row 37 = .ok (.bipush (-2), 2) := by decide +kernel
theorem dX6_row_39 : decode cX6_row 39 = .ok (.invokevirtual 102, 3) := by decide +kernel
theorem dX6_row_42 : decode cX6_row 42 = .ok (.ireturn, 1) := by decide +kernel
theorem dX6_row_43 : decode cX6_row 43 = .ok (.aload_n 0, 1) := by decide +kernel
theorem dX6_row_44 : decode cX6_row 44 = .ok (.getfield 7, 3) := by decide +kernel
theorem dX6_row_47 : decode cX6_row 47 = .ok (.iload_n 1, 1) := by decide +kernel
theorem dX6_row_48 : decode cX6_row 48 = .ok (.iconst 1, 1) := by decide +kernel
theorem dX6_row_49 : decode cX6_row 49 = .ok (.iastore, 1) := by decide +kernel
theorem dX6_row_50 : decode cX6_row 50 = .ok (.aload_n 0, 1) := by decide +kernel
theorem dX6_row_51 : decode cX6_row 51 = .ok (.getfield 13, 3) := by decide +kernel
theorem dX6_row_54 : decode cX6_row 54 = .ok (.iload_n 1, 1) := by decide +kernel
theorem dX6_row_55 : decode cX6_row 55 = .ok (.iload_n 2, 1) := by decide +kernel
theorem dX6_row_56 : decode cX6_row 56 = .ok (.iastore, 1) := by decide +kernel
theorem dX6_row_57 : decode cX6_row 57 = .ok (.aload_n 0, 1) := by decide +kernel
theorem dX6_row_58 : decode cX6_row 58 = .ok (.getfield 16, 3) := by decide +kernel
theorem dX6_row_61 : decode cX6_row 61 = .ok (.iload_n 1, 1) := by decide +kernel
theorem dX6_row_62 : decode cX6_row 62 = .ok (.iload_n 3, 1) := by decide +kernel
theorem dX6_row_63 : decode cX6_row 63 = .ok (.iastore, 1) := by decide +kernel
theorem dX6_row_64 : decode cX6_row 64 = .ok (.iconst 0, 1) := by decide +kernel
theorem dX6_row_65 : decode cX6_row 65 = .ok (.istore 4, 2) := by decide +kernel
theorem dX6_row_67 : decode cX6_row 67 = .ok (.iload 4, 2) := by decide +kernel
theorem dX6_row_69 : decode cX6_row 69 = .ok (.bipush 40, 2) := by decide +kernel
theorem dX6_row_71 : decode cX6_row 71 = .ok (.if_icmp .ge 19, 3) := by decide +kernel
theorem dX6_row_74 : decode cX6_row 74 = .ok (.aload_n 0, 1) := by decide +kernel
theorem dX6_row_75 : decode cX6_row 75 = .ok (.getfield 21, 3) := by decide +kernel
theorem dX6_row_78 : decode cX6_row 78 = .ok (.iload_n 1, 1) := by decide +kernel
theorem dX6_row_79 : decode cX6_row 79 = .ok (.aaload, 1) := by decide +kernel
theorem dX6_row_80 : decode cX6_row 80 = .ok (.iload 4, 2) := by decide +kernel
theorem dX6_row_82 : decode cX6_row 82 = .ok (.lconst 0, 1) := by decide +kernel
theorem dX6_row_83 : decode cX6_row 83 = .ok (.lastore, 1) := by decide +kernel
theorem dX6_row_84 : decode cX6_row 84 = .ok (.iinc 4 1, 3) := by decide +kernel
theorem dX6_row_87 : decode cX6_row 87 = .ok (.goto (-20), 3) := by decide +kernel
theorem dX6_row_90 : decode cX6_row 90 = .ok (.iconst 1, 1) := by decide +kernel
theorem dX6_row_91 : decode cX6_row 91 = .ok (.ireturn, 1) := by decide +kernel
theorem dX6_fit_0 : decode cX6_fit 0 = .ok (.iload_n 0, 1) := by decide +kernel
theorem dX6_fit_1 : decode cX6_fit 1 = .ok (.tableswitch 47 0 3 #[31, 36, 41, 45], 31) := by decide +kernel
theorem dX6_fit_32 : decode cX6_fit 32 = .ok (.lload_n 1, 1) := by decide +kernel
theorem dX6_fit_33 : decode cX6_fit 33 = .ok (.l2i, 1) := by decide +kernel
theorem dX6_fit_34 : decode cX6_fit 34 = .ok (.i2b, 1) := by decide +kernel
theorem dX6_fit_35 : decode cX6_fit 35 = .ok (.i2l, 1) := by decide +kernel
theorem dX6_fit_36 : decode cX6_fit 36 = .ok (.lreturn, 1) := by decide +kernel
theorem dX6_fit_37 : decode cX6_fit 37 = .ok (.lload_n 1, 1) := by decide +kernel
theorem dX6_fit_38 : decode cX6_fit 38 = .ok (.l2i, 1) := by decide +kernel
theorem dX6_fit_39 : decode cX6_fit 39 = .ok (.i2s, 1) := by decide +kernel
theorem dX6_fit_40 : decode cX6_fit 40 = .ok (.i2l, 1) := by decide +kernel
theorem dX6_fit_41 : decode cX6_fit 41 = .ok (.lreturn, 1) := by decide +kernel
theorem dX6_fit_42 : decode cX6_fit 42 = .ok (.lload_n 1, 1) := by decide +kernel
theorem dX6_fit_43 : decode cX6_fit 43 = .ok (.l2i, 1) := by decide +kernel
theorem dX6_fit_44 : decode cX6_fit 44 = .ok (.i2l, 1) := by decide +kernel
theorem dX6_fit_45 : decode cX6_fit 45 = .ok (.lreturn, 1) := by decide +kernel
theorem dX6_fit_46 : decode cX6_fit 46 = .ok (.lload_n 1, 1) := by decide +kernel
theorem dX6_fit_47 : decode cX6_fit 47 = .ok (.lreturn, 1) := by decide +kernel
theorem dX6_fit_48 : decode cX6_fit 48 = .ok (.lload_n 1, 1) := by decide +kernel
theorem dX6_fit_49 : decode cX6_fit 49 = .ok (.lconst 0, 1) := by decide +kernel
theorem dX6_fit_50 : decode cX6_fit 50 = .ok (.lcmp, 1) := by decide +kernel
theorem dX6_fit_51 : decode cX6_fit 51 = .ok (.ifCond .eq 7, 3) := by decide +kernel
theorem dX6_fit_54 : decode cX6_fit 54 = .ok (.lconst 1, 1) := by decide +kernel
theorem dX6_fit_55 : decode cX6_fit 55 = .ok (.goto 4, 3) := by decide +kernel
theorem dX6_fit_58 : decode cX6_fit 58 = .ok (.lconst 0, 1) := by decide +kernel
theorem dX6_fit_59 : decode cX6_fit 59 = .ok (.lreturn, 1) := by decide +kernel
theorem dX6_noRow_0 : decode cX6_noRow 0 = .ok (.iload_n 1, 1) := by decide +kernel
theorem dX6_noRow_1 : decode cX6_noRow 1 = .ok (.i2l, 1) := by decide +kernel
theorem dX6_noRow_2 : decode cX6_noRow 2 = .ok (.lconst 0, 1) := by decide +kernel
theorem dX6_noRow_3 : decode cX6_noRow 3 = .ok (.ldc2_w 96, 3) := by decide +kernel
theorem dX6_noRow_6 : decode cX6_noRow 6 = .ok (.invokestatic 92, 3) := by decide +kernel
theorem dX6_noRow_9 : decode cX6_noRow 9 = .ok (.ifCond .ne 10, 3) := by decide +kernel
theorem dX6_noRow_12 : decode cX6_noRow 12 = .ok (.aload_n 0, 1) := by decide +kernel
theorem dX6_noRow_13 : decode cX6_noRow 13 = .ok (.bipush (-2), 2) := by decide +kernel
theorem dX6_noRow_15 : decode cX6_noRow 15 = .ok (.invokevirtual 102, 3) := by decide +kernel
theorem dX6_noRow_18 : decode cX6_noRow 18 = .ok (.ireturn, 1) := by decide +kernel
theorem dX6_noRow_19 : decode cX6_noRow 19 = .ok (.aload_n 0, 1) := by decide +kernel
theorem dX6_noRow_20 : decode cX6_noRow 20 = .ok (.getfield 7, 3) := by decide +kernel
theorem dX6_noRow_23 : decode cX6_noRow 23 = .ok (.iload_n 1, 1) := by decide +kernel
theorem dX6_noRow_24 : decode cX6_noRow 24 = .ok (.iaload, 1) := by decide +kernel
theorem dX6_noRow_25 : decode cX6_noRow 25 = .ok (.iconst 2, 1) := by decide +kernel
theorem dX6_noRow_26 : decode cX6_noRow 26 = .ok (.if_icmp .ne 10, 3) := by decide +kernel
theorem dX6_noRow_29 : decode cX6_noRow 29 = .ok (.aload_n 0, 1) := by decide +kernel
theorem dX6_noRow_30 : decode cX6_noRow 30 = .ok (.bipush (-3), 2) := by decide +kernel
theorem dX6_noRow_32 : decode cX6_noRow 32 = .ok (.invokevirtual 102, 3) := by decide +kernel
theorem dX6_noRow_35 : decode cX6_noRow 35 = .ok (.ireturn, 1) := by decide +kernel
theorem dX6_noRow_36 : decode cX6_noRow 36 = .ok (.aload_n 0, 1) := by decide +kernel
theorem dX6_noRow_37 : decode cX6_noRow 37 = .ok (.getfield 7, 3) := by decide +kernel
theorem dX6_noRow_40 : decode cX6_noRow 40 = .ok (.iload_n 1, 1) := by decide +kernel
theorem dX6_noRow_41 : decode cX6_noRow 41 = .ok (.iaload, 1) := by decide +kernel
theorem dX6_noRow_42 : decode cX6_noRow 42 = .ok (.ifCond .ne 12, 3) := by decide +kernel
theorem dX6_noRow_45 : decode cX6_noRow 45 = .ok (.aload_n 0, 1) := by decide +kernel
theorem dX6_noRow_46 : decode cX6_noRow 46 = .ok (.bipush (-4), 2) := by decide +kernel
theorem dX6_noRow_48 : decode cX6_noRow 48 = .ok (.invokevirtual 102, 3) := by decide +kernel
theorem dX6_noRow_51 : decode cX6_noRow 51 = .ok (.goto 4, 3) := by decide +kernel
theorem dX6_noRow_54 : decode cX6_noRow 54 = .ok (.iconst 0, 1) := by decide +kernel
theorem dX6_noRow_55 : decode cX6_noRow 55 = .ok (.ireturn, 1) := by decide +kernel
theorem dX6_set_0 : decode cX6_set 0 = .ok (.aload_n 0, 1) := by decide +kernel
theorem dX6_set_1 : decode cX6_set 1 = .ok (.iload_n 1, 1) := by decide +kernel
theorem dX6_set_2 : decode cX6_set 2 = .ok (.invokevirtual 106, 3) := by decide +kernel
theorem dX6_set_5 : decode cX6_set 5 = .ok (.istore 5, 2) := by decide +kernel
theorem dX6_set_7 : decode cX6_set 7 = .ok (.iload 5, 2) := by decide +kernel
theorem dX6_set_9 : decode cX6_set 9 = .ok (.ifCond .eq 6, 3) := by decide +kernel
theorem dX6_set_12 : decode cX6_set 12 = .ok (.iload 5, 2) := by decide +kernel
theorem dX6_set_14 : decode cX6_set 14 = .ok (.ireturn, 1) := by decide +kernel
theorem dX6_set_15 : decode cX6_set 15 = .ok (.iload_n 2, 1) := by decide +kernel
theorem dX6_set_16 : decode cX6_set 16 = .ok (.i2l, 1) := by decide +kernel
theorem dX6_set_17 : decode cX6_set 17 = .ok (.lconst 0, 1) := by decide +kernel
theorem dX6_set_18 : decode cX6_set 18 = .ok (.aload_n 0, 1) := by decide +kernel
theorem dX6_set_19 : decode cX6_set 19 = .ok (.getfield 16, 3) := by decide +kernel
theorem dX6_set_22 : decode cX6_set 22 = .ok (.iload_n 1, 1) := by decide +kernel
theorem dX6_set_23 : decode cX6_set 23 = .ok (.iaload, 1) := by decide +kernel
theorem dX6_set_24 : decode cX6_set 24 = .ok (.iconst 1, 1) := by decide +kernel
theorem dX6_set_25 : decode cX6_set 25 = .ok (.isub, 1) := by decide +kernel
theorem dX6_set_26 : decode cX6_set 26 = .ok (.i2l, 1) := by decide +kernel
theorem dX6_set_27 : decode cX6_set 27 = .ok (.invokestatic 92, 3) := by decide +kernel
theorem dX6_set_30 : decode cX6_set 30 = .ok (.ifCond .ne 10, 3) := by decide +kernel
theorem dX6_set_33 : decode cX6_set 33 = .ok (.aload_n 0, 1) := by decide +kernel
theorem dX6_set_34 : decode cX6_set 34 = .ok (.bipush (-2), 2) := by decide +kernel
theorem dX6_set_36 : decode cX6_set 36 = .ok (.invokevirtual 102, 3) := by decide +kernel
theorem dX6_set_39 : decode cX6_set 39 = .ok (.ireturn, 1) := by decide +kernel
theorem dX6_set_40 : decode cX6_set 40 = .ok (.aload_n 0, 1) := by decide +kernel
theorem dX6_set_41 : decode cX6_set 41 = .ok (.getfield 21, 3) := by decide +kernel
theorem dX6_set_44 : decode cX6_set 44 = .ok (.iload_n 1, 1) := by decide +kernel
theorem dX6_set_45 : decode cX6_set 45 = .ok (.aaload, 1) := by decide +kernel
theorem dX6_set_46 : decode cX6_set 46 = .ok (.iload_n 2, 1) := by decide +kernel
theorem dX6_set_47 : decode cX6_set 47 = .ok (.aload_n 0, 1) := by decide +kernel
theorem dX6_set_48 : decode cX6_set 48 = .ok (.getfield 13, 3) := by decide +kernel
theorem dX6_set_51 : decode cX6_set 51 = .ok (.iload_n 1, 1) := by decide +kernel
theorem dX6_set_52 : decode cX6_set 52 = .ok (.iaload, 1) := by decide +kernel
theorem dX6_set_53 : decode cX6_set 53 = .ok (.lload_n 3, 1) := by decide +kernel
theorem dX6_set_54 : decode cX6_set 54 = .ok (.invokestatic 109, 3) := by decide +kernel
theorem dX6_set_57 : decode cX6_set 57 = .ok (.lastore, 1) := by decide +kernel
theorem dX6_set_58 : decode cX6_set 58 = .ok (.iconst 1, 1) := by decide +kernel
theorem dX6_set_59 : decode cX6_set 59 = .ok (.ireturn, 1) := by decide +kernel
theorem dX6_copy_0 : decode cX6_copy 0 = .ok (.iload_n 1, 1) := by decide +kernel
theorem dX6_copy_1 : decode cX6_copy 1 = .ok (.i2l, 1) := by decide +kernel
theorem dX6_copy_2 : decode cX6_copy 2 = .ok (.lconst 0, 1) := by decide +kernel
theorem dX6_copy_3 : decode cX6_copy 3 = .ok (.ldc2_w 96, 3) := by decide +kernel
theorem dX6_copy_6 : decode cX6_copy 6 = .ok (.invokestatic 92, 3) := by decide +kernel
theorem dX6_copy_9 : decode cX6_copy 9 = .ok (.ifCond .eq 15, 3) := by decide +kernel
theorem dX6_copy_12 : decode cX6_copy 12 = .ok (.iload_n 2, 1) := by decide +kernel
theorem dX6_copy_13 : decode cX6_copy 13 = .ok (.i2l, 1) := by decide +kernel
theorem dX6_copy_14 : decode cX6_copy 14 = .ok (.lconst 0, 1) := by decide +kernel
theorem dX6_copy_15 : decode cX6_copy 15 = .ok (.ldc2_w 96, 3) := by decide +kernel
theorem dX6_copy_18 : decode cX6_copy 18 = .ok (.invokestatic 92, 3) := by decide +kernel
theorem dX6_copy_21 : decode cX6_copy 21 = .ok (.ifCond .ne 10, 3) := by decide +kernel
theorem dX6_copy_24 : decode cX6_copy 24 = .ok (.aload_n 0, 1) := by decide +kernel
theorem dX6_copy_25 : decode cX6_copy 25 = .ok (.bipush (-2), 2) := by decide +kernel
theorem dX6_copy_27 : decode cX6_copy 27 = .ok (.invokevirtual 102, 3) := by decide +kernel
theorem dX6_copy_30 : decode cX6_copy 30 = .ok (.ireturn, 1) := by decide +kernel
theorem dX6_copy_31 : decode cX6_copy 31 = .ok (.aload_n 0, 1) := by decide +kernel
theorem dX6_copy_32 : decode cX6_copy 32 = .ok (.getfield 7, 3) := by decide +kernel
theorem dX6_copy_35 : decode cX6_copy 35 = .ok (.iload_n 1, 1) := by decide +kernel
theorem dX6_copy_36 : decode cX6_copy 36 = .ok (.iaload, 1) := by decide +kernel
theorem dX6_copy_37 : decode cX6_copy 37 = .ok (.iconst 2, 1) := by decide +kernel
theorem dX6_copy_38 : decode cX6_copy 38 = .ok (.if_icmp .eq 48, 3) := by decide +kernel
theorem dX6_copy_41 : decode cX6_copy 41 = .ok (.aload_n 0, 1) := by decide +kernel
theorem dX6_copy_42 : decode cX6_copy 42 = .ok (.getfield 7, 3) := by decide +kernel
theorem dX6_copy_45 : decode cX6_copy 45 = .ok (.iload_n 2, 1) := by decide +kernel
theorem dX6_copy_46 : decode cX6_copy 46 = .ok (.iaload, 1) := by decide +kernel
theorem dX6_copy_47 : decode cX6_copy 47 = .ok (.iconst 2, 1) := by decide +kernel
theorem dX6_copy_48 : decode cX6_copy 48 = .ok (.if_icmp .eq 38, 3) := by decide +kernel
theorem dX6_copy_51 : decode cX6_copy 51 = .ok (.aload_n 0, 1) := by decide +kernel
theorem dX6_copy_52 : decode cX6_copy 52 = .ok (.getfield 7, 3) := by decide +kernel
theorem dX6_copy_55 : decode cX6_copy 55 = .ok (.iload_n 1, 1) := by decide +kernel
theorem dX6_copy_56 : decode cX6_copy 56 = .ok (.iaload, 1) := by decide +kernel
theorem dX6_copy_57 : decode cX6_copy 57 = .ok (.iconst 1, 1) := by decide +kernel
theorem dX6_copy_58 : decode cX6_copy 58 = .ok (.if_icmp .ne 35, 3) := by decide +kernel
theorem dX6_copy_61 : decode cX6_copy 61 = .ok (.aload_n 0, 1) := by decide +kernel
theorem dX6_copy_62 : decode cX6_copy 62 = .ok (.getfield 7, 3) := by decide +kernel
theorem dX6_copy_65 : decode cX6_copy 65 = .ok (.iload_n 2, 1) := by decide +kernel
theorem dX6_copy_66 : decode cX6_copy 66 = .ok (.iaload, 1) := by decide +kernel
theorem dX6_copy_67 : decode cX6_copy 67 = .ok (.iconst 1, 1) := by decide +kernel
theorem dX6_copy_68 : decode cX6_copy 68 = .ok (.if_icmp .ne 25, 3) := by decide +kernel
theorem dX6_copy_71 : decode cX6_copy 71 = .ok (.aload_n 0, 1) := by decide +kernel
theorem dX6_copy_72 : decode cX6_copy 72 = .ok (.getfield 13, 3) := by decide +kernel
theorem dX6_copy_75 : decode cX6_copy 75 = .ok (.iload_n 1, 1) := by decide +kernel
theorem dX6_copy_76 : decode cX6_copy 76 = .ok (.iaload, 1) := by decide +kernel
theorem dX6_copy_77 : decode cX6_copy 77 = .ok (.aload_n 0, 1) := by decide +kernel
theorem dX6_copy_78 : decode cX6_copy 78 = .ok (.getfield 13, 3) := by decide +kernel
theorem dX6_copy_81 : decode cX6_copy 81 = .ok (.iload_n 2, 1) := by decide +kernel
theorem dX6_copy_82 : decode cX6_copy 82 = .ok (.iaload, 1) := by decide +kernel
theorem dX6_copy_83 : decode cX6_copy 83 = .ok (.if_icmp .eq 10, 3) := by decide +kernel
theorem dX6_copy_86 : decode cX6_copy 86 = .ok (.aload_n 0, 1) := by decide +kernel
theorem dX6_copy_87 : decode cX6_copy 87 = .ok (.bipush (-3), 2) := by decide +kernel
theorem dX6_copy_89 : decode cX6_copy 89 = .ok (.invokevirtual 102, 3) := by decide +kernel
theorem dX6_copy_92 : decode cX6_copy 92 = .ok (.ireturn, 1) := by decide +kernel
theorem dX6_copy_93 : decode cX6_copy 93 = .ok (.aload_n 0, 1) := by decide +kernel
theorem dX6_copy_94 : decode cX6_copy 94 = .ok (.getfield 7, 3) := by decide +kernel
theorem dX6_copy_97 : decode cX6_copy 97 = .ok (.iload_n 1, 1) := by decide +kernel
theorem dX6_copy_98 : decode cX6_copy 98 = .ok (.iaload, 1) := by decide +kernel
theorem dX6_copy_99 : decode cX6_copy 99 = .ok (.ifCond .eq 12, 3) := by decide +kernel
theorem dX6_copy_102 : decode cX6_copy 102 = .ok (.aload_n 0, 1) := by decide +kernel
theorem dX6_copy_103 : decode cX6_copy 103 = .ok (.getfield 7, 3) := by decide +kernel
theorem dX6_copy_106 : decode cX6_copy 106 = .ok (.iload_n 2, 1) := by decide +kernel
theorem dX6_copy_107 : decode cX6_copy 107 = .ok (.iaload, 1) := by decide +kernel
theorem dX6_copy_108 : decode cX6_copy 108 = .ok (.ifCond .ne 10, 3) := by decide +kernel
theorem dX6_copy_111 : decode cX6_copy 111 = .ok (.aload_n 0, 1) := by decide +kernel
theorem dX6_copy_112 : decode cX6_copy 112 = .ok (.bipush (-4), 2) := by decide +kernel
theorem dX6_copy_114 : decode cX6_copy 114 = .ok (.invokevirtual 102, 3) := by decide +kernel
theorem dX6_copy_117 : decode cX6_copy 117 = .ok (.ireturn, 1) := by decide +kernel
theorem dX6_copy_118 : decode cX6_copy 118 = .ok (.iload 5, 2) := by decide +kernel
theorem dX6_copy_120 : decode cX6_copy 120 = .ok (.ifCond .lt 61, 3) := by decide +kernel
theorem dX6_copy_123 : decode cX6_copy 123 = .ok (.iload_n 3, 1) := by decide +kernel
theorem dX6_copy_124 : decode cX6_copy 124 = .ok (.ifCond .lt 57, 3) := by decide +kernel
theorem dX6_copy_127 : decode cX6_copy 127 = .ok (.iload 4, 2) := by decide +kernel
theorem dX6_copy_129 : decode cX6_copy 129 = .ok (.ifCond .lt 52, 3) := by decide +kernel
theorem dX6_copy_132 : decode cX6_copy 132 = .ok (.iload 5, 2) := by decide +kernel
theorem dX6_copy_134 : decode cX6_copy 134 = .ok (.aload_n 0, 1) := by decide +kernel
theorem dX6_copy_135 : decode cX6_copy 135 = .ok (.getfield 16, 3) := by decide +kernel
theorem dX6_copy_138 : decode cX6_copy 138 = .ok (.iload_n 1, 1) := by decide +kernel
theorem dX6_copy_139 : decode cX6_copy 139 = .ok (.iaload, 1) := by decide +kernel
theorem dX6_copy_140 : decode cX6_copy 140 = .ok (.if_icmp .gt 41, 3) := by decide +kernel
theorem dX6_copy_143 : decode cX6_copy 143 = .ok (.iload 5, 2) := by decide +kernel
theorem dX6_copy_145 : decode cX6_copy 145 = .ok (.aload_n 0, 1) := by decide +kernel
theorem dX6_copy_146 : decode cX6_copy 146 = .ok (.getfield 16, 3) := by decide +kernel
theorem dX6_copy_149 : decode cX6_copy 149 = .ok (.iload_n 2, 1) := by decide +kernel
theorem dX6_copy_150 : decode cX6_copy 150 = .ok (.iaload, 1) := by decide +kernel
theorem dX6_copy_151 : decode cX6_copy 151 = .ok (.if_icmp .gt 30, 3) := by decide +kernel
theorem dX6_copy_154 : decode cX6_copy 154 = .ok (.iload_n 3, 1) := by decide +kernel
theorem dX6_copy_155 : decode cX6_copy 155 = .ok (.aload_n 0, 1) := by decide +kernel
theorem dX6_copy_156 : decode cX6_copy 156 = .ok (.getfield 16, 3) := by decide +kernel
theorem dX6_copy_159 : decode cX6_copy 159 = .ok (.iload_n 1, 1) := by decide +kernel
theorem dX6_copy_160 : decode cX6_copy 160 = .ok (.iaload, 1) := by decide +kernel
theorem dX6_copy_161 : decode cX6_copy 161 = .ok (.iload 5, 2) := by decide +kernel
theorem dX6_copy_163 : decode cX6_copy 163 = .ok (.isub, 1) := by decide +kernel
theorem dX6_copy_164 : decode cX6_copy 164 = .ok (.if_icmp .gt 17, 3) := by decide +kernel
theorem dX6_copy_167 : decode cX6_copy 167 = .ok (.iload 4, 2) := by decide +kernel
theorem dX6_copy_169 : decode cX6_copy 169 = .ok (.aload_n 0, 1) := by decide +kernel
theorem dX6_copy_170 : decode cX6_copy 170 = .ok (.getfield 16, 3) := by decide +kernel
theorem dX6_copy_173 : decode cX6_copy 173 = .ok (.iload_n 2, 1) := by decide +kernel
theorem dX6_copy_174 : decode cX6_copy 174 = .ok (.iaload, 1) := by decide +kernel
theorem dX6_copy_175 : decode cX6_copy 175 = .ok (.iload 5, 2) := by decide +kernel
theorem dX6_copy_177 : decode cX6_copy 177 = .ok (.isub, 1) := by decide +kernel
theorem dX6_copy_178 : decode cX6_copy 178 = .ok (.if_icmp .le 10, 3) := by decide +kernel
theorem dX6_copy_181 : decode cX6_copy 181 = .ok (.aload_n 0, 1) := by decide +kernel
theorem dX6_copy_182 : decode cX6_copy 182 = .ok (.bipush (-2), 2) := by decide +kernel
theorem dX6_copy_184 : decode cX6_copy 184 = .ok (.invokevirtual 102, 3) := by decide +kernel
theorem dX6_copy_187 : decode cX6_copy 187 = .ok (.ireturn, 1) := by decide +kernel
theorem dX6_copy_188 : decode cX6_copy 188 = .ok (.iconst 0, 1) := by decide +kernel
theorem dX6_copy_189 : decode cX6_copy 189 = .ok (.istore 6, 2) := by decide +kernel
theorem dX6_copy_191 : decode cX6_copy 191 = .ok (.iload 6, 2) := by decide +kernel
theorem dX6_copy_193 : decode cX6_copy 193 = .ok (.iload 5, 2) := by decide +kernel
theorem dX6_copy_195 : decode cX6_copy 195 = .ok (.if_icmp .ge 27, 3) := by decide +kernel
theorem dX6_copy_198 : decode cX6_copy 198 = .ok (.aload_n 0, 1) := by decide +kernel
theorem dX6_copy_199 : decode cX6_copy 199 = .ok (.getfield 24, 3) := by decide +kernel
theorem dX6_copy_202 : decode cX6_copy 202 = .ok (.iload 6, 2) := by decide +kernel
theorem dX6_copy_204 : decode cX6_copy 204 = .ok (.aload_n 0, 1) := by decide +kernel
theorem dX6_copy_205 : decode cX6_copy 205 = .ok (.getfield 21, 3) := by decide +kernel
theorem dX6_copy_208 : decode cX6_copy 208 = .ok (.iload_n 1, 1) := by decide +kernel
theorem dX6_copy_209 : decode cX6_copy 209 = .ok (.aaload, 1) := by decide +kernel
theorem dX6_copy_210 : decode cX6_copy 210 = .ok (.iload_n 3, 1) := by decide +kernel
theorem dX6_copy_211 : decode cX6_copy 211 = .ok (.iload 6, 2) := by decide +kernel
theorem dX6_copy_213 : decode cX6_copy 213 = .ok (.iadd, 1) := by decide +kernel
theorem dX6_copy_214 : decode cX6_copy 214 = .ok (.laload, 1) := by decide +kernel
theorem dX6_copy_215 : decode cX6_copy 215 = .ok (.lastore, 1) := by decide +kernel
theorem dX6_copy_216 : decode cX6_copy 216 = .ok (.iinc 6 1, 3) := by decide +kernel
theorem dX6_copy_219 : decode cX6_copy 219 = .ok (.goto (-28), 3) := by decide +kernel
theorem dX6_copy_222 : decode cX6_copy 222 = .ok (.iconst 0, 1) := by decide +kernel
theorem dX6_copy_223 : decode cX6_copy 223 = .ok (.istore 6, 2) := by decide +kernel
theorem dX6_copy_225 : decode cX6_copy 225 = .ok (.iload 6, 2) := by decide +kernel
theorem dX6_copy_227 : decode cX6_copy 227 = .ok (.iload 5, 2) := by decide +kernel
theorem dX6_copy_229 : decode cX6_copy 229 = .ok (.if_icmp .ge 28, 3) := by decide +kernel
theorem dX6_copy_232 : decode cX6_copy 232 = .ok (.aload_n 0, 1) := by decide +kernel
theorem dX6_copy_233 : decode cX6_copy 233 = .ok (.getfield 21, 3) := by decide +kernel
theorem dX6_copy_236 : decode cX6_copy 236 = .ok (.iload_n 2, 1) := by decide +kernel
theorem dX6_copy_237 : decode cX6_copy 237 = .ok (.aaload, 1) := by decide +kernel
theorem dX6_copy_238 : decode cX6_copy 238 = .ok (.iload 4, 2) := by decide +kernel
theorem dX6_copy_240 : decode cX6_copy 240 = .ok (.iload 6, 2) := by decide +kernel
theorem dX6_copy_242 : decode cX6_copy 242 = .ok (.iadd, 1) := by decide +kernel
theorem dX6_copy_243 : decode cX6_copy 243 = .ok (.aload_n 0, 1) := by decide +kernel
theorem dX6_copy_244 : decode cX6_copy 244 = .ok (.getfield 24, 3) := by decide +kernel
theorem dX6_copy_247 : decode cX6_copy 247 = .ok (.iload 6, 2) := by decide +kernel
theorem dX6_copy_249 : decode cX6_copy 249 = .ok (.laload, 1) := by decide +kernel
theorem dX6_copy_250 : decode cX6_copy 250 = .ok (.lastore, 1) := by decide +kernel
theorem dX6_copy_251 : decode cX6_copy 251 = .ok (.iinc 6 1, 3) := by decide +kernel
theorem dX6_copy_254 : decode cX6_copy 254 = .ok (.goto (-29), 3) := by decide +kernel
theorem dX6_copy_257 : decode cX6_copy 257 = .ok (.iload 5, 2) := by decide +kernel
theorem dX6_copy_259 : decode cX6_copy 259 = .ok (.ireturn, 1) := by decide +kernel
theorem dX6_element_0 : decode cX6_element 0 = .ok (.iload_n 1, 1) := by decide +kernel
theorem dX6_element_1 : decode cX6_element 1 = .ok (.i2l, 1) := by decide +kernel
theorem dX6_element_2 : decode cX6_element 2 = .ok (.lconst 0, 1) := by decide +kernel
theorem dX6_element_3 : decode cX6_element 3 = .ok (.ldc2_w 96, 3) := by decide +kernel
theorem dX6_element_6 : decode cX6_element 6 = .ok (.invokestatic 92, 3) := by decide +kernel
theorem dX6_element_9 : decode cX6_element 9 = .ok (.ifCond .eq 42, 3) := by decide +kernel
theorem dX6_element_12 : decode cX6_element 12 = .ok (.aload_n 0, 1) := by decide +kernel
theorem dX6_element_13 : decode cX6_element 13 = .ok (.getfield 7, 3) := by decide +kernel
theorem dX6_element_16 : decode cX6_element 16 = .ok (.iload_n 1, 1) := by decide +kernel
theorem dX6_element_17 : decode cX6_element 17 = .ok (.iaload, 1) := by decide +kernel
theorem dX6_element_18 : decode cX6_element 18 = .ok (.iconst 1, 1) := by decide +kernel
theorem dX6_element_19 : decode cX6_element 19 = .ok (.if_icmp .ne 32, 3) := by decide +kernel
theorem dX6_element_22 : decode cX6_element 22 = .ok (.iload_n 2, 1) := by decide +kernel
theorem dX6_element_23 : decode cX6_element 23 = .ok (.i2l, 1) := by decide +kernel
theorem dX6_element_24 : decode cX6_element 24 = .ok (.lconst 0, 1) := by decide +kernel
theorem dX6_element_25 : decode cX6_element 25 = .ok (.aload_n 0, 1) := by decide +kernel
theorem dX6_element_26 : decode cX6_element 26 = .ok (.getfield 16, 3) := by decide +kernel
theorem dX6_element_29 : decode cX6_element 29 = .ok (.iload_n 1, 1) := by decide +kernel
theorem dX6_element_30 : decode cX6_element 30 = .ok (.iaload, 1) := by decide +kernel
theorem dX6_element_31 : decode cX6_element 31 = .ok (.iconst 1, 1) := by decide +kernel
theorem dX6_element_32 : decode cX6_element 32 = .ok (.isub, 1) := by decide +kernel
theorem dX6_element_33 : decode cX6_element 33 = .ok (.i2l, 1) := by decide +kernel
theorem dX6_element_34 : decode cX6_element 34 = .ok (.invokestatic 92, 3) := by decide +kernel
theorem dX6_element_37 : decode cX6_element 37 = .ok (.ifCond .eq 14, 3) := by decide +kernel
theorem dX6_element_40 : decode cX6_element 40 = .ok (.aload_n 0, 1) := by decide +kernel
theorem dX6_element_41 : decode cX6_element 41 = .ok (.getfield 21, 3) := by decide +kernel
theorem dX6_element_44 : decode cX6_element 44 = .ok (.iload_n 1, 1) := by decide +kernel
theorem dX6_element_45 : decode cX6_element 45 = .ok (.aaload, 1) := by decide +kernel
theorem dX6_element_46 : decode cX6_element 46 = .ok (.iload_n 2, 1) := by decide +kernel
theorem dX6_element_47 : decode cX6_element 47 = .ok (.laload, 1) := by decide +kernel
theorem dX6_element_48 : decode cX6_element 48 = .ok (.goto 4, 3) := by decide +kernel
theorem dX6_element_51 : decode cX6_element 51 = .ok (.lconst 0, 1) := by decide +kernel
theorem dX6_element_52 : decode cX6_element 52 = .ok (.lreturn, 1) := by decide +kernel
theorem dX6_holds_0 : decode cX6_holds 0 = .ok (.iload_n 1, 1) := by decide +kernel
theorem dX6_holds_1 : decode cX6_holds 1 = .ok (.i2l, 1) := by decide +kernel
theorem dX6_holds_2 : decode cX6_holds 2 = .ok (.lconst 0, 1) := by decide +kernel
theorem dX6_holds_3 : decode cX6_holds 3 = .ok (.ldc2_w 96, 3) := by decide +kernel
theorem dX6_holds_6 : decode cX6_holds 6 = .ok (.invokestatic 92, 3) := by decide +kernel
theorem dX6_holds_9 : decode cX6_holds 9 = .ok (.ifCond .eq 12, 3) := by decide +kernel
theorem dX6_holds_12 : decode cX6_holds 12 = .ok (.aload_n 0, 1) := by decide +kernel
theorem dX6_holds_13 : decode cX6_holds 13 = .ok (.getfield 7, 3) := by decide +kernel
theorem dX6_holds_16 : decode cX6_holds 16 = .ok (.iload_n 1, 1) := by decide +kernel
theorem dX6_holds_17 : decode cX6_holds 17 = .ok (.iaload, 1) := by decide +kernel
theorem dX6_holds_18 : decode cX6_holds 18 = .ok (.ifCond .ne 5, 3) := by decide +kernel
theorem dX6_holds_21 : decode cX6_holds 21 = .ok (.iconst (-1), 1) := by decide +kernel
theorem dX6_holds_22 : decode cX6_holds 22 = .ok (.ireturn, 1) := by decide +kernel
theorem dX6_holds_23 : decode cX6_holds 23 = .ok (.aload_n 0, 1) := by decide +kernel
theorem dX6_holds_24 : decode cX6_holds 24 = .ok (.getfield 7, 3) := by decide +kernel
theorem dX6_holds_27 : decode cX6_holds 27 = .ok (.iload_n 1, 1) := by decide +kernel
theorem dX6_holds_28 : decode cX6_holds 28 = .ok (.iaload, 1) := by decide +kernel
theorem dX6_holds_29 : decode cX6_holds 29 = .ok (.iconst 1, 1) := by decide +kernel
theorem dX6_holds_30 : decode cX6_holds 30 = .ok (.if_icmp .ne 12, 3) := by decide +kernel
theorem dX6_holds_33 : decode cX6_holds 33 = .ok (.aload_n 0, 1) := by decide +kernel
theorem dX6_holds_34 : decode cX6_holds 34 = .ok (.getfield 13, 3) := by decide +kernel
theorem dX6_holds_37 : decode cX6_holds 37 = .ok (.iload_n 1, 1) := by decide +kernel
theorem dX6_holds_38 : decode cX6_holds 38 = .ok (.iaload, 1) := by decide +kernel
theorem dX6_holds_39 : decode cX6_holds 39 = .ok (.goto 12, 3) := by decide +kernel
theorem dX6_holds_42 : decode cX6_holds 42 = .ok (.bipush 10, 2) := by decide +kernel
theorem dX6_holds_44 : decode cX6_holds 44 = .ok (.aload_n 0, 1) := by decide +kernel
theorem dX6_holds_45 : decode cX6_holds 45 = .ok (.getfield 28, 3) := by decide +kernel
theorem dX6_holds_48 : decode cX6_holds 48 = .ok (.iload_n 1, 1) := by decide +kernel
theorem dX6_holds_49 : decode cX6_holds 49 = .ok (.iaload, 1) := by decide +kernel
theorem dX6_holds_50 : decode cX6_holds 50 = .ok (.iadd, 1) := by decide +kernel
theorem dX6_holds_51 : decode cX6_holds 51 = .ok (.ireturn, 1) := by decide +kernel
theorem dX6_show_0 : decode cX6_show 0 = .ok (.iload_n 1, 1) := by decide +kernel
theorem dX6_show_1 : decode cX6_show 1 = .ok (.i2l, 1) := by decide +kernel
theorem dX6_show_2 : decode cX6_show 2 = .ok (.lconst 0, 1) := by decide +kernel
theorem dX6_show_3 : decode cX6_show 3 = .ok (.ldc2_w 96, 3) := by decide +kernel
theorem dX6_show_6 : decode cX6_show 6 = .ok (.invokestatic 92, 3) := by decide +kernel
theorem dX6_show_9 : decode cX6_show 9 = .ok (.ifCond .eq 16, 3) := by decide +kernel
theorem dX6_show_12 : decode cX6_show 12 = .ok (.iload_n 2, 1) := by decide +kernel
theorem dX6_show_13 : decode cX6_show 13 = .ok (.iconst (-1), 1) := by decide +kernel
theorem dX6_show_14 : decode cX6_show 14 = .ok (.if_icmp .eq 18, 3) := by decide +kernel
theorem dX6_show_17 : decode cX6_show 17 = .ok (.aload_n 0, 1) := by decide +kernel
theorem dX6_show_18 : decode cX6_show 18 = .ok (.iload_n 2, 1) := by decide +kernel
theorem dX6_show_19 : decode cX6_show 19 = .ok (.invokevirtual 113, 3) := by decide +kernel
theorem dX6_show_22 : decode cX6_show 22 = .ok (.ifCond .ne 10, 3) := by decide +kernel
theorem dX6_show_25 : decode cX6_show 25 = .ok (.aload_n 0, 1) := by decide +kernel
theorem dX6_show_26 : decode cX6_show 26 = .ok (.bipush (-2), 2) := by decide +kernel
theorem dX6_show_28 : decode cX6_show 28 = .ok (.invokevirtual 102, 3) := by decide +kernel
theorem dX6_show_31 : decode cX6_show 31 = .ok (.ireturn, 1) := by decide +kernel
theorem dX6_show_32 : decode cX6_show 32 = .ok (.aload_n 0, 1) := by decide +kernel
theorem dX6_show_33 : decode cX6_show 33 = .ok (.getfield 7, 3) := by decide +kernel
theorem dX6_show_36 : decode cX6_show 36 = .ok (.iload_n 1, 1) := by decide +kernel
theorem dX6_show_37 : decode cX6_show 37 = .ok (.iload_n 2, 1) := by decide +kernel
theorem dX6_show_38 : decode cX6_show 38 = .ok (.iconst (-1), 1) := by decide +kernel
theorem dX6_show_39 : decode cX6_show 39 = .ok (.if_icmp .ne 7, 3) := by decide +kernel
theorem dX6_show_42 : decode cX6_show 42 = .ok (.iconst 0, 1) := by decide +kernel
theorem dX6_show_43 : decode cX6_show 43 = .ok (.goto 4, 3) := by decide +kernel
theorem dX6_show_46 : decode cX6_show 46 = .ok (.iconst 2, 1) := by decide +kernel
theorem dX6_show_47 : decode cX6_show 47 = .ok (.iastore, 1) := by decide +kernel
theorem dX6_show_48 : decode cX6_show 48 = .ok (.aload_n 0, 1) := by decide +kernel
theorem dX6_show_49 : decode cX6_show 49 = .ok (.getfield 28, 3) := by decide +kernel
theorem dX6_show_52 : decode cX6_show 52 = .ok (.iload_n 1, 1) := by decide +kernel
theorem dX6_show_53 : decode cX6_show 53 = .ok (.iload_n 2, 1) := by decide +kernel
theorem dX6_show_54 : decode cX6_show 54 = .ok (.iastore, 1) := by decide +kernel
theorem dX6_show_55 : decode cX6_show 55 = .ok (.iconst 1, 1) := by decide +kernel
theorem dX6_show_56 : decode cX6_show 56 = .ok (.ireturn, 1) := by decide +kernel
theorem dX6_isUnder_0 : decode cX6_isUnder 0 = .ok (.iload_n 1, 1) := by decide +kernel
theorem dX6_isUnder_1 : decode cX6_isUnder 1 = .ok (.ifCond .eq 28, 3) := by decide +kernel
theorem dX6_isUnder_4 : decode cX6_isUnder 4 = .ok (.iload_n 0, 1) := by decide +kernel
theorem dX6_isUnder_5 : decode cX6_isUnder 5 = .ok (.iload_n 1, 1) := by decide +kernel
theorem dX6_isUnder_6 : decode cX6_isUnder 6 = .ok (.if_icmp .eq 23, 3) := by decide +kernel
theorem dX6_isUnder_9 : decode cX6_isUnder 9 = .ok (.iload_n 1, 1) := by decide +kernel
theorem dX6_isUnder_10 : decode cX6_isUnder 10 = .ok (.iconst 1, 1) := by decide +kernel
theorem dX6_isUnder_11 : decode cX6_isUnder 11 = .ok (.if_icmp .ne 8, 3) := by decide +kernel
theorem dX6_isUnder_14 : decode cX6_isUnder 14 = .ok (.iload_n 0, 1) := by decide +kernel
theorem dX6_isUnder_15 : decode cX6_isUnder 15 = .ok (.iconst 3, 1) := by decide +kernel
theorem dX6_isUnder_16 : decode cX6_isUnder 16 = .ok (.if_icmp .eq 13, 3) := by decide +kernel
theorem dX6_isUnder_19 : decode cX6_isUnder 19 = .ok (.iload_n 1, 1) := by decide +kernel
theorem dX6_isUnder_20 : decode cX6_isUnder 20 = .ok (.iconst 2, 1) := by decide +kernel
theorem dX6_isUnder_21 : decode cX6_isUnder 21 = .ok (.if_icmp .ne 12, 3) := by decide +kernel
theorem dX6_isUnder_24 : decode cX6_isUnder 24 = .ok (.iload_n 0, 1) := by decide +kernel
theorem dX6_isUnder_25 : decode cX6_isUnder 25 = .ok (.iconst 4, 1) := by decide +kernel
theorem dX6_isUnder_26 : decode cX6_isUnder 26 = .ok (.if_icmp .ne 7, 3) := by decide +kernel
theorem dX6_isUnder_29 : decode cX6_isUnder 29 = .ok (.iconst 1, 1) := by decide +kernel
theorem dX6_isUnder_30 : decode cX6_isUnder 30 = .ok (.goto 4, 3) := by decide +kernel
theorem dX6_isUnder_33 : decode cX6_isUnder 33 = .ok (.iconst 0, 1) := by decide +kernel
theorem dX6_isUnder_34 : decode cX6_isUnder 34 = .ok (.ireturn, 1) := by decide +kernel
theorem dX6_says_0 : decode cX6_says 0 = .ok (.iload_n 1, 1) := by decide +kernel
theorem dX6_says_1 : decode cX6_says 1 = .ok (.i2l, 1) := by decide +kernel
theorem dX6_says_2 : decode cX6_says 2 = .ok (.lconst 0, 1) := by decide +kernel
theorem dX6_says_3 : decode cX6_says 3 = .ok (.ldc2_w 96, 3) := by decide +kernel
theorem dX6_says_6 : decode cX6_says 6 = .ok (.invokestatic 92, 3) := by decide +kernel
theorem dX6_says_9 : decode cX6_says 9 = .ok (.ifCond .eq 15, 3) := by decide +kernel
theorem dX6_says_12 : decode cX6_says 12 = .ok (.iload_n 2, 1) := by decide +kernel
theorem dX6_says_13 : decode cX6_says 13 = .ok (.i2l, 1) := by decide +kernel
theorem dX6_says_14 : decode cX6_says 14 = .ok (.lconst 0, 1) := by decide +kernel
theorem dX6_says_15 : decode cX6_says 15 = .ok (.ldc2_w 117, 3) := by decide +kernel
theorem dX6_says_18 : decode cX6_says 18 = .ok (.invokestatic 92, 3) := by decide +kernel
theorem dX6_says_21 : decode cX6_says 21 = .ok (.ifCond .ne 10, 3) := by decide +kernel
theorem dX6_says_24 : decode cX6_says 24 = .ok (.aload_n 0, 1) := by decide +kernel
theorem dX6_says_25 : decode cX6_says 25 = .ok (.bipush (-2), 2) := by decide +kernel
theorem dX6_says_27 : decode cX6_says 27 = .ok (.invokevirtual 102, 3) := by decide +kernel
theorem dX6_says_30 : decode cX6_says 30 = .ok (.ireturn, 1) := by decide +kernel
theorem dX6_says_31 : decode cX6_says 31 = .ok (.aload_n 0, 1) := by decide +kernel
theorem dX6_says_32 : decode cX6_says 32 = .ok (.getfield 7, 3) := by decide +kernel
theorem dX6_says_35 : decode cX6_says 35 = .ok (.iload_n 1, 1) := by decide +kernel
theorem dX6_says_36 : decode cX6_says 36 = .ok (.iaload, 1) := by decide +kernel
theorem dX6_says_37 : decode cX6_says 37 = .ok (.iconst 1, 1) := by decide +kernel
theorem dX6_says_38 : decode cX6_says 38 = .ok (.if_icmp .eq 31, 3) := by decide +kernel
theorem dX6_says_41 : decode cX6_says 41 = .ok (.aload_n 0, 1) := by decide +kernel
theorem dX6_says_42 : decode cX6_says 42 = .ok (.getfield 7, 3) := by decide +kernel
theorem dX6_says_45 : decode cX6_says 45 = .ok (.iload_n 1, 1) := by decide +kernel
theorem dX6_says_46 : decode cX6_says 46 = .ok (.iaload, 1) := by decide +kernel
theorem dX6_says_47 : decode cX6_says 47 = .ok (.iconst 2, 1) := by decide +kernel
theorem dX6_says_48 : decode cX6_says 48 = .ok (.if_icmp .ne 28, 3) := by decide +kernel
theorem dX6_says_51 : decode cX6_says 51 = .ok (.aload_n 0, 1) := by decide +kernel
theorem dX6_says_52 : decode cX6_says 52 = .ok (.getfield 47, 3) := by decide +kernel
theorem dX6_says_55 : decode cX6_says 55 = .ok (.aload_n 0, 1) := by decide +kernel
theorem dX6_says_56 : decode cX6_says 56 = .ok (.getfield 28, 3) := by decide +kernel
theorem dX6_says_59 : decode cX6_says 59 = .ok (.iload_n 1, 1) := by decide +kernel
theorem dX6_says_60 : decode cX6_says 60 = .ok (.iaload, 1) := by decide +kernel
theorem dX6_says_61 : decode cX6_says 61 = .ok (.iaload, 1) := by decide +kernel
theorem dX6_says_62 : decode cX6_says 62 = .ok (.iload_n 2, 1) := by decide +kernel
theorem dX6_says_63 : decode cX6_says 63 = .ok (.invokestatic 119, 3) := by decide +kernel
theorem dX6_says_66 : decode cX6_says 66 = .ok (.ifCond .ne 10, 3) := by decide +kernel
theorem dX6_says_69 : decode cX6_says 69 = .ok (.aload_n 0, 1) := by decide +kernel
theorem dX6_says_70 : decode cX6_says 70 = .ok (.bipush (-3), 2) := by decide +kernel
theorem dX6_says_72 : decode cX6_says 72 = .ok (.invokevirtual 102, 3) := by decide +kernel
theorem dX6_says_75 : decode cX6_says 75 = .ok (.ireturn, 1) := by decide +kernel
theorem dX6_says_76 : decode cX6_says 76 = .ok (.aload_n 0, 1) := by decide +kernel
theorem dX6_says_77 : decode cX6_says 77 = .ok (.getfield 7, 3) := by decide +kernel
theorem dX6_says_80 : decode cX6_says 80 = .ok (.iload_n 1, 1) := by decide +kernel
theorem dX6_says_81 : decode cX6_says 81 = .ok (.iaload, 1) := by decide +kernel
theorem dX6_says_82 : decode cX6_says 82 = .ok (.ifCond .ne 10, 3) := by decide +kernel
theorem dX6_says_85 : decode cX6_says 85 = .ok (.aload_n 0, 1) := by decide +kernel
theorem dX6_says_86 : decode cX6_says 86 = .ok (.bipush (-4), 2) := by decide +kernel
theorem dX6_says_88 : decode cX6_says 88 = .ok (.invokevirtual 102, 3) := by decide +kernel
theorem dX6_says_91 : decode cX6_says 91 = .ok (.ireturn, 1) := by decide +kernel
theorem dX6_says_92 : decode cX6_says 92 = .ok (.iload_n 2, 1) := by decide +kernel
theorem dX6_says_93 : decode cX6_says 93 = .ok (.ifCond .ne 15, 3) := by decide +kernel
theorem dX6_says_96 : decode cX6_says 96 = .ok (.aload_n 0, 1) := by decide +kernel
theorem dX6_says_97 : decode cX6_says 97 = .ok (.getfield 53, 3) := by decide +kernel
theorem dX6_says_100 : decode cX6_says 100 = .ok (.aload_n 0, 1) := by decide +kernel
theorem dX6_says_101 : decode cX6_says 101 = .ok (.getfield 28, 3) := by decide +kernel
theorem dX6_says_104 : decode cX6_says 104 = .ok (.iload_n 1, 1) := by decide +kernel
theorem dX6_says_105 : decode cX6_says 105 = .ok (.iaload, 1) := by decide +kernel
theorem dX6_says_106 : decode cX6_says 106 = .ok (.iaload, 1) := by decide +kernel
theorem dX6_says_107 : decode cX6_says 107 = .ok (.ireturn, 1) := by decide +kernel
theorem dX6_says_108 : decode cX6_says 108 = .ok (.iconst 0, 1) := by decide +kernel
theorem dX6_says_109 : decode cX6_says 109 = .ok (.istore_n 3, 1) := by decide +kernel
theorem dX6_says_110 : decode cX6_says 110 = .ok (.iload_n 3, 1) := by decide +kernel
theorem dX6_says_111 : decode cX6_says 111 = .ok (.bipush 12, 2) := by decide +kernel
theorem dX6_says_113 : decode cX6_says 113 = .ok (.if_icmp .ge 16, 3) := by decide +kernel
theorem dX6_says_116 : decode cX6_says 116 = .ok (.aload_n 0, 1) := by decide +kernel
theorem dX6_says_117 : decode cX6_says 117 = .ok (.getfield 62, 3) := by decide +kernel
theorem dX6_says_120 : decode cX6_says 120 = .ok (.iload_n 3, 1) := by decide +kernel
theorem dX6_says_121 : decode cX6_says 121 = .ok (.iload_n 3, 1) := by decide +kernel
theorem dX6_says_122 : decode cX6_says 122 = .ok (.iastore, 1) := by decide +kernel
theorem dX6_says_123 : decode cX6_says 123 = .ok (.iinc 3 1, 3) := by decide +kernel
theorem dX6_says_126 : decode cX6_says 126 = .ok (.goto (-16), 3) := by decide +kernel
theorem dX6_says_129 : decode cX6_says 129 = .ok (.aload_n 0, 1) := by decide +kernel
theorem dX6_says_130 : decode cX6_says 130 = .ok (.bipush 12, 2) := by decide +kernel
theorem dX6_says_132 : decode cX6_says 132 = .ok (.putfield 123, 3) := by decide +kernel
theorem dX6_says_135 : decode cX6_says 135 = .ok (.aload_n 0, 1) := by decide +kernel
theorem dX6_says_136 : decode cX6_says 136 = .ok (.aload_n 0, 1) := by decide +kernel
theorem dX6_says_137 : decode cX6_says 137 = .ok (.getfield 28, 3) := by decide +kernel
theorem dX6_says_140 : decode cX6_says 140 = .ok (.iload_n 1, 1) := by decide +kernel
theorem dX6_says_141 : decode cX6_says 141 = .ok (.iaload, 1) := by decide +kernel
theorem dX6_says_142 : decode cX6_says 142 = .ok (.invokevirtual 126, 3) := by decide +kernel
theorem dX6_says_145 : decode cX6_says 145 = .ok (.ireturn, 1) := by decide +kernel
theorem dX6_addVoice_0 : decode cX6_addVoice 0 = .ok (.aload_n 0, 1) := by decide +kernel
theorem dX6_addVoice_1 : decode cX6_addVoice 1 = .ok (.getfield 47, 3) := by decide +kernel
theorem dX6_addVoice_4 : decode cX6_addVoice 4 = .ok (.aload_n 0, 1) := by decide +kernel
theorem dX6_addVoice_5 : decode cX6_addVoice 5 = .ok (.getfield 89, 3) := by decide +kernel
theorem dX6_addVoice_8 : decode cX6_addVoice 8 = .ok (.iload_n 1, 1) := by decide +kernel
theorem dX6_addVoice_9 : decode cX6_addVoice 9 = .ok (.iastore, 1) := by decide +kernel
theorem dX6_addVoice_10 : decode cX6_addVoice 10 = .ok (.aload_n 0, 1) := by decide +kernel
theorem dX6_addVoice_11 : decode cX6_addVoice 11 = .ok (.getfield 50, 3) := by decide +kernel
theorem dX6_addVoice_14 : decode cX6_addVoice 14 = .ok (.aload_n 0, 1) := by decide +kernel
theorem dX6_addVoice_15 : decode cX6_addVoice 15 = .ok (.getfield 89, 3) := by decide +kernel
theorem dX6_addVoice_18 : decode cX6_addVoice 18 = .ok (.iload_n 2, 1) := by decide +kernel
theorem dX6_addVoice_19 : decode cX6_addVoice 19 = .ok (.iastore, 1) := by decide +kernel
theorem dX6_addVoice_20 : decode cX6_addVoice 20 = .ok (.aload_n 0, 1) := by decide +kernel
theorem dX6_addVoice_21 : decode cX6_addVoice 21 = .ok (.getfield 53, 3) := by decide +kernel
theorem dX6_addVoice_24 : decode cX6_addVoice 24 = .ok (.aload_n 0, 1) := by decide +kernel
theorem dX6_addVoice_25 : decode cX6_addVoice 25 = .ok (.getfield 89, 3) := by decide +kernel
theorem dX6_addVoice_28 : decode cX6_addVoice 28 = .ok (.iload_n 3, 1) := by decide +kernel
theorem dX6_addVoice_29 : decode cX6_addVoice 29 = .ok (.iastore, 1) := by decide +kernel
theorem dX6_addVoice_30 : decode cX6_addVoice 30 = .ok (.aload_n 0, 1) := by decide +kernel
theorem dX6_addVoice_31 : decode cX6_addVoice 31 = .ok (.dup, 1) := by decide +kernel
theorem dX6_addVoice_32 : decode cX6_addVoice 32 = .ok (.getfield 89, 3) := by decide +kernel
theorem dX6_addVoice_35 : decode cX6_addVoice 35 = .ok (.iconst 1, 1) := by decide +kernel
theorem dX6_addVoice_36 : decode cX6_addVoice 36 = .ok (.iadd, 1) := by decide +kernel
theorem dX6_addVoice_37 : decode cX6_addVoice 37 = .ok (.putfield 89, 3) := by decide +kernel
theorem dX6_addVoice_40 : decode cX6_addVoice 40 = .ok (.return_, 1) := by decide +kernel
theorem dX6_voice_0 : decode cX6_voice 0 = .ok (.iload_n 1, 1) := by decide +kernel
theorem dX6_voice_1 : decode cX6_voice 1 = .ok (.i2l, 1) := by decide +kernel
theorem dX6_voice_2 : decode cX6_voice 2 = .ok (.lconst 0, 1) := by decide +kernel
theorem dX6_voice_3 : decode cX6_voice 3 = .ok (.ldc2_w 117, 3) := by decide +kernel
theorem dX6_voice_6 : decode cX6_voice 6 = .ok (.invokestatic 92, 3) := by decide +kernel
theorem dX6_voice_9 : decode cX6_voice 9 = .ok (.ifCond .eq 27, 3) := by decide +kernel
theorem dX6_voice_12 : decode cX6_voice 12 = .ok (.iload_n 2, 1) := by decide +kernel
theorem dX6_voice_13 : decode cX6_voice 13 = .ok (.i2l, 1) := by decide +kernel
theorem dX6_voice_14 : decode cX6_voice 14 = .ok (.lconst 0, 1) := by decide +kernel
theorem dX6_voice_15 : decode cX6_voice 15 = .ok (.ldc2_w 129, 3) := by decide +kernel
theorem dX6_voice_18 : decode cX6_voice 18 = .ok (.invokestatic 92, 3) := by decide +kernel
theorem dX6_voice_21 : decode cX6_voice 21 = .ok (.ifCond .eq 15, 3) := by decide +kernel
theorem dX6_voice_24 : decode cX6_voice 24 = .ok (.iload_n 3, 1) := by decide +kernel
theorem dX6_voice_25 : decode cX6_voice 25 = .ok (.i2l, 1) := by decide +kernel
theorem dX6_voice_26 : decode cX6_voice 26 = .ok (.lconst 0, 1) := by decide +kernel
theorem dX6_voice_27 : decode cX6_voice 27 = .ok (.ldc2_w 131, 3) := by decide +kernel
theorem dX6_voice_30 : decode cX6_voice 30 = .ok (.invokestatic 92, 3) := by decide +kernel
theorem dX6_voice_33 : decode cX6_voice 33 = .ok (.ifCond .ne 10, 3) := by decide +kernel
theorem dX6_voice_36 : decode cX6_voice 36 = .ok (.aload_n 0, 1) := by decide +kernel
theorem dX6_voice_37 : decode cX6_voice 37 = .ok (.bipush (-2), 2) := by decide +kernel
theorem dX6_voice_39 : decode cX6_voice 39 = .ok (.invokevirtual 102, 3) := by decide +kernel
theorem dX6_voice_42 : decode cX6_voice 42 = .ok (.ireturn, 1) := by decide +kernel
theorem dX6_voice_43 : decode cX6_voice 43 = .ok (.aload_n 0, 1) := by decide +kernel
theorem dX6_voice_44 : decode cX6_voice 44 = .ok (.getfield 89, 3) := by decide +kernel
theorem dX6_voice_47 : decode cX6_voice 47 = .ok (.bipush 8, 2) := by decide +kernel
theorem dX6_voice_49 : decode cX6_voice 49 = .ok (.if_icmp .ne 10, 3) := by decide +kernel
theorem dX6_voice_52 : decode cX6_voice 52 = .ok (.aload_n 0, 1) := by decide +kernel
theorem dX6_voice_53 : decode cX6_voice 53 = .ok (.bipush (-6), 2) := by decide +kernel
theorem dX6_voice_55 : decode cX6_voice 55 = .ok (.invokevirtual 102, 3) := by decide +kernel
theorem dX6_voice_58 : decode cX6_voice 58 = .ok (.ireturn, 1) := by decide +kernel
theorem dX6_voice_59 : decode cX6_voice 59 = .ok (.aload_n 0, 1) := by decide +kernel
theorem dX6_voice_60 : decode cX6_voice 60 = .ok (.iload_n 1, 1) := by decide +kernel
theorem dX6_voice_61 : decode cX6_voice 61 = .ok (.iload_n 2, 1) := by decide +kernel
theorem dX6_voice_62 : decode cX6_voice 62 = .ok (.iload_n 3, 1) := by decide +kernel
theorem dX6_voice_63 : decode cX6_voice 63 = .ok (.invokevirtual 133, 3) := by decide +kernel
theorem dX6_voice_66 : decode cX6_voice 66 = .ok (.aload_n 0, 1) := by decide +kernel
theorem dX6_voice_67 : decode cX6_voice 67 = .ok (.getfield 89, 3) := by decide +kernel
theorem dX6_voice_70 : decode cX6_voice 70 = .ok (.iconst 1, 1) := by decide +kernel
theorem dX6_voice_71 : decode cX6_voice 71 = .ok (.isub, 1) := by decide +kernel
theorem dX6_voice_72 : decode cX6_voice 72 = .ok (.ireturn, 1) := by decide +kernel
theorem dX6_pitch_0 : decode cX6_pitch 0 = .ok (.aload_n 0, 1) := by decide +kernel
theorem dX6_pitch_1 : decode cX6_pitch 1 = .ok (.iload_n 1, 1) := by decide +kernel
theorem dX6_pitch_2 : decode cX6_pitch 2 = .ok (.invokevirtual 113, 3) := by decide +kernel
theorem dX6_pitch_5 : decode cX6_pitch 5 = .ok (.ifCond .eq 15, 3) := by decide +kernel
theorem dX6_pitch_8 : decode cX6_pitch 8 = .ok (.iload_n 2, 1) := by decide +kernel
theorem dX6_pitch_9 : decode cX6_pitch 9 = .ok (.i2l, 1) := by decide +kernel
theorem dX6_pitch_10 : decode cX6_pitch 10 = .ok (.lconst 0, 1) := by decide +kernel
theorem dX6_pitch_11 : decode cX6_pitch 11 = .ok (.ldc2_w 131, 3) := by decide +kernel
theorem dX6_pitch_14 : decode cX6_pitch 14 = .ok (.invokestatic 92, 3) := by decide +kernel
theorem dX6_pitch_17 : decode cX6_pitch 17 = .ok (.ifCond .ne 10, 3) := by decide +kernel
theorem dX6_pitch_20 : decode cX6_pitch 20 = .ok (.aload_n 0, 1) := by decide +kernel
theorem dX6_pitch_21 : decode cX6_pitch 21 = .ok (.bipush (-2), 2) := by decide +kernel
theorem dX6_pitch_23 : decode cX6_pitch 23 = .ok (.invokevirtual 102, 3) := by decide +kernel
theorem dX6_pitch_26 : decode cX6_pitch 26 = .ok (.ireturn, 1) := by decide +kernel
theorem dX6_pitch_27 : decode cX6_pitch 27 = .ok (.aload_n 0, 1) := by decide +kernel
theorem dX6_pitch_28 : decode cX6_pitch 28 = .ok (.getfield 53, 3) := by decide +kernel
theorem dX6_pitch_31 : decode cX6_pitch 31 = .ok (.iload_n 1, 1) := by decide +kernel
theorem dX6_pitch_32 : decode cX6_pitch 32 = .ok (.iaload, 1) := by decide +kernel
theorem dX6_pitch_33 : decode cX6_pitch 33 = .ok (.istore_n 3, 1) := by decide +kernel
theorem dX6_pitch_34 : decode cX6_pitch 34 = .ok (.aload_n 0, 1) := by decide +kernel
theorem dX6_pitch_35 : decode cX6_pitch 35 = .ok (.getfield 53, 3) := by decide +kernel
theorem dX6_pitch_38 : decode cX6_pitch 38 = .ok (.iload_n 1, 1) := by decide +kernel
theorem dX6_pitch_39 : decode cX6_pitch 39 = .ok (.iload_n 2, 1) := by decide +kernel
theorem dX6_pitch_40 : decode cX6_pitch 40 = .ok (.iastore, 1) := by decide +kernel
theorem dX6_pitch_41 : decode cX6_pitch 41 = .ok (.iload_n 3, 1) := by decide +kernel
theorem dX6_pitch_42 : decode cX6_pitch 42 = .ok (.ireturn, 1) := by decide +kernel
theorem dX6_tell_0 : decode cX6_tell 0 = .ok (.iload_n 1, 1) := by decide +kernel
theorem dX6_tell_1 : decode cX6_tell 1 = .ok (.i2l, 1) := by decide +kernel
theorem dX6_tell_2 : decode cX6_tell 2 = .ok (.lconst 0, 1) := by decide +kernel
theorem dX6_tell_3 : decode cX6_tell 3 = .ok (.ldc2_w 137, 3) := by decide +kernel
theorem dX6_tell_6 : decode cX6_tell 6 = .ok (.invokestatic 92, 3) := by decide +kernel
theorem dX6_tell_9 : decode cX6_tell 9 = .ok (.ifCond .eq 36, 3) := by decide +kernel
theorem dX6_tell_12 : decode cX6_tell 12 = .ok (.iload_n 2, 1) := by decide +kernel
theorem dX6_tell_13 : decode cX6_tell 13 = .ok (.i2l, 1) := by decide +kernel
theorem dX6_tell_14 : decode cX6_tell 14 = .ok (.lconst 0, 1) := by decide +kernel
theorem dX6_tell_15 : decode cX6_tell 15 = .ok (.iload_n 1, 1) := by decide +kernel
theorem dX6_tell_16 : decode cX6_tell 16 = .ok (.ifCond .ne 9, 3) := by decide +kernel
theorem dX6_tell_19 : decode cX6_tell 19 = .ok (.ldc2_w 100, 3) := by decide +kernel
theorem dX6_tell_22 : decode cX6_tell 22 = .ok (.goto 17, 3) := by decide +kernel
theorem dX6_tell_25 : decode cX6_tell 25 = .ok (.iload_n 1, 1) := by decide +kernel
theorem dX6_tell_26 : decode cX6_tell 26 = .ok (.iconst 1, 1) := by decide +kernel
theorem dX6_tell_27 : decode cX6_tell 27 = .ok (.if_icmp .ne 9, 3) := by decide +kernel
theorem dX6_tell_30 : decode cX6_tell 30 = .ok (.ldc2_w 129, 3) := by decide +kernel
theorem dX6_tell_33 : decode cX6_tell 33 = .ok (.goto 6, 3) := by decide +kernel
theorem dX6_tell_36 : decode cX6_tell 36 = .ok (.ldc2_w 139, 3) := by decide +kernel
theorem dX6_tell_39 : decode cX6_tell 39 = .ok (.invokestatic 92, 3) := by decide +kernel
theorem dX6_tell_42 : decode cX6_tell 42 = .ok (.ifCond .ne 10, 3) := by decide +kernel
theorem dX6_tell_45 : decode cX6_tell 45 = .ok (.aload_n 0, 1) := by decide +kernel
theorem dX6_tell_46 : decode cX6_tell 46 = .ok (.bipush (-2), 2) := by decide +kernel
theorem dX6_tell_48 : decode cX6_tell 48 = .ok (.invokevirtual 102, 3) := by decide +kernel
theorem dX6_tell_51 : decode cX6_tell 51 = .ok (.ireturn, 1) := by decide +kernel
theorem dX6_tell_52 : decode cX6_tell 52 = .ok (.iload_n 1, 1) := by decide +kernel
theorem dX6_tell_53 : decode cX6_tell 53 = .ok (.ifCond .ne 10, 3) := by decide +kernel
theorem dX6_tell_56 : decode cX6_tell 56 = .ok (.aload_n 0, 1) := by decide +kernel
theorem dX6_tell_57 : decode cX6_tell 57 = .ok (.getfield 37, 3) := by decide +kernel
theorem dX6_tell_60 : decode cX6_tell 60 = .ok (.goto 19, 3) := by decide +kernel
theorem dX6_tell_63 : decode cX6_tell 63 = .ok (.iload_n 1, 1) := by decide +kernel
theorem dX6_tell_64 : decode cX6_tell 64 = .ok (.iconst 1, 1) := by decide +kernel
theorem dX6_tell_65 : decode cX6_tell 65 = .ok (.if_icmp .ne 10, 3) := by decide +kernel
theorem dX6_tell_68 : decode cX6_tell 68 = .ok (.aload_n 0, 1) := by decide +kernel
theorem dX6_tell_69 : decode cX6_tell 69 = .ok (.getfield 41, 3) := by decide +kernel
theorem dX6_tell_72 : decode cX6_tell 72 = .ok (.goto 7, 3) := by decide +kernel
theorem dX6_tell_75 : decode cX6_tell 75 = .ok (.aload_n 0, 1) := by decide +kernel
theorem dX6_tell_76 : decode cX6_tell 76 = .ok (.getfield 141, 3) := by decide +kernel
theorem dX6_tell_79 : decode cX6_tell 79 = .ok (.istore_n 3, 1) := by decide +kernel
theorem dX6_tell_80 : decode cX6_tell 80 = .ok (.aload_n 0, 1) := by decide +kernel
theorem dX6_tell_81 : decode cX6_tell 81 = .ok (.iload_n 1, 1) := by decide +kernel
theorem dX6_tell_82 : decode cX6_tell 82 = .ok (.ifCond .ne 7, 3) := by decide +kernel
theorem dX6_tell_85 : decode cX6_tell 85 = .ok (.iload_n 2, 1) := by decide +kernel
theorem dX6_tell_86 : decode cX6_tell 86 = .ok (.goto 7, 3) := by decide +kernel
theorem dX6_tell_89 : decode cX6_tell 89 = .ok (.aload_n 0, 1) := by decide +kernel
theorem dX6_tell_90 : decode cX6_tell 90 = .ok (.getfield 37, 3) := by decide +kernel
theorem dX6_tell_93 : decode cX6_tell 93 = .ok (.putfield 37, 3) := by decide +kernel
theorem dX6_tell_96 : decode cX6_tell 96 = .ok (.aload_n 0, 1) := by decide +kernel
theorem dX6_tell_97 : decode cX6_tell 97 = .ok (.iload_n 1, 1) := by decide +kernel
theorem dX6_tell_98 : decode cX6_tell 98 = .ok (.iconst 1, 1) := by decide +kernel
theorem dX6_tell_99 : decode cX6_tell 99 = .ok (.if_icmp .ne 7, 3) := by decide +kernel
theorem dX6_tell_102 : decode cX6_tell 102 = .ok (.iload_n 2, 1) := by decide +kernel
theorem dX6_tell_103 : decode cX6_tell 103 = .ok (.goto 7, 3) := by decide +kernel
theorem dX6_tell_106 : decode cX6_tell 106 = .ok (.aload_n 0, 1) := by decide +kernel
theorem dX6_tell_107 : decode cX6_tell 107 = .ok (.getfield 41, 3) := by decide +kernel
theorem dX6_tell_110 : decode cX6_tell 110 = .ok (.putfield 41, 3) := by decide +kernel
theorem dX6_tell_113 : decode cX6_tell 113 = .ok (.aload_n 0, 1) := by decide +kernel
theorem dX6_tell_114 : decode cX6_tell 114 = .ok (.iload_n 1, 1) := by decide +kernel
theorem dX6_tell_115 : decode cX6_tell 115 = .ok (.iconst 2, 1) := by decide +kernel
theorem dX6_tell_116 : decode cX6_tell 116 = .ok (.if_icmp .ne 7, 3) := by decide +kernel
theorem dX6_tell_119 : decode cX6_tell 119 = .ok (.iload_n 2, 1) := by decide +kernel
theorem dX6_tell_120 : decode cX6_tell 120 = .ok (.goto 7, 3) := by decide +kernel
theorem dX6_tell_123 : decode cX6_tell 123 = .ok (.aload_n 0, 1) := by decide +kernel
theorem dX6_tell_124 : decode cX6_tell 124 = .ok (.getfield 141, 3) := by decide +kernel
theorem dX6_tell_127 : decode cX6_tell 127 = .ok (.putfield 141, 3) := by decide +kernel
theorem dX6_tell_130 : decode cX6_tell 130 = .ok (.iload_n 3, 1) := by decide +kernel
theorem dX6_tell_131 : decode cX6_tell 131 = .ok (.ireturn, 1) := by decide +kernel
theorem dX6_weigh_0 : decode cX6_weigh 0 = .ok (.iload_n 1, 1) := by decide +kernel
theorem dX6_weigh_1 : decode cX6_weigh 1 = .ok (.i2l, 1) := by decide +kernel
theorem dX6_weigh_2 : decode cX6_weigh 2 = .ok (.ldc2_w 137, 3) := by decide +kernel
theorem dX6_weigh_5 : decode cX6_weigh 5 = .ok (.ldc2_w 129, 3) := by decide +kernel
theorem dX6_weigh_8 : decode cX6_weigh 8 = .ok (.invokestatic 92, 3) := by decide +kernel
theorem dX6_weigh_11 : decode cX6_weigh 11 = .ok (.ifCond .eq 16, 3) := by decide +kernel
theorem dX6_weigh_14 : decode cX6_weigh 14 = .ok (.iload_n 2, 1) := by decide +kernel
theorem dX6_weigh_15 : decode cX6_weigh 15 = .ok (.i2l, 1) := by decide +kernel
theorem dX6_weigh_16 : decode cX6_weigh 16 = .ok (.lconst 0, 1) := by decide +kernel
theorem dX6_weigh_17 : decode cX6_weigh 17 = .ok (.iload_n 1, 1) := by decide +kernel
theorem dX6_weigh_18 : decode cX6_weigh 18 = .ok (.iconst 1, 1) := by decide +kernel
theorem dX6_weigh_19 : decode cX6_weigh 19 = .ok (.isub, 1) := by decide +kernel
theorem dX6_weigh_20 : decode cX6_weigh 20 = .ok (.i2l, 1) := by decide +kernel
theorem dX6_weigh_21 : decode cX6_weigh 21 = .ok (.invokestatic 92, 3) := by decide +kernel
theorem dX6_weigh_24 : decode cX6_weigh 24 = .ok (.ifCond .ne 10, 3) := by decide +kernel
theorem dX6_weigh_27 : decode cX6_weigh 27 = .ok (.aload_n 0, 1) := by decide +kernel
theorem dX6_weigh_28 : decode cX6_weigh 28 = .ok (.bipush (-2), 2) := by decide +kernel
theorem dX6_weigh_30 : decode cX6_weigh 30 = .ok (.invokevirtual 102, 3) := by decide +kernel
theorem dX6_weigh_33 : decode cX6_weigh 33 = .ok (.ireturn, 1) := by decide +kernel
theorem dX6_weigh_34 : decode cX6_weigh 34 = .ok (.bipush 10, 2) := by decide +kernel
theorem dX6_weigh_36 : decode cX6_weigh 36 = .ok (.aload_n 0, 1) := by decide +kernel
theorem dX6_weigh_37 : decode cX6_weigh 37 = .ok (.getfield 44, 3) := by decide +kernel
theorem dX6_weigh_40 : decode cX6_weigh 40 = .ok (.imul, 1) := by decide +kernel
theorem dX6_weigh_41 : decode cX6_weigh 41 = .ok (.aload_n 0, 1) := by decide +kernel
theorem dX6_weigh_42 : decode cX6_weigh 42 = .ok (.getfield 144, 3) := by decide +kernel
theorem dX6_weigh_45 : decode cX6_weigh 45 = .ok (.iadd, 1) := by decide +kernel
theorem dX6_weigh_46 : decode cX6_weigh 46 = .ok (.istore_n 3, 1) := by decide +kernel
theorem dX6_weigh_47 : decode cX6_weigh 47 = .ok (.aload_n 0, 1) := by decide +kernel
theorem dX6_weigh_48 : decode cX6_weigh 48 = .ok (.iload_n 1, 1) := by decide +kernel
theorem dX6_weigh_49 : decode cX6_weigh 49 = .ok (.putfield 44, 3) := by decide +kernel
theorem dX6_weigh_52 : decode cX6_weigh 52 = .ok (.aload_n 0, 1) := by decide +kernel
theorem dX6_weigh_53 : decode cX6_weigh 53 = .ok (.iload_n 2, 1) := by decide +kernel
theorem dX6_weigh_54 : decode cX6_weigh 54 = .ok (.putfield 144, 3) := by decide +kernel
theorem dX6_weigh_57 : decode cX6_weigh 57 = .ok (.iload_n 3, 1) := by decide +kernel
theorem dX6_weigh_58 : decode cX6_weigh 58 = .ok (.ireturn, 1) := by decide +kernel
theorem dX6_feed_0 : decode cX6_feed 0 = .ok (.iload_n 1, 1) := by decide +kernel
theorem dX6_feed_1 : decode cX6_feed 1 = .ok (.i2l, 1) := by decide +kernel
theorem dX6_feed_2 : decode cX6_feed 2 = .ok (.lconst 0, 1) := by decide +kernel
theorem dX6_feed_3 : decode cX6_feed 3 = .ok (.ldc2_w 147, 3) := by decide +kernel
theorem dX6_feed_6 : decode cX6_feed 6 = .ok (.invokestatic 92, 3) := by decide +kernel
theorem dX6_feed_9 : decode cX6_feed 9 = .ok (.ifCond .ne 10, 3) := by decide +kernel
theorem dX6_feed_12 : decode cX6_feed 12 = .ok (.aload_n 0, 1) := by decide +kernel
theorem dX6_feed_13 : decode cX6_feed 13 = .ok (.bipush (-2), 2) := by decide +kernel
theorem dX6_feed_15 : decode cX6_feed 15 = .ok (.invokevirtual 102, 3) := by decide +kernel
theorem dX6_feed_18 : decode cX6_feed 18 = .ok (.ireturn, 1) := by decide +kernel
theorem dX6_feed_19 : decode cX6_feed 19 = .ok (.aload_n 0, 1) := by decide +kernel
theorem dX6_feed_20 : decode cX6_feed 20 = .ok (.getfield 149, 3) := by decide +kernel
theorem dX6_feed_23 : decode cX6_feed 23 = .ok (.sipush 250, 3) := by decide +kernel
theorem dX6_feed_26 : decode cX6_feed 26 = .ok (.if_icmp .ne 10, 3) := by decide +kernel
theorem dX6_feed_29 : decode cX6_feed 29 = .ok (.aload_n 0, 1) := by decide +kernel
theorem dX6_feed_30 : decode cX6_feed 30 = .ok (.bipush (-6), 2) := by decide +kernel
theorem dX6_feed_32 : decode cX6_feed 32 = .ok (.invokevirtual 102, 3) := by decide +kernel
theorem dX6_feed_35 : decode cX6_feed 35 = .ok (.ireturn, 1) := by decide +kernel
theorem dX6_feed_36 : decode cX6_feed 36 = .ok (.aload_n 0, 1) := by decide +kernel
theorem dX6_feed_37 : decode cX6_feed 37 = .ok (.getfield 31, 3) := by decide +kernel
theorem dX6_feed_40 : decode cX6_feed 40 = .ok (.aload_n 0, 1) := by decide +kernel
theorem dX6_feed_41 : decode cX6_feed 41 = .ok (.dup, 1) := by decide +kernel
theorem dX6_feed_42 : decode cX6_feed 42 = .ok (.getfield 149, 3) := by decide +kernel
theorem dX6_feed_45 : decode cX6_feed 45 = .ok (.dup_x1, 1) := by decide +kernel
theorem dX6_feed_46 : decode cX6_feed 46 = .ok (.iconst 1, 1) := by decide +kernel
theorem dX6_feed_47 : decode cX6_feed 47 = .ok (.iadd, 1) := by decide +kernel
theorem dX6_feed_48 : decode cX6_feed 48 = .ok (.putfield 149, 3) := by decide +kernel
theorem dX6_feed_51 : decode cX6_feed 51 = .ok (.iload_n 1, 1) := by decide +kernel
theorem dX6_feed_52 : decode cX6_feed 52 = .ok (.iastore, 1) := by decide +kernel
theorem dX6_feed_53 : decode cX6_feed 53 = .ok (.aload_n 0, 1) := by decide +kernel
theorem dX6_feed_54 : decode cX6_feed 54 = .ok (.getfield 149, 3) := by decide +kernel
theorem dX6_feed_57 : decode cX6_feed 57 = .ok (.ireturn, 1) := by decide +kernel
theorem dX6_wipe_0 : decode cX6_wipe 0 = .ok (.aload_n 0, 1) := by decide +kernel
theorem dX6_wipe_1 : decode cX6_wipe 1 = .ok (.getfield 149, 3) := by decide +kernel
theorem dX6_wipe_4 : decode cX6_wipe 4 = .ok (.istore_n 1, 1) := by decide +kernel
theorem dX6_wipe_5 : decode cX6_wipe 5 = .ok (.aload_n 0, 1) := by decide +kernel
theorem dX6_wipe_6 : decode cX6_wipe 6 = .ok (.iconst 0, 1) := by decide +kernel
theorem dX6_wipe_7 : decode cX6_wipe 7 = .ok (.putfield 149, 3) := by decide +kernel
theorem dX6_wipe_10 : decode cX6_wipe 10 = .ok (.iload_n 1, 1) := by decide +kernel
theorem dX6_wipe_11 : decode cX6_wipe 11 = .ok (.ireturn, 1) := by decide +kernel
theorem dX6_isLetter_0 : decode cX6_isLetter 0 = .ok (.iload_n 0, 1) := by decide +kernel
theorem dX6_isLetter_1 : decode cX6_isLetter 1 = .ok (.bipush 97, 2) := by decide +kernel
theorem dX6_isLetter_3 : decode cX6_isLetter 3 = .ok (.if_icmp .lt 13, 3) := by decide +kernel
theorem dX6_isLetter_6 : decode cX6_isLetter 6 = .ok (.iload_n 0, 1) := by decide +kernel
theorem dX6_isLetter_7 : decode cX6_isLetter 7 = .ok (.bipush 122, 2) := by decide +kernel
theorem dX6_isLetter_9 : decode cX6_isLetter 9 = .ok (.if_icmp .gt 7, 3) := by decide +kernel
theorem dX6_isLetter_12 : decode cX6_isLetter 12 = .ok (.iconst 1, 1) := by decide +kernel
theorem dX6_isLetter_13 : decode cX6_isLetter 13 = .ok (.goto 4, 3) := by decide +kernel
theorem dX6_isLetter_16 : decode cX6_isLetter 16 = .ok (.iconst 0, 1) := by decide +kernel
theorem dX6_isLetter_17 : decode cX6_isLetter 17 = .ok (.ireturn, 1) := by decide +kernel
theorem dX6_isDigit_0 : decode cX6_isDigit 0 = .ok (.iload_n 0, 1) := by decide +kernel
theorem dX6_isDigit_1 : decode cX6_isDigit 1 = .ok (.bipush 48, 2) := by decide +kernel
theorem dX6_isDigit_3 : decode cX6_isDigit 3 = .ok (.if_icmp .lt 13, 3) := by decide +kernel
theorem dX6_isDigit_6 : decode cX6_isDigit 6 = .ok (.iload_n 0, 1) := by decide +kernel
theorem dX6_isDigit_7 : decode cX6_isDigit 7 = .ok (.bipush 57, 2) := by decide +kernel
theorem dX6_isDigit_9 : decode cX6_isDigit 9 = .ok (.if_icmp .gt 7, 3) := by decide +kernel
theorem dX6_isDigit_12 : decode cX6_isDigit 12 = .ok (.iconst 1, 1) := by decide +kernel
theorem dX6_isDigit_13 : decode cX6_isDigit 13 = .ok (.goto 4, 3) := by decide +kernel
theorem dX6_isDigit_16 : decode cX6_isDigit 16 = .ok (.iconst 0, 1) := by decide +kernel
theorem dX6_isDigit_17 : decode cX6_isDigit 17 = .ok (.ireturn, 1) := by decide +kernel
theorem dX6_look_0 : decode cX6_look 0 = .ok (.aload_n 0, 1) := by decide +kernel
theorem dX6_look_1 : decode cX6_look 1 = .ok (.getfield 152, 3) := by decide +kernel
theorem dX6_look_4 : decode cX6_look 4 = .ok (.aload_n 0, 1) := by decide +kernel
theorem dX6_look_5 : decode cX6_look 5 = .ok (.getfield 149, 3) := by decide +kernel
theorem dX6_look_8 : decode cX6_look 8 = .ok (.if_icmp .ge 30, 3) := by decide +kernel
theorem dX6_look_11 : decode cX6_look 11 = .ok (.aload_n 0, 1) := by decide +kernel
theorem dX6_look_12 : decode cX6_look 12 = .ok (.getfield 31, 3) := by decide +kernel
theorem dX6_look_15 : decode cX6_look 15 = .ok (.aload_n 0, 1) := by decide +kernel
theorem dX6_look_16 : decode cX6_look 16 = .ok (.getfield 152, 3) := by decide +kernel
theorem dX6_look_19 : decode cX6_look 19 = .ok (.iaload, 1) := by decide +kernel
theorem dX6_look_20 : decode cX6_look 20 = .ok (.bipush 32, 2) := by decide +kernel
theorem dX6_look_22 : decode cX6_look 22 = .ok (.if_icmp .ne 16, 3) := by decide +kernel
theorem dX6_look_25 : decode cX6_look 25 = .ok (.aload_n 0, 1) := by decide +kernel
theorem dX6_look_26 : decode cX6_look 26 = .ok (.dup, 1) := by decide +kernel
theorem dX6_look_27 : decode cX6_look 27 = .ok (.getfield 152, 3) := by decide +kernel
theorem dX6_look_30 : decode cX6_look 30 = .ok (.iconst 1, 1) := by decide +kernel
theorem dX6_look_31 : decode cX6_look 31 = .ok (.iadd, 1) := by decide +kernel
theorem dX6_look_32 : decode cX6_look 32 = .ok (.putfield 152, 3) := by decide +kernel
theorem dX6_look_35 : decode cX6_look 35 = .ok (.goto (-35), 3) := by decide +kernel
theorem dX6_look_38 : decode cX6_look 38 = .ok (.aload_n 0, 1) := by decide +kernel
theorem dX6_look_39 : decode cX6_look 39 = .ok (.aload_n 0, 1) := by decide +kernel
theorem dX6_look_40 : decode cX6_look 40 = .ok (.getfield 152, 3) := by decide +kernel
theorem dX6_look_43 : decode cX6_look 43 = .ok (.putfield 155, 3) := by decide +kernel
theorem dX6_look_46 : decode cX6_look 46 = .ok (.aload_n 0, 1) := by decide +kernel
theorem dX6_look_47 : decode cX6_look 47 = .ok (.iconst 0, 1) := by decide +kernel
theorem dX6_look_48 : decode cX6_look 48 = .ok (.putfield 158, 3) := by decide +kernel
theorem dX6_look_51 : decode cX6_look 51 = .ok (.aload_n 0, 1) := by decide +kernel
theorem dX6_look_52 : decode cX6_look 52 = .ok (.getfield 152, 3) := by decide +kernel
theorem dX6_look_55 : decode cX6_look 55 = .ok (.aload_n 0, 1) := by decide +kernel
theorem dX6_look_56 : decode cX6_look 56 = .ok (.getfield 149, 3) := by decide +kernel
theorem dX6_look_59 : decode cX6_look 59 = .ok (.if_icmp .ne 11, 3) := by decide +kernel
theorem dX6_look_62 : decode cX6_look 62 = .ok (.aload_n 0, 1) := by decide +kernel
theorem dX6_look_63 : decode cX6_look 63 = .ok (.iconst 0, 1) := by decide +kernel
theorem dX6_look_64 : decode cX6_look 64 = .ok (.putfield 161, 3) := by decide +kernel
theorem dX6_look_67 : decode cX6_look 67 = .ok (.goto 197, 3) := by decide +kernel
theorem dX6_look_70 : decode cX6_look 70 = .ok (.aload_n 0, 1) := by decide +kernel
theorem dX6_look_71 : decode cX6_look 71 = .ok (.getfield 31, 3) := by decide +kernel
theorem dX6_look_74 : decode cX6_look 74 = .ok (.aload_n 0, 1) := by decide +kernel
theorem dX6_look_75 : decode cX6_look 75 = .ok (.getfield 152, 3) := by decide +kernel
theorem dX6_look_78 : decode cX6_look 78 = .ok (.iaload, 1) := by decide +kernel
theorem dX6_look_79 : decode cX6_look 79 = .ok (.invokestatic 164, 3) := by decide +kernel
theorem dX6_look_82 : decode cX6_look 82 = .ok (.ifCond .eq 47, 3) := by decide +kernel
theorem dX6_look_85 : decode cX6_look 85 = .ok (.aload_n 0, 1) := by decide +kernel
theorem dX6_look_86 : decode cX6_look 86 = .ok (.iconst 1, 1) := by decide +kernel
theorem dX6_look_87 : decode cX6_look 87 = .ok (.putfield 161, 3) := by decide +kernel
theorem dX6_look_90 : decode cX6_look 90 = .ok (.aload_n 0, 1) := by decide +kernel
theorem dX6_look_91 : decode cX6_look 91 = .ok (.getfield 152, 3) := by decide +kernel
theorem dX6_look_94 : decode cX6_look 94 = .ok (.aload_n 0, 1) := by decide +kernel
theorem dX6_look_95 : decode cX6_look 95 = .ok (.getfield 149, 3) := by decide +kernel
theorem dX6_look_98 : decode cX6_look 98 = .ok (.if_icmp .ge 166, 3) := by decide +kernel
theorem dX6_look_101 : decode cX6_look 101 = .ok (.aload_n 0, 1) := by decide +kernel
theorem dX6_look_102 : decode cX6_look 102 = .ok (.getfield 31, 3) := by decide +kernel
theorem dX6_look_105 : decode cX6_look 105 = .ok (.aload_n 0, 1) := by decide +kernel
theorem dX6_look_106 : decode cX6_look 106 = .ok (.getfield 152, 3) := by decide +kernel
theorem dX6_look_109 : decode cX6_look 109 = .ok (.iaload, 1) := by decide +kernel
theorem dX6_look_110 : decode cX6_look 110 = .ok (.invokestatic 164, 3) := by decide +kernel
theorem dX6_look_113 : decode cX6_look 113 = .ok (.ifCond .eq 151, 3) := by decide +kernel
theorem dX6_look_116 : decode cX6_look 116 = .ok (.aload_n 0, 1) := by decide +kernel
theorem dX6_look_117 : decode cX6_look 117 = .ok (.dup, 1) := by decide +kernel
theorem dX6_look_118 : decode cX6_look 118 = .ok (.getfield 152, 3) := by decide +kernel
theorem dX6_look_121 : decode cX6_look 121 = .ok (.iconst 1, 1) := by decide +kernel
theorem dX6_look_122 : decode cX6_look 122 = .ok (.iadd, 1) := by decide +kernel
theorem dX6_look_123 : decode cX6_look 123 = .ok (.putfield 152, 3) := by decide +kernel
theorem dX6_look_126 : decode cX6_look 126 = .ok (.goto (-36), 3) := by decide +kernel
theorem dX6_look_129 : decode cX6_look 129 = .ok (.aload_n 0, 1) := by decide +kernel
theorem dX6_look_130 : decode cX6_look 130 = .ok (.getfield 31, 3) := by decide +kernel
theorem dX6_look_133 : decode cX6_look 133 = .ok (.aload_n 0, 1) := by decide +kernel
theorem dX6_look_134 : decode cX6_look 134 = .ok (.getfield 152, 3) := by decide +kernel
theorem dX6_look_137 : decode cX6_look 137 = .ok (.iaload, 1) := by decide +kernel
theorem dX6_look_138 : decode cX6_look 138 = .ok (.invokestatic 167, 3) := by decide +kernel
theorem dX6_look_141 : decode cX6_look 141 = .ok (.ifCond .eq 90, 3) := by decide +kernel
theorem dX6_look_144 : decode cX6_look 144 = .ok (.aload_n 0, 1) := by decide +kernel
theorem dX6_look_145 : decode cX6_look 145 = .ok (.iconst 2, 1) := by decide +kernel
theorem dX6_look_146 : decode cX6_look 146 = .ok (.putfield 161, 3) := by decide +kernel
theorem dX6_look_149 : decode cX6_look 149 = .ok (.aload_n 0, 1) := by decide +kernel
theorem dX6_look_150 : decode cX6_look 150 = .ok (.getfield 152, 3) := by decide +kernel
theorem dX6_look_153 : decode cX6_look 153 = .ok (.aload_n 0, 1) := by decide +kernel
theorem dX6_look_154 : decode cX6_look 154 = .ok (.getfield 149, 3) := by decide +kernel
theorem dX6_look_157 : decode cX6_look 157 = .ok (.if_icmp .ge 107, 3) := by decide +kernel
theorem dX6_look_160 : decode cX6_look 160 = .ok (.aload_n 0, 1) := by decide +kernel
theorem dX6_look_161 : decode cX6_look 161 = .ok (.getfield 31, 3) := by decide +kernel
theorem dX6_look_164 : decode cX6_look 164 = .ok (.aload_n 0, 1) := by decide +kernel
theorem dX6_look_165 : decode cX6_look 165 = .ok (.getfield 152, 3) := by decide +kernel
theorem dX6_look_168 : decode cX6_look 168 = .ok (.iaload, 1) := by decide +kernel
theorem dX6_look_169 : decode cX6_look 169 = .ok (.invokestatic 167, 3) := by decide +kernel
theorem dX6_look_172 : decode cX6_look 172 = .ok (.ifCond .eq 92, 3) := by decide +kernel
theorem dX6_look_175 : decode cX6_look 175 = .ok (.aload_n 0, 1) := by decide +kernel
theorem dX6_look_176 : decode cX6_look 176 = .ok (.aload_n 0, 1) := by decide +kernel
theorem dX6_look_177 : decode cX6_look 177 = .ok (.getfield 152, 3) := by decide +kernel
theorem dX6_look_180 : decode cX6_look 180 = .ok (.aload_n 0, 1) := by decide +kernel
theorem dX6_look_181 : decode cX6_look 181 = .ok (.getfield 155, 3) := by decide +kernel
theorem dX6_look_184 : decode cX6_look 184 = .ok (.isub, 1) := by decide +kernel
theorem dX6_look_185 : decode cX6_look 185 = .ok (.iconst 3, 1) := by decide +kernel
theorem dX6_look_186 : decode cX6_look 186 = .ok (.if_icmp .ge 26, 3) := by decide +kernel
theorem dX6_look_189 : decode cX6_look 189 = .ok (.aload_n 0, 1) := by decide +kernel
theorem dX6_look_190 : decode cX6_look 190 = .ok (.getfield 158, 3) := by decide +kernel
theorem dX6_look_193 : decode cX6_look 193 = .ok (.bipush 10, 2) := by decide +kernel
theorem dX6_look_195 : decode cX6_look 195 = .ok (.imul, 1) := by decide +kernel
theorem dX6_look_196 : decode cX6_look 196 = .ok (.aload_n 0, 1) := by decide +kernel
theorem dX6_look_197 : decode cX6_look 197 = .ok (.getfield 31, 3) := by decide +kernel
theorem dX6_look_200 : decode cX6_look 200 = .ok (.aload_n 0, 1) := by decide +kernel
theorem dX6_look_201 : decode cX6_look 201 = .ok (.getfield 152, 3) := by decide +kernel
theorem dX6_look_204 : decode cX6_look 204 = .ok (.iaload, 1) := by decide +kernel
theorem dX6_look_205 : decode cX6_look 205 = .ok (.iadd, 1) := by decide +kernel
theorem dX6_look_206 : decode cX6_look 206 = .ok (.bipush 48, 2) := by decide +kernel
theorem dX6_look_208 : decode cX6_look 208 = .ok (.isub, 1) := by decide +kernel
theorem dX6_look_209 : decode cX6_look 209 = .ok (.goto 6, 3) := by decide +kernel
theorem dX6_look_212 : decode cX6_look 212 = .ok (.sipush 1000, 3) := by decide +kernel
theorem dX6_look_215 : decode cX6_look 215 = .ok (.putfield 158, 3) := by decide +kernel
theorem dX6_look_218 : decode cX6_look 218 = .ok (.aload_n 0, 1) := by decide +kernel
theorem dX6_look_219 : decode cX6_look 219 = .ok (.dup, 1) := by decide +kernel
theorem dX6_look_220 : decode cX6_look 220 = .ok (.getfield 152, 3) := by decide +kernel
theorem dX6_look_223 : decode cX6_look 223 = .ok (.iconst 1, 1) := by decide +kernel
theorem dX6_look_224 : decode cX6_look 224 = .ok (.iadd, 1) := by decide +kernel
theorem dX6_look_225 : decode cX6_look 225 = .ok (.putfield 152, 3) := by decide +kernel
theorem dX6_look_228 : decode cX6_look 228 = .ok (.goto (-79), 3) := by decide +kernel
theorem dX6_look_231 : decode cX6_look 231 = .ok (.aload_n 0, 1) := by decide +kernel
theorem dX6_look_232 : decode cX6_look 232 = .ok (.aload_n 0, 1) := by decide +kernel
theorem dX6_look_233 : decode cX6_look 233 = .ok (.getfield 31, 3) := by decide +kernel
theorem dX6_look_236 : decode cX6_look 236 = .ok (.aload_n 0, 1) := by decide +kernel
theorem dX6_look_237 : decode cX6_look 237 = .ok (.getfield 152, 3) := by decide +kernel
theorem dX6_look_240 : decode cX6_look 240 = .ok (.iaload, 1) := by decide +kernel
theorem dX6_look_241 : decode cX6_look 241 = .ok (.bipush 59, 2) := by decide +kernel
theorem dX6_look_243 : decode cX6_look 243 = .ok (.if_icmp .ne 7, 3) := by decide +kernel
theorem dX6_look_246 : decode cX6_look 246 = .ok (.iconst 3, 1) := by decide +kernel
theorem dX6_look_247 : decode cX6_look 247 = .ok (.goto 4, 3) := by decide +kernel
theorem dX6_look_250 : decode cX6_look 250 = .ok (.iconst 4, 1) := by decide +kernel
theorem dX6_look_251 : decode cX6_look 251 = .ok (.putfield 161, 3) := by decide +kernel
theorem dX6_look_254 : decode cX6_look 254 = .ok (.aload_n 0, 1) := by decide +kernel
theorem dX6_look_255 : decode cX6_look 255 = .ok (.dup, 1) := by decide +kernel
theorem dX6_look_256 : decode cX6_look 256 = .ok (.getfield 152, 3) := by decide +kernel
theorem dX6_look_259 : decode cX6_look 259 = .ok (.iconst 1, 1) := by decide +kernel
theorem dX6_look_260 : decode cX6_look 260 = .ok (.iadd, 1) := by decide +kernel
theorem dX6_look_261 : decode cX6_look 261 = .ok (.putfield 152, 3) := by decide +kernel
theorem dX6_look_264 : decode cX6_look 264 = .ok (.return_, 1) := by decide +kernel
theorem dX6_wrong_0 : decode cX6_wrong 0 = .ok (.aload_n 0, 1) := by decide +kernel
theorem dX6_wrong_1 : decode cX6_wrong 1 = .ok (.aload_n 0, 1) := by decide +kernel
theorem dX6_wrong_2 : decode cX6_wrong 2 = .ok (.getfield 155, 3) := by decide +kernel
theorem dX6_wrong_5 : decode cX6_wrong 5 = .ok (.putfield 170, 3) := by decide +kernel
theorem dX6_wrong_8 : decode cX6_wrong 8 = .ok (.iconst 0, 1) := by decide +kernel
theorem dX6_wrong_9 : decode cX6_wrong 9 = .ok (.ireturn, 1) := by decide +kernel
theorem dX6_isWord_0 : decode cX6_isWord 0 = .ok (.aload_n 0, 1) := by decide +kernel
theorem dX6_isWord_1 : decode cX6_isWord 1 = .ok (.getfield 161, 3) := by decide +kernel
theorem dX6_isWord_4 : decode cX6_isWord 4 = .ok (.iconst 1, 1) := by decide +kernel
theorem dX6_isWord_5 : decode cX6_isWord 5 = .ok (.if_icmp .ne 19, 3) := by decide +kernel
theorem dX6_isWord_8 : decode cX6_isWord 8 = .ok (.aload_n 0, 1) := by decide +kernel
theorem dX6_isWord_9 : decode cX6_isWord 9 = .ok (.getfield 152, 3) := by decide +kernel
theorem dX6_isWord_12 : decode cX6_isWord 12 = .ok (.aload_n 0, 1) := by decide +kernel
theorem dX6_isWord_13 : decode cX6_isWord 13 = .ok (.getfield 155, 3) := by decide +kernel
theorem dX6_isWord_16 : decode cX6_isWord 16 = .ok (.isub, 1) := by decide +kernel
theorem dX6_isWord_17 : decode cX6_isWord 17 = .ok (.aload_n 1, 1) := by decide +kernel
theorem dX6_isWord_18 : decode cX6_isWord 18 = .ok (.invokevirtual 173, 3) := by decide +kernel
theorem dX6_isWord_21 : decode cX6_isWord 21 = .ok (.if_icmp .eq 5, 3) := by decide +kernel
theorem dX6_isWord_24 : decode cX6_isWord 24 = .ok (.iconst 0, 1) := by decide +kernel
theorem dX6_isWord_25 : decode cX6_isWord 25 = .ok (.ireturn, 1) := by decide +kernel
theorem dX6_isWord_26 : decode cX6_isWord 26 = .ok (.iconst 0, 1) := by decide +kernel
theorem dX6_isWord_27 : decode cX6_isWord 27 = .ok (.istore_n 2, 1) := by decide +kernel
theorem dX6_isWord_28 : decode cX6_isWord 28 = .ok (.iload_n 2, 1) := by decide +kernel
theorem dX6_isWord_29 : decode cX6_isWord 29 = .ok (.aload_n 1, 1) := by decide +kernel
theorem dX6_isWord_30 : decode cX6_isWord 30 = .ok (.invokevirtual 173, 3) := by decide +kernel
theorem dX6_isWord_33 : decode cX6_isWord 33 = .ok (.if_icmp .ge 30, 3) := by decide +kernel
theorem dX6_isWord_36 : decode cX6_isWord 36 = .ok (.aload_n 0, 1) := by decide +kernel
theorem dX6_isWord_37 : decode cX6_isWord 37 = .ok (.getfield 31, 3) := by decide +kernel
theorem dX6_isWord_40 : decode cX6_isWord 40 = .ok (.aload_n 0, 1) := by decide +kernel
theorem dX6_isWord_41 : decode cX6_isWord 41 = .ok (.getfield 155, 3) := by decide +kernel
theorem dX6_isWord_44 : decode cX6_isWord 44 = .ok (.iload_n 2, 1) := by decide +kernel
theorem dX6_isWord_45 : decode cX6_isWord 45 = .ok (.iadd, 1) := by decide +kernel
theorem dX6_isWord_46 : decode cX6_isWord 46 = .ok (.iaload, 1) := by decide +kernel
theorem dX6_isWord_47 : decode cX6_isWord 47 = .ok (.aload_n 1, 1) := by decide +kernel
theorem dX6_isWord_48 : decode cX6_isWord 48 = .ok (.iload_n 2, 1) := by decide +kernel
theorem dX6_isWord_49 : decode cX6_isWord 49 = .ok (.invokevirtual 179, 3) := by decide +kernel
theorem dX6_isWord_52 : decode cX6_isWord 52 = .ok (.if_icmp .eq 5, 3) := by decide +kernel
theorem dX6_isWord_55 : decode cX6_isWord 55 = .ok (.iconst 0, 1) := by decide +kernel
theorem dX6_isWord_56 : decode cX6_isWord 56 = .ok (.ireturn, 1) := by decide +kernel
theorem dX6_isWord_57 : decode cX6_isWord 57 = .ok (.iinc 2 1, 3) := by decide +kernel
theorem dX6_isWord_60 : decode cX6_isWord 60 = .ok (.goto (-32), 3) := by decide +kernel
theorem dX6_isWord_63 : decode cX6_isWord 63 = .ok (.iconst 1, 1) := by decide +kernel
theorem dX6_isWord_64 : decode cX6_isWord 64 = .ok (.ireturn, 1) := by decide +kernel
theorem dX6_number_0 : decode cX6_number 0 = .ok (.aload_n 0, 1) := by decide +kernel
theorem dX6_number_1 : decode cX6_number 1 = .ok (.getfield 161, 3) := by decide +kernel
theorem dX6_number_4 : decode cX6_number 4 = .ok (.iconst 2, 1) := by decide +kernel
theorem dX6_number_5 : decode cX6_number 5 = .ok (.if_icmp .ne 18, 3) := by decide +kernel
theorem dX6_number_8 : decode cX6_number 8 = .ok (.aload_n 0, 1) := by decide +kernel
theorem dX6_number_9 : decode cX6_number 9 = .ok (.getfield 158, 3) := by decide +kernel
theorem dX6_number_12 : decode cX6_number 12 = .ok (.i2l, 1) := by decide +kernel
theorem dX6_number_13 : decode cX6_number 13 = .ok (.iload_n 2, 1) := by decide +kernel
theorem dX6_number_14 : decode cX6_number 14 = .ok (.i2l, 1) := by decide +kernel
theorem dX6_number_15 : decode cX6_number 15 = .ok (.iload_n 3, 1) := by decide +kernel
theorem dX6_number_16 : decode cX6_number 16 = .ok (.i2l, 1) := by decide +kernel
theorem dX6_number_17 : decode cX6_number 17 = .ok (.invokestatic 92, 3) := by decide +kernel
theorem dX6_number_20 : decode cX6_number 20 = .ok (.ifCond .ne 8, 3) := by decide +kernel
theorem dX6_number_23 : decode cX6_number 23 = .ok (.aload_n 0, 1) := by decide +kernel
theorem dX6_number_24 : decode cX6_number 24 = .ok (.invokevirtual 183, 3) := by decide +kernel
theorem dX6_number_27 : decode cX6_number 27 = .ok (.ireturn, 1) := by decide +kernel
theorem dX6_number_28 : decode cX6_number 28 = .ok (.aload_n 0, 1) := by decide +kernel
theorem dX6_number_29 : decode cX6_number 29 = .ok (.getfield 59, 3) := by decide +kernel
theorem dX6_number_32 : decode cX6_number 32 = .ok (.iload_n 1, 1) := by decide +kernel
theorem dX6_number_33 : decode cX6_number 33 = .ok (.aload_n 0, 1) := by decide +kernel
theorem dX6_number_34 : decode cX6_number 34 = .ok (.getfield 158, 3) := by decide +kernel
theorem dX6_number_37 : decode cX6_number 37 = .ok (.iastore, 1) := by decide +kernel
theorem dX6_number_38 : decode cX6_number 38 = .ok (.aload_n 0, 1) := by decide +kernel
theorem dX6_number_39 : decode cX6_number 39 = .ok (.invokevirtual 187, 3) := by decide +kernel
theorem dX6_number_42 : decode cX6_number 42 = .ok (.iconst 1, 1) := by decide +kernel
theorem dX6_number_43 : decode cX6_number 43 = .ok (.ireturn, 1) := by decide +kernel
theorem dX6_tells_0 : decode cX6_tells 0 = .ok (.aload_n 0, 1) := by decide +kernel
theorem dX6_tells_1 : decode cX6_tells 1 = .ok (.invokevirtual 187, 3) := by decide +kernel
theorem dX6_tells_4 : decode cX6_tells 4 = .ok (.aload_n 0, 1) := by decide +kernel
theorem dX6_tells_5 : decode cX6_tells 5 = .ok (.iconst 0, 1) := by decide +kernel
theorem dX6_tells_6 : decode cX6_tells 6 = .ok (.iload_n 1, 1) := by decide +kernel
theorem dX6_tells_7 : decode cX6_tells 7 = .ok (.iload_n 2, 1) := by decide +kernel
theorem dX6_tells_8 : decode cX6_tells 8 = .ok (.invokevirtual 190, 3) := by decide +kernel
theorem dX6_tells_11 : decode cX6_tells 11 = .ok (.ireturn, 1) := by decide +kernel
theorem dX6_statement_0 : decode cX6_statement 0 = .ok (.aload_n 0, 1) := by decide +kernel
theorem dX6_statement_1 : decode cX6_statement 1 = .ok (.ldc 194, 2) := by decide +kernel
theorem dX6_statement_3 : decode cX6_statement 3 = .ok (.invokevirtual 196, 3) := by decide +kernel
theorem dX6_statement_6 : decode cX6_statement 6 = .ok (.ifCond .eq 77, 3) := by decide +kernel
theorem dX6_statement_9 : decode cX6_statement 9 = .ok (.aload_n 0, 1) := by decide +kernel
theorem dX6_statement_10 : decode cX6_statement 10 = .ok (.getfield 89, 3) := by decide +kernel
theorem dX6_statement_13 : decode cX6_statement 13 = .ok (.bipush 8, 2) := by decide +kernel
theorem dX6_statement_15 : decode cX6_statement 15 = .ok (.if_icmp .ge 68, 3) := by decide +kernel
theorem dX6_statement_18 : decode cX6_statement 18 = .ok (.aload_n 0, 1) := by decide +kernel
theorem dX6_statement_19 : decode cX6_statement 19 = .ok (.iconst 0, 1) := by decide +kernel
theorem dX6_statement_20 : decode cX6_statement 20 = .ok (.iconst 5, 1) := by decide +kernel
theorem dX6_statement_21 : decode cX6_statement 21 = .ok (.invokevirtual 200, 3) := by decide +kernel
theorem dX6_statement_24 : decode cX6_statement 24 = .ok (.ifCond .eq 29, 3) := by decide +kernel
theorem dX6_statement_27 : decode cX6_statement 27 = .ok (.aload_n 0, 1) := by decide +kernel
theorem dX6_statement_28 : decode cX6_statement 28 = .ok (.iconst 1, 1) := by decide +kernel
theorem dX6_statement_29 : decode cX6_statement 29 = .ok (.iconst 0, 1) := by decide +kernel
theorem dX6_statement_30 : decode cX6_statement 30 = .ok (.bipush 9, 2) := by decide +kernel
theorem dX6_statement_32 : decode cX6_statement 32 = .ok (.invokevirtual 190, 3) := by decide +kernel
theorem dX6_statement_35 : decode cX6_statement 35 = .ok (.ifCond .eq 18, 3) := by decide +kernel
theorem dX6_statement_38 : decode cX6_statement 38 = .ok (.aload_n 0, 1) := by decide +kernel
theorem dX6_statement_39 : decode cX6_statement 39 = .ok (.iconst 2, 1) := by decide +kernel
theorem dX6_statement_40 : decode cX6_statement 40 = .ok (.iconst 0, 1) := by decide +kernel
theorem dX6_statement_41 : decode cX6_statement 41 = .ok (.bipush 20, 2) := by decide +kernel
theorem dX6_statement_43 : decode cX6_statement 43 = .ok (.invokevirtual 190, 3) := by decide +kernel
theorem dX6_statement_46 : decode cX6_statement 46 = .ok (.ifCond .eq 7, 3) := by decide +kernel
theorem dX6_statement_49 : decode cX6_statement 49 = .ok (.iconst 1, 1) := by decide +kernel
theorem dX6_statement_50 : decode cX6_statement 50 = .ok (.goto 4, 3) := by decide +kernel
theorem dX6_statement_53 : decode cX6_statement 53 = .ok (.iconst 0, 1) := by decide +kernel
theorem dX6_statement_54 : decode cX6_statement 54 = .ok (.istore_n 1, 1) := by decide +kernel
theorem dX6_statement_55 : decode cX6_statement 55 = .ok (.iload_n 1, 1) := by decide +kernel
theorem dX6_statement_56 : decode cX6_statement 56 = .ok (.ifCond .eq 25, 3) := by decide +kernel
theorem dX6_statement_59 : decode cX6_statement 59 = .ok (.aload_n 0, 1) := by decide +kernel
theorem dX6_statement_60 : decode cX6_statement 60 = .ok (.aload_n 0, 1) := by decide +kernel
theorem dX6_statement_61 : decode cX6_statement 61 = .ok (.getfield 59, 3) := by decide +kernel
theorem dX6_statement_64 : decode cX6_statement 64 = .ok (.iconst 0, 1) := by decide +kernel
theorem dX6_statement_65 : decode cX6_statement 65 = .ok (.iaload, 1) := by decide +kernel
theorem dX6_statement_66 : decode cX6_statement 66 = .ok (.aload_n 0, 1) := by decide +kernel
theorem dX6_statement_67 : decode cX6_statement 67 = .ok (.getfield 59, 3) := by decide +kernel
theorem dX6_statement_70 : decode cX6_statement 70 = .ok (.iconst 1, 1) := by decide +kernel
theorem dX6_statement_71 : decode cX6_statement 71 = .ok (.iaload, 1) := by decide +kernel
theorem dX6_statement_72 : decode cX6_statement 72 = .ok (.aload_n 0, 1) := by decide +kernel
theorem dX6_statement_73 : decode cX6_statement 73 = .ok (.getfield 59, 3) := by decide +kernel
theorem dX6_statement_76 : decode cX6_statement 76 = .ok (.iconst 2, 1) := by decide +kernel
theorem dX6_statement_77 : decode cX6_statement 77 = .ok (.iaload, 1) := by decide +kernel
theorem dX6_statement_78 : decode cX6_statement 78 = .ok (.invokevirtual 133, 3) := by decide +kernel
theorem dX6_statement_81 : decode cX6_statement 81 = .ok (.iload_n 1, 1) := by decide +kernel
theorem dX6_statement_82 : decode cX6_statement 82 = .ok (.ireturn, 1) := by decide +kernel
theorem dX6_statement_83 : decode cX6_statement 83 = .ok (.aload_n 0, 1) := by decide +kernel
theorem dX6_statement_84 : decode cX6_statement 84 = .ok (.ldc 203, 2) := by decide +kernel
theorem dX6_statement_86 : decode cX6_statement 86 = .ok (.invokevirtual 196, 3) := by decide +kernel
theorem dX6_statement_89 : decode cX6_statement 89 = .ok (.ifCond .eq 57, 3) := by decide +kernel
theorem dX6_statement_92 : decode cX6_statement 92 = .ok (.aload_n 0, 1) := by decide +kernel
theorem dX6_statement_93 : decode cX6_statement 93 = .ok (.iconst 0, 1) := by decide +kernel
theorem dX6_statement_94 : decode cX6_statement 94 = .ok (.aload_n 0, 1) := by decide +kernel
theorem dX6_statement_95 : decode cX6_statement 95 = .ok (.getfield 89, 3) := by decide +kernel
theorem dX6_statement_98 : decode cX6_statement 98 = .ok (.iconst 1, 1) := by decide +kernel
theorem dX6_statement_99 : decode cX6_statement 99 = .ok (.isub, 1) := by decide +kernel
theorem dX6_statement_100 : decode cX6_statement 100 = .ok (.invokevirtual 200, 3) := by decide +kernel
theorem dX6_statement_103 : decode cX6_statement 103 = .ok (.ifCond .eq 18, 3) := by decide +kernel
theorem dX6_statement_106 : decode cX6_statement 106 = .ok (.aload_n 0, 1) := by decide +kernel
theorem dX6_statement_107 : decode cX6_statement 107 = .ok (.iconst 1, 1) := by decide +kernel
theorem dX6_statement_108 : decode cX6_statement 108 = .ok (.iconst 0, 1) := by decide +kernel
theorem dX6_statement_109 : decode cX6_statement 109 = .ok (.bipush 20, 2) := by decide +kernel
theorem dX6_statement_111 : decode cX6_statement 111 = .ok (.invokevirtual 190, 3) := by decide +kernel
theorem dX6_statement_114 : decode cX6_statement 114 = .ok (.ifCond .eq 7, 3) := by decide +kernel
theorem dX6_statement_117 : decode cX6_statement 117 = .ok (.iconst 1, 1) := by decide +kernel
theorem dX6_statement_118 : decode cX6_statement 118 = .ok (.goto 4, 3) := by decide +kernel
theorem dX6_statement_121 : decode cX6_statement 121 = .ok (.iconst 0, 1) := by decide +kernel
theorem dX6_statement_122 : decode cX6_statement 122 = .ok (.istore_n 1, 1) := by decide +kernel
theorem dX6_statement_123 : decode cX6_statement 123 = .ok (.iload_n 1, 1) := by decide +kernel
theorem dX6_statement_124 : decode cX6_statement 124 = .ok (.ifCond .eq 20, 3) := by decide +kernel
theorem dX6_statement_127 : decode cX6_statement 127 = .ok (.aload_n 0, 1) := by decide +kernel
theorem dX6_statement_128 : decode cX6_statement 128 = .ok (.getfield 53, 3) := by decide +kernel
theorem dX6_statement_131 : decode cX6_statement 131 = .ok (.aload_n 0, 1) := by decide +kernel
theorem dX6_statement_132 : decode cX6_statement 132 = .ok (.getfield 59, 3) := by decide +kernel
theorem dX6_statement_135 : decode cX6_statement 135 = .ok (.iconst 0, 1) := by decide +kernel
theorem dX6_statement_136 : decode cX6_statement 136 = .ok (.iaload, 1) := by decide +kernel
theorem dX6_statement_137 : decode cX6_statement 137 = .ok (.aload_n 0, 1) := by decide +kernel
theorem dX6_statement_138 : decode cX6_statement 138 = .ok (.getfield 59, 3) := by decide +kernel
theorem dX6_statement_141 : decode cX6_statement 141 = .ok (.iconst 1, 1) := by decide +kernel
theorem dX6_statement_142 : decode cX6_statement 142 = .ok (.iaload, 1) := by decide +kernel
theorem dX6_statement_143 : decode cX6_statement 143 = .ok (.iastore, 1) := by decide +kernel
theorem dX6_statement_144 : decode cX6_statement 144 = .ok (.iload_n 1, 1) := by decide +kernel
theorem dX6_statement_145 : decode cX6_statement 145 = .ok (.ireturn, 1) := by decide +kernel
theorem dX6_statement_146 : decode cX6_statement 146 = .ok (.aload_n 0, 1) := by decide +kernel
theorem dX6_statement_147 : decode cX6_statement 147 = .ok (.ldc 204, 2) := by decide +kernel
theorem dX6_statement_149 : decode cX6_statement 149 = .ok (.invokevirtual 196, 3) := by decide +kernel
theorem dX6_statement_152 : decode cX6_statement 152 = .ok (.ifCond .eq 34, 3) := by decide +kernel
theorem dX6_statement_155 : decode cX6_statement 155 = .ok (.aload_n 0, 1) := by decide +kernel
theorem dX6_statement_156 : decode cX6_statement 156 = .ok (.iconst 0, 1) := by decide +kernel
theorem dX6_statement_157 : decode cX6_statement 157 = .ok (.bipush 40, 2) := by decide +kernel
theorem dX6_statement_159 : decode cX6_statement 159 = .ok (.invokevirtual 200, 3) := by decide +kernel
theorem dX6_statement_162 : decode cX6_statement 162 = .ok (.istore_n 1, 1) := by decide +kernel
theorem dX6_statement_163 : decode cX6_statement 163 = .ok (.aload_n 0, 1) := by decide +kernel
theorem dX6_statement_164 : decode cX6_statement 164 = .ok (.iload_n 1, 1) := by decide +kernel
theorem dX6_statement_165 : decode cX6_statement 165 = .ok (.ifCond .eq 12, 3) := by decide +kernel
theorem dX6_statement_168 : decode cX6_statement 168 = .ok (.aload_n 0, 1) := by decide +kernel
theorem dX6_statement_169 : decode cX6_statement 169 = .ok (.getfield 59, 3) := by decide +kernel
theorem dX6_statement_172 : decode cX6_statement 172 = .ok (.iconst 0, 1) := by decide +kernel
theorem dX6_statement_173 : decode cX6_statement 173 = .ok (.iaload, 1) := by decide +kernel
theorem dX6_statement_174 : decode cX6_statement 174 = .ok (.goto 7, 3) := by decide +kernel
theorem dX6_statement_177 : decode cX6_statement 177 = .ok (.aload_n 0, 1) := by decide +kernel
theorem dX6_statement_178 : decode cX6_statement 178 = .ok (.getfield 37, 3) := by decide +kernel
theorem dX6_statement_181 : decode cX6_statement 181 = .ok (.putfield 37, 3) := by decide +kernel
theorem dX6_statement_184 : decode cX6_statement 184 = .ok (.iload_n 1, 1) := by decide +kernel
theorem dX6_statement_185 : decode cX6_statement 185 = .ok (.ireturn, 1) := by decide +kernel
theorem dX6_statement_186 : decode cX6_statement 186 = .ok (.aload_n 0, 1) := by decide +kernel
theorem dX6_statement_187 : decode cX6_statement 187 = .ok (.ldc 205, 2) := by decide +kernel
theorem dX6_statement_189 : decode cX6_statement 189 = .ok (.invokevirtual 196, 3) := by decide +kernel
theorem dX6_statement_192 : decode cX6_statement 192 = .ok (.ifCond .eq 34, 3) := by decide +kernel
theorem dX6_statement_195 : decode cX6_statement 195 = .ok (.aload_n 0, 1) := by decide +kernel
theorem dX6_statement_196 : decode cX6_statement 196 = .ok (.iconst 0, 1) := by decide +kernel
theorem dX6_statement_197 : decode cX6_statement 197 = .ok (.bipush 9, 2) := by decide +kernel
theorem dX6_statement_199 : decode cX6_statement 199 = .ok (.invokevirtual 200, 3) := by decide +kernel
theorem dX6_statement_202 : decode cX6_statement 202 = .ok (.istore_n 1, 1) := by decide +kernel
theorem dX6_statement_203 : decode cX6_statement 203 = .ok (.aload_n 0, 1) := by decide +kernel
theorem dX6_statement_204 : decode cX6_statement 204 = .ok (.iload_n 1, 1) := by decide +kernel
theorem dX6_statement_205 : decode cX6_statement 205 = .ok (.ifCond .eq 12, 3) := by decide +kernel
theorem dX6_statement_208 : decode cX6_statement 208 = .ok (.aload_n 0, 1) := by decide +kernel
theorem dX6_statement_209 : decode cX6_statement 209 = .ok (.getfield 59, 3) := by decide +kernel
theorem dX6_statement_212 : decode cX6_statement 212 = .ok (.iconst 0, 1) := by decide +kernel
theorem dX6_statement_213 : decode cX6_statement 213 = .ok (.iaload, 1) := by decide +kernel
theorem dX6_statement_214 : decode cX6_statement 214 = .ok (.goto 7, 3) := by decide +kernel
theorem dX6_statement_217 : decode cX6_statement 217 = .ok (.aload_n 0, 1) := by decide +kernel
theorem dX6_statement_218 : decode cX6_statement 218 = .ok (.getfield 41, 3) := by decide +kernel
theorem dX6_statement_221 : decode cX6_statement 221 = .ok (.putfield 41, 3) := by decide +kernel
theorem dX6_statement_224 : decode cX6_statement 224 = .ok (.iload_n 1, 1) := by decide +kernel
theorem dX6_statement_225 : decode cX6_statement 225 = .ok (.ireturn, 1) := by decide +kernel
theorem dX6_statement_226 : decode cX6_statement 226 = .ok (.aload_n 0, 1) := by decide +kernel
theorem dX6_statement_227 : decode cX6_statement 227 = .ok (.ldc 206, 2) := by decide +kernel
theorem dX6_statement_229 : decode cX6_statement 229 = .ok (.invokevirtual 196, 3) := by decide +kernel
theorem dX6_statement_232 : decode cX6_statement 232 = .ok (.ifCond .eq 35, 3) := by decide +kernel
theorem dX6_statement_235 : decode cX6_statement 235 = .ok (.aload_n 0, 1) := by decide +kernel
theorem dX6_statement_236 : decode cX6_statement 236 = .ok (.iconst 0, 1) := by decide +kernel
theorem dX6_statement_237 : decode cX6_statement 237 = .ok (.sipush 999, 3) := by decide +kernel
theorem dX6_statement_240 : decode cX6_statement 240 = .ok (.invokevirtual 200, 3) := by decide +kernel
theorem dX6_statement_243 : decode cX6_statement 243 = .ok (.istore_n 1, 1) := by decide +kernel
theorem dX6_statement_244 : decode cX6_statement 244 = .ok (.aload_n 0, 1) := by decide +kernel
theorem dX6_statement_245 : decode cX6_statement 245 = .ok (.iload_n 1, 1) := by decide +kernel
theorem dX6_statement_246 : decode cX6_statement 246 = .ok (.ifCond .eq 12, 3) := by decide +kernel
theorem dX6_statement_249 : decode cX6_statement 249 = .ok (.aload_n 0, 1) := by decide +kernel
theorem dX6_statement_250 : decode cX6_statement 250 = .ok (.getfield 59, 3) := by decide +kernel
theorem dX6_statement_253 : decode cX6_statement 253 = .ok (.iconst 0, 1) := by decide +kernel
theorem dX6_statement_254 : decode cX6_statement 254 = .ok (.iaload, 1) := by decide +kernel
theorem dX6_statement_255 : decode cX6_statement 255 = .ok (.goto 7, 3) := by decide +kernel
theorem dX6_statement_258 : decode cX6_statement 258 = .ok (.aload_n 0, 1) := by decide +kernel
theorem dX6_statement_259 : decode cX6_statement 259 = .ok (.getfield 141, 3) := by decide +kernel
theorem dX6_statement_262 : decode cX6_statement 262 = .ok (.putfield 141, 3) := by decide +kernel
theorem dX6_statement_265 : decode cX6_statement 265 = .ok (.iload_n 1, 1) := by decide +kernel
theorem dX6_statement_266 : decode cX6_statement 266 = .ok (.ireturn, 1) := by decide +kernel
theorem dX6_statement_267 : decode cX6_statement 267 = .ok (.aload_n 0, 1) := by decide +kernel
theorem dX6_statement_268 : decode cX6_statement 268 = .ok (.ldc 207, 2) := by decide +kernel
theorem dX6_statement_270 : decode cX6_statement 270 = .ok (.invokevirtual 196, 3) := by decide +kernel
theorem dX6_statement_273 : decode cX6_statement 273 = .ok (.ifCond .eq 80, 3) := by decide +kernel
theorem dX6_statement_276 : decode cX6_statement 276 = .ok (.aload_n 0, 1) := by decide +kernel
theorem dX6_statement_277 : decode cX6_statement 277 = .ok (.iconst 2, 1) := by decide +kernel
theorem dX6_statement_278 : decode cX6_statement 278 = .ok (.bipush 9, 2) := by decide +kernel
theorem dX6_statement_280 : decode cX6_statement 280 = .ok (.invokevirtual 200, 3) := by decide +kernel
theorem dX6_statement_283 : decode cX6_statement 283 = .ok (.ifCond .eq 24, 3) := by decide +kernel
theorem dX6_statement_286 : decode cX6_statement 286 = .ok (.aload_n 0, 1) := by decide +kernel
theorem dX6_statement_287 : decode cX6_statement 287 = .ok (.iconst 1, 1) := by decide +kernel
theorem dX6_statement_288 : decode cX6_statement 288 = .ok (.iconst 0, 1) := by decide +kernel
theorem dX6_statement_289 : decode cX6_statement 289 = .ok (.aload_n 0, 1) := by decide +kernel
theorem dX6_statement_290 : decode cX6_statement 290 = .ok (.getfield 59, 3) := by decide +kernel
theorem dX6_statement_293 : decode cX6_statement 293 = .ok (.iconst 0, 1) := by decide +kernel
theorem dX6_statement_294 : decode cX6_statement 294 = .ok (.iaload, 1) := by decide +kernel
theorem dX6_statement_295 : decode cX6_statement 295 = .ok (.iconst 1, 1) := by decide +kernel
theorem dX6_statement_296 : decode cX6_statement 296 = .ok (.isub, 1) := by decide +kernel
theorem dX6_statement_297 : decode cX6_statement 297 = .ok (.invokevirtual 190, 3) := by decide +kernel
theorem dX6_statement_300 : decode cX6_statement 300 = .ok (.ifCond .eq 7, 3) := by decide +kernel
theorem dX6_statement_303 : decode cX6_statement 303 = .ok (.iconst 1, 1) := by decide +kernel
theorem dX6_statement_304 : decode cX6_statement 304 = .ok (.goto 4, 3) := by decide +kernel
theorem dX6_statement_307 : decode cX6_statement 307 = .ok (.iconst 0, 1) := by decide +kernel
theorem dX6_statement_308 : decode cX6_statement 308 = .ok (.istore_n 1, 1) := by decide +kernel
theorem dX6_statement_309 : decode cX6_statement 309 = .ok (.aload_n 0, 1) := by decide +kernel
theorem dX6_statement_310 : decode cX6_statement 310 = .ok (.iload_n 1, 1) := by decide +kernel
theorem dX6_statement_311 : decode cX6_statement 311 = .ok (.ifCond .eq 12, 3) := by decide +kernel
theorem dX6_statement_314 : decode cX6_statement 314 = .ok (.aload_n 0, 1) := by decide +kernel
theorem dX6_statement_315 : decode cX6_statement 315 = .ok (.getfield 59, 3) := by decide +kernel
theorem dX6_statement_318 : decode cX6_statement 318 = .ok (.iconst 0, 1) := by decide +kernel
theorem dX6_statement_319 : decode cX6_statement 319 = .ok (.iaload, 1) := by decide +kernel
theorem dX6_statement_320 : decode cX6_statement 320 = .ok (.goto 7, 3) := by decide +kernel
theorem dX6_statement_323 : decode cX6_statement 323 = .ok (.aload_n 0, 1) := by decide +kernel
theorem dX6_statement_324 : decode cX6_statement 324 = .ok (.getfield 44, 3) := by decide +kernel
theorem dX6_statement_327 : decode cX6_statement 327 = .ok (.putfield 44, 3) := by decide +kernel
theorem dX6_statement_330 : decode cX6_statement 330 = .ok (.aload_n 0, 1) := by decide +kernel
theorem dX6_statement_331 : decode cX6_statement 331 = .ok (.iload_n 1, 1) := by decide +kernel
theorem dX6_statement_332 : decode cX6_statement 332 = .ok (.ifCond .eq 12, 3) := by decide +kernel
theorem dX6_statement_335 : decode cX6_statement 335 = .ok (.aload_n 0, 1) := by decide +kernel
theorem dX6_statement_336 : decode cX6_statement 336 = .ok (.getfield 59, 3) := by decide +kernel
theorem dX6_statement_339 : decode cX6_statement 339 = .ok (.iconst 1, 1) := by decide +kernel
theorem dX6_statement_340 : decode cX6_statement 340 = .ok (.iaload, 1) := by decide +kernel
theorem dX6_statement_341 : decode cX6_statement 341 = .ok (.goto 7, 3) := by decide +kernel
theorem dX6_statement_344 : decode cX6_statement 344 = .ok (.aload_n 0, 1) := by decide +kernel
theorem dX6_statement_345 : decode cX6_statement 345 = .ok (.getfield 144, 3) := by decide +kernel
theorem dX6_statement_348 : decode cX6_statement 348 = .ok (.putfield 144, 3) := by decide +kernel
theorem dX6_statement_351 : decode cX6_statement 351 = .ok (.iload_n 1, 1) := by decide +kernel
theorem dX6_statement_352 : decode cX6_statement 352 = .ok (.ireturn, 1) := by decide +kernel
theorem dX6_statement_353 : decode cX6_statement 353 = .ok (.aload_n 0, 1) := by decide +kernel
theorem dX6_statement_354 : decode cX6_statement 354 = .ok (.invokevirtual 183, 3) := by decide +kernel
theorem dX6_statement_357 : decode cX6_statement 357 = .ok (.ireturn, 1) := by decide +kernel
theorem dX6_readAll_0 : decode cX6_readAll 0 = .ok (.aload_n 0, 1) := by decide +kernel
theorem dX6_readAll_1 : decode cX6_readAll 1 = .ok (.iconst 1, 1) := by decide +kernel
theorem dX6_readAll_2 : decode cX6_readAll 2 = .ok (.putfield 209, 3) := by decide +kernel
theorem dX6_readAll_5 : decode cX6_readAll 5 = .ok (.aload_n 0, 1) := by decide +kernel
theorem dX6_readAll_6 : decode cX6_readAll 6 = .ok (.iconst 0, 1) := by decide +kernel
theorem dX6_readAll_7 : decode cX6_readAll 7 = .ok (.putfield 152, 3) := by decide +kernel
theorem dX6_readAll_10 : decode cX6_readAll 10 = .ok (.aload_n 0, 1) := by decide +kernel
theorem dX6_readAll_11 : decode cX6_readAll 11 = .ok (.invokevirtual 187, 3) := by decide +kernel
theorem dX6_readAll_14 : decode cX6_readAll 14 = .ok (.aload_n 0, 1) := by decide +kernel
theorem dX6_readAll_15 : decode cX6_readAll 15 = .ok (.invokevirtual 212, 3) := by decide +kernel
theorem dX6_readAll_18 : decode cX6_readAll 18 = .ok (.ifCond .ne 5, 3) := by decide +kernel
theorem dX6_readAll_21 : decode cX6_readAll 21 = .ok (.iconst 0, 1) := by decide +kernel
theorem dX6_readAll_22 : decode cX6_readAll 22 = .ok (.ireturn, 1) := by decide +kernel
theorem dX6_readAll_23 : decode cX6_readAll 23 = .ok (.aload_n 0, 1) := by decide +kernel
theorem dX6_readAll_24 : decode cX6_readAll 24 = .ok (.getfield 161, 3) := by decide +kernel
theorem dX6_readAll_27 : decode cX6_readAll 27 = .ok (.ifCond .eq 42, 3) := by decide +kernel
theorem dX6_readAll_30 : decode cX6_readAll 30 = .ok (.aload_n 0, 1) := by decide +kernel
theorem dX6_readAll_31 : decode cX6_readAll 31 = .ok (.getfield 161, 3) := by decide +kernel
theorem dX6_readAll_34 : decode cX6_readAll 34 = .ok (.iconst 3, 1) := by decide +kernel
theorem dX6_readAll_35 : decode cX6_readAll 35 = .ok (.if_icmp .eq 8, 3) := by decide +kernel
theorem dX6_readAll_38 : decode cX6_readAll 38 = .ok (.aload_n 0, 1) := by decide +kernel
theorem dX6_readAll_39 : decode cX6_readAll 39 = .ok (.invokevirtual 183, 3) := by decide +kernel
theorem dX6_readAll_42 : decode cX6_readAll 42 = .ok (.ireturn, 1) := by decide +kernel
theorem dX6_readAll_43 : decode cX6_readAll 43 = .ok (.aload_n 0, 1) := by decide +kernel
theorem dX6_readAll_44 : decode cX6_readAll 44 = .ok (.invokevirtual 187, 3) := by decide +kernel
theorem dX6_readAll_47 : decode cX6_readAll 47 = .ok (.aload_n 0, 1) := by decide +kernel
theorem dX6_readAll_48 : decode cX6_readAll 48 = .ok (.invokevirtual 212, 3) := by decide +kernel
theorem dX6_readAll_51 : decode cX6_readAll 51 = .ok (.ifCond .ne 5, 3) := by decide +kernel
theorem dX6_readAll_54 : decode cX6_readAll 54 = .ok (.iconst 0, 1) := by decide +kernel
theorem dX6_readAll_55 : decode cX6_readAll 55 = .ok (.ireturn, 1) := by decide +kernel
theorem dX6_readAll_56 : decode cX6_readAll 56 = .ok (.aload_n 0, 1) := by decide +kernel
theorem dX6_readAll_57 : decode cX6_readAll 57 = .ok (.dup, 1) := by decide +kernel
theorem dX6_readAll_58 : decode cX6_readAll 58 = .ok (.getfield 209, 3) := by decide +kernel
theorem dX6_readAll_61 : decode cX6_readAll 61 = .ok (.iconst 1, 1) := by decide +kernel
theorem dX6_readAll_62 : decode cX6_readAll 62 = .ok (.iadd, 1) := by decide +kernel
theorem dX6_readAll_63 : decode cX6_readAll 63 = .ok (.putfield 209, 3) := by decide +kernel
theorem dX6_readAll_66 : decode cX6_readAll 66 = .ok (.goto (-43), 3) := by decide +kernel
theorem dX6_readAll_69 : decode cX6_readAll 69 = .ok (.iconst 1, 1) := by decide +kernel
theorem dX6_readAll_70 : decode cX6_readAll 70 = .ok (.ireturn, 1) := by decide +kernel
theorem dX6_well_0 : decode cX6_well 0 = .ok (.aload_n 0, 1) := by decide +kernel
theorem dX6_well_1 : decode cX6_well 1 = .ok (.getfield 215, 3) := by decide +kernel
theorem dX6_well_4 : decode cX6_well 4 = .ok (.ifnonnull 14, 3) := by decide +kernel
theorem dX6_well_7 : decode cX6_well 7 = .ok (.aload_n 0, 1) := by decide +kernel
theorem dX6_well_8 : decode cX6_well 8 = .ok (.new 8, 3) := by decide +kernel
theorem dX6_well_11 : decode cX6_well 11 = .ok (.dup, 1) := by decide +kernel
theorem dX6_well_12 : decode cX6_well 12 = .ok (.invokespecial 219, 3) := by decide +kernel
theorem dX6_well_15 : decode cX6_well 15 = .ok (.putfield 215, 3) := by decide +kernel
theorem dX6_well_18 : decode cX6_well 18 = .ok (.aload_n 0, 1) := by decide +kernel
theorem dX6_well_19 : decode cX6_well 19 = .ok (.getfield 215, 3) := by decide +kernel
theorem dX6_well_22 : decode cX6_well 22 = .ok (.aload_n 0, 1) := by decide +kernel
theorem dX6_well_23 : decode cX6_well 23 = .ok (.invokevirtual 220, 3) := by decide +kernel
theorem dX6_well_26 : decode cX6_well 26 = .ok (.aload_n 0, 1) := by decide +kernel
theorem dX6_well_27 : decode cX6_well 27 = .ok (.invokevirtual 224, 3) := by decide +kernel
theorem dX6_well_30 : decode cX6_well 30 = .ok (.istore_n 1, 1) := by decide +kernel
theorem dX6_well_31 : decode cX6_well 31 = .ok (.aload_n 0, 1) := by decide +kernel
theorem dX6_well_32 : decode cX6_well 32 = .ok (.iconst 0, 1) := by decide +kernel
theorem dX6_well_33 : decode cX6_well 33 = .ok (.putfield 149, 3) := by decide +kernel
theorem dX6_well_36 : decode cX6_well 36 = .ok (.iload_n 1, 1) := by decide +kernel
theorem dX6_well_37 : decode cX6_well 37 = .ok (.ifCond .ne 26, 3) := by decide +kernel
theorem dX6_well_40 : decode cX6_well 40 = .ok (.aload_n 0, 1) := by decide +kernel
theorem dX6_well_41 : decode cX6_well 41 = .ok (.aload_n 0, 1) := by decide +kernel
theorem dX6_well_42 : decode cX6_well 42 = .ok (.getfield 215, 3) := by decide +kernel
theorem dX6_well_45 : decode cX6_well 45 = .ok (.invokevirtual 220, 3) := by decide +kernel
theorem dX6_well_48 : decode cX6_well 48 = .ok (.aload_n 0, 1) := by decide +kernel
theorem dX6_well_49 : decode cX6_well 49 = .ok (.bipush (-2), 2) := by decide +kernel
theorem dX6_well_51 : decode cX6_well 51 = .ok (.invokevirtual 102, 3) := by decide +kernel
theorem dX6_well_54 : decode cX6_well 54 = .ok (.pop, 1) := by decide +kernel
theorem dX6_well_55 : decode cX6_well 55 = .ok (.bipush (-20), 2) := by decide +kernel
theorem dX6_well_57 : decode cX6_well 57 = .ok (.aload_n 0, 1) := by decide +kernel
theorem dX6_well_58 : decode cX6_well 58 = .ok (.getfield 170, 3) := by decide +kernel
theorem dX6_well_61 : decode cX6_well 61 = .ok (.isub, 1) := by decide +kernel
theorem dX6_well_62 : decode cX6_well 62 = .ok (.ireturn, 1) := by decide +kernel
theorem dX6_well_63 : decode cX6_well 63 = .ok (.aload_n 0, 1) := by decide +kernel
theorem dX6_well_64 : decode cX6_well 64 = .ok (.getfield 209, 3) := by decide +kernel
theorem dX6_well_67 : decode cX6_well 67 = .ok (.ireturn, 1) := by decide +kernel
theorem dX6_pitchOf_0 : decode cX6_pitchOf 0 = .ok (.aload_n 0, 1) := by decide +kernel
theorem dX6_pitchOf_1 : decode cX6_pitchOf 1 = .ok (.getfield 47, 3) := by decide +kernel
theorem dX6_pitchOf_4 : decode cX6_pitchOf 4 = .ok (.iload_n 1, 1) := by decide +kernel
theorem dX6_pitchOf_5 : decode cX6_pitchOf 5 = .ok (.iaload, 1) := by decide +kernel
theorem dX6_pitchOf_6 : decode cX6_pitchOf 6 = .ok (.iconst 5, 1) := by decide +kernel
theorem dX6_pitchOf_7 : decode cX6_pitchOf 7 = .ok (.if_icmp .ne 20, 3) := by decide +kernel
theorem dX6_pitchOf_10 : decode cX6_pitchOf 10 = .ok (.aload_n 0, 1) := by decide +kernel
theorem dX6_pitchOf_11 : decode cX6_pitchOf 11 = .ok (.getfield 53, 3) := by decide +kernel
theorem dX6_pitchOf_14 : decode cX6_pitchOf 14 = .ok (.iload_n 1, 1) := by decide +kernel
theorem dX6_pitchOf_15 : decode cX6_pitchOf 15 = .ok (.iaload, 1) := by decide +kernel
theorem dX6_pitchOf_16 : decode cX6_pitchOf 16 = .ok (.aload_n 0, 1) := by decide +kernel
theorem dX6_pitchOf_17 : decode cX6_pitchOf 17 = .ok (.getfield 141, 3) := by decide +kernel
theorem dX6_pitchOf_20 : decode cX6_pitchOf 20 = .ok (.bipush 10, 2) := by decide +kernel
theorem dX6_pitchOf_22 : decode cX6_pitchOf 22 = .ok (.idiv, 1) := by decide +kernel
theorem dX6_pitchOf_23 : decode cX6_pitchOf 23 = .ok (.iadd, 1) := by decide +kernel
theorem dX6_pitchOf_24 : decode cX6_pitchOf 24 = .ok (.goto 9, 3) := by decide +kernel
theorem dX6_pitchOf_27 : decode cX6_pitchOf 27 = .ok (.aload_n 0, 1) := by decide +kernel
theorem dX6_pitchOf_28 : decode cX6_pitchOf 28 = .ok (.getfield 53, 3) := by decide +kernel
theorem dX6_pitchOf_31 : decode cX6_pitchOf 31 = .ok (.iload_n 1, 1) := by decide +kernel
theorem dX6_pitchOf_32 : decode cX6_pitchOf 32 = .ok (.iaload, 1) := by decide +kernel
theorem dX6_pitchOf_33 : decode cX6_pitchOf 33 = .ok (.ireturn, 1) := by decide +kernel
theorem dX6_comesBack_0 : decode cX6_comesBack 0 = .ok (.aload_n 0, 1) := by decide +kernel
theorem dX6_comesBack_1 : decode cX6_comesBack 1 = .ok (.getfield 47, 3) := by decide +kernel
theorem dX6_comesBack_4 : decode cX6_comesBack 4 = .ok (.iload_n 1, 1) := by decide +kernel
theorem dX6_comesBack_5 : decode cX6_comesBack 5 = .ok (.iaload, 1) := by decide +kernel
theorem dX6_comesBack_6 : decode cX6_comesBack 6 = .ok (.iconst 1, 1) := by decide +kernel
theorem dX6_comesBack_7 : decode cX6_comesBack 7 = .ok (.if_icmp .eq 13, 3) := by decide +kernel
theorem dX6_comesBack_10 : decode cX6_comesBack 10 = .ok (.aload_n 0, 1) := by decide +kernel
theorem dX6_comesBack_11 : decode cX6_comesBack 11 = .ok (.getfield 47, 3) := by decide +kernel
theorem dX6_comesBack_14 : decode cX6_comesBack 14 = .ok (.iload_n 1, 1) := by decide +kernel
theorem dX6_comesBack_15 : decode cX6_comesBack 15 = .ok (.iaload, 1) := by decide +kernel
theorem dX6_comesBack_16 : decode cX6_comesBack 16 = .ok (.iconst 3, 1) := by decide +kernel
theorem dX6_comesBack_17 : decode cX6_comesBack 17 = .ok (.if_icmp .ne 7, 3) := by decide +kernel
theorem dX6_comesBack_20 : decode cX6_comesBack 20 = .ok (.iconst 1, 1) := by decide +kernel
theorem dX6_comesBack_21 : decode cX6_comesBack 21 = .ok (.goto 4, 3) := by decide +kernel
theorem dX6_comesBack_24 : decode cX6_comesBack 24 = .ok (.iconst 0, 1) := by decide +kernel
theorem dX6_comesBack_25 : decode cX6_comesBack 25 = .ok (.istore_n 3, 1) := by decide +kernel
theorem dX6_comesBack_26 : decode cX6_comesBack 26 = .ok (.iload_n 3, 1) := by decide +kernel
theorem dX6_comesBack_27 : decode cX6_comesBack 27 = .ok (.ifCond .ne 17, 3) := by decide +kernel
theorem dX6_comesBack_30 : decode cX6_comesBack 30 = .ok (.iload_n 2, 1) := by decide +kernel
theorem dX6_comesBack_31 : decode cX6_comesBack 31 = .ok (.aload_n 0, 1) := by decide +kernel
theorem dX6_comesBack_32 : decode cX6_comesBack 32 = .ok (.getfield 37, 3) := by decide +kernel
theorem dX6_comesBack_35 : decode cX6_comesBack 35 = .ok (.iadd, 1) := by decide +kernel
theorem dX6_comesBack_36 : decode cX6_comesBack 36 = .ok (.bipush 7, 2) := by decide +kernel
theorem dX6_comesBack_38 : decode cX6_comesBack 38 = .ok (.irem, 1) := by decide +kernel
theorem dX6_comesBack_39 : decode cX6_comesBack 39 = .ok (.ifCond .ne 5, 3) := by decide +kernel
theorem dX6_comesBack_42 : decode cX6_comesBack 42 = .ok (.iconst (-1), 1) := by decide +kernel
theorem dX6_comesBack_43 : decode cX6_comesBack 43 = .ok (.ireturn, 1) := by decide +kernel
theorem dX6_comesBack_44 : decode cX6_comesBack 44 = .ok (.aload_n 0, 1) := by decide +kernel
theorem dX6_comesBack_45 : decode cX6_comesBack 45 = .ok (.getfield 47, 3) := by decide +kernel
theorem dX6_comesBack_48 : decode cX6_comesBack 48 = .ok (.iload_n 1, 1) := by decide +kernel
theorem dX6_comesBack_49 : decode cX6_comesBack 49 = .ok (.iaload, 1) := by decide +kernel
theorem dX6_comesBack_50 : decode cX6_comesBack 50 = .ok (.iconst 3, 1) := by decide +kernel
theorem dX6_comesBack_51 : decode cX6_comesBack 51 = .ok (.if_icmp .ne 12, 3) := by decide +kernel
theorem dX6_comesBack_54 : decode cX6_comesBack 54 = .ok (.aload_n 0, 1) := by decide +kernel
theorem dX6_comesBack_55 : decode cX6_comesBack 55 = .ok (.getfield 37, 3) := by decide +kernel
theorem dX6_comesBack_58 : decode cX6_comesBack 58 = .ok (.iconst 2, 1) := by decide +kernel
theorem dX6_comesBack_59 : decode cX6_comesBack 59 = .ok (.idiv, 1) := by decide +kernel
theorem dX6_comesBack_60 : decode cX6_comesBack 60 = .ok (.goto 7, 3) := by decide +kernel
theorem dX6_comesBack_63 : decode cX6_comesBack 63 = .ok (.aload_n 0, 1) := by decide +kernel
theorem dX6_comesBack_64 : decode cX6_comesBack 64 = .ok (.getfield 37, 3) := by decide +kernel
theorem dX6_comesBack_67 : decode cX6_comesBack 67 = .ok (.istore 4, 2) := by decide +kernel
theorem dX6_comesBack_69 : decode cX6_comesBack 69 = .ok (.iload_n 2, 1) := by decide +kernel
theorem dX6_comesBack_70 : decode cX6_comesBack 70 = .ok (.iload 4, 2) := by decide +kernel
theorem dX6_comesBack_72 : decode cX6_comesBack 72 = .ok (.aload_n 0, 1) := by decide +kernel
theorem dX6_comesBack_73 : decode cX6_comesBack 73 = .ok (.iload_n 1, 1) := by decide +kernel
theorem dX6_comesBack_74 : decode cX6_comesBack 74 = .ok (.invokevirtual 227, 3) := by decide +kernel
theorem dX6_comesBack_77 : decode cX6_comesBack 77 = .ok (.iadd, 1) := by decide +kernel
theorem dX6_comesBack_78 : decode cX6_comesBack 78 = .ok (.iconst 3, 1) := by decide +kernel
theorem dX6_comesBack_79 : decode cX6_comesBack 79 = .ok (.idiv, 1) := by decide +kernel
theorem dX6_comesBack_80 : decode cX6_comesBack 80 = .ok (.iconst 1, 1) := by decide +kernel
theorem dX6_comesBack_81 : decode cX6_comesBack 81 = .ok (.iload_n 2, 1) := by decide +kernel
theorem dX6_comesBack_82 : decode cX6_comesBack 82 = .ok (.iconst 3, 1) := by decide +kernel
theorem dX6_comesBack_83 : decode cX6_comesBack 83 = .ok (.irem, 1) := by decide +kernel
theorem dX6_comesBack_84 : decode cX6_comesBack 84 = .ok (.iadd, 1) := by decide +kernel
theorem dX6_comesBack_85 : decode cX6_comesBack 85 = .ok (.imul, 1) := by decide +kernel
theorem dX6_comesBack_86 : decode cX6_comesBack 86 = .ok (.iadd, 1) := by decide +kernel
theorem dX6_comesBack_87 : decode cX6_comesBack 87 = .ok (.bipush 40, 2) := by decide +kernel
theorem dX6_comesBack_89 : decode cX6_comesBack 89 = .ok (.irem, 1) := by decide +kernel
theorem dX6_comesBack_90 : decode cX6_comesBack 90 = .ok (.ireturn, 1) := by decide +kernel
theorem dX6_voiceOf_0 : decode cX6_voiceOf 0 = .ok (.aload_n 0, 1) := by decide +kernel
theorem dX6_voiceOf_1 : decode cX6_voiceOf 1 = .ok (.iload_n 1, 1) := by decide +kernel
theorem dX6_voiceOf_2 : decode cX6_voiceOf 2 = .ok (.invokevirtual 113, 3) := by decide +kernel
theorem dX6_voiceOf_5 : decode cX6_voiceOf 5 = .ok (.ifCond .eq 15, 3) := by decide +kernel
theorem dX6_voiceOf_8 : decode cX6_voiceOf 8 = .ok (.iload_n 2, 1) := by decide +kernel
theorem dX6_voiceOf_9 : decode cX6_voiceOf 9 = .ok (.i2l, 1) := by decide +kernel
theorem dX6_voiceOf_10 : decode cX6_voiceOf 10 = .ok (.lconst 0, 1) := by decide +kernel
theorem dX6_voiceOf_11 : decode cX6_voiceOf 11 = .ok (.ldc2_w 230, 3) := by decide +kernel
theorem dX6_voiceOf_14 : decode cX6_voiceOf 14 = .ok (.invokestatic 92, 3) := by decide +kernel
theorem dX6_voiceOf_17 : decode cX6_voiceOf 17 = .ok (.ifCond .ne 10, 3) := by decide +kernel
theorem dX6_voiceOf_20 : decode cX6_voiceOf 20 = .ok (.aload_n 0, 1) := by decide +kernel
theorem dX6_voiceOf_21 : decode cX6_voiceOf 21 = .ok (.bipush (-2), 2) := by decide +kernel
theorem dX6_voiceOf_23 : decode cX6_voiceOf 23 = .ok (.invokevirtual 102, 3) := by decide +kernel
theorem dX6_voiceOf_26 : decode cX6_voiceOf 26 = .ok (.ireturn, 1) := by decide +kernel
theorem dX6_voiceOf_27 : decode cX6_voiceOf 27 = .ok (.iload_n 2, 1) := by decide +kernel
theorem dX6_voiceOf_28 : decode cX6_voiceOf 28 = .ok (.ifCond .ne 12, 3) := by decide +kernel
theorem dX6_voiceOf_31 : decode cX6_voiceOf 31 = .ok (.aload_n 0, 1) := by decide +kernel
theorem dX6_voiceOf_32 : decode cX6_voiceOf 32 = .ok (.getfield 47, 3) := by decide +kernel
theorem dX6_voiceOf_35 : decode cX6_voiceOf 35 = .ok (.iload_n 1, 1) := by decide +kernel
theorem dX6_voiceOf_36 : decode cX6_voiceOf 36 = .ok (.iaload, 1) := by decide +kernel
theorem dX6_voiceOf_37 : decode cX6_voiceOf 37 = .ok (.goto 36, 3) := by decide +kernel
theorem dX6_voiceOf_40 : decode cX6_voiceOf 40 = .ok (.iload_n 2, 1) := by decide +kernel
theorem dX6_voiceOf_41 : decode cX6_voiceOf 41 = .ok (.iconst 1, 1) := by decide +kernel
theorem dX6_voiceOf_42 : decode cX6_voiceOf 42 = .ok (.if_icmp .ne 12, 3) := by decide +kernel
theorem dX6_voiceOf_45 : decode cX6_voiceOf 45 = .ok (.aload_n 0, 1) := by decide +kernel
theorem dX6_voiceOf_46 : decode cX6_voiceOf 46 = .ok (.getfield 50, 3) := by decide +kernel
theorem dX6_voiceOf_49 : decode cX6_voiceOf 49 = .ok (.iload_n 1, 1) := by decide +kernel
theorem dX6_voiceOf_50 : decode cX6_voiceOf 50 = .ok (.iaload, 1) := by decide +kernel
theorem dX6_voiceOf_51 : decode cX6_voiceOf 51 = .ok (.goto 22, 3) := by decide +kernel
theorem dX6_voiceOf_54 : decode cX6_voiceOf 54 = .ok (.iload_n 2, 1) := by decide +kernel
theorem dX6_voiceOf_55 : decode cX6_voiceOf 55 = .ok (.iconst 2, 1) := by decide +kernel
theorem dX6_voiceOf_56 : decode cX6_voiceOf 56 = .ok (.if_icmp .ne 12, 3) := by decide +kernel
theorem dX6_voiceOf_59 : decode cX6_voiceOf 59 = .ok (.aload_n 0, 1) := by decide +kernel
theorem dX6_voiceOf_60 : decode cX6_voiceOf 60 = .ok (.getfield 53, 3) := by decide +kernel
theorem dX6_voiceOf_63 : decode cX6_voiceOf 63 = .ok (.iload_n 1, 1) := by decide +kernel
theorem dX6_voiceOf_64 : decode cX6_voiceOf 64 = .ok (.iaload, 1) := by decide +kernel
theorem dX6_voiceOf_65 : decode cX6_voiceOf 65 = .ok (.goto 8, 3) := by decide +kernel
theorem dX6_voiceOf_68 : decode cX6_voiceOf 68 = .ok (.aload_n 0, 1) := by decide +kernel
theorem dX6_voiceOf_69 : decode cX6_voiceOf 69 = .ok (.iload_n 1, 1) := by decide +kernel
theorem dX6_voiceOf_70 : decode cX6_voiceOf 70 = .ok (.invokevirtual 227, 3) := by decide +kernel
theorem dX6_voiceOf_73 : decode cX6_voiceOf 73 = .ok (.ireturn, 1) := by decide +kernel
theorem dX6_back_0 : decode cX6_back 0 = .ok (.aload_n 0, 1) := by decide +kernel
theorem dX6_back_1 : decode cX6_back 1 = .ok (.iload_n 1, 1) := by decide +kernel
theorem dX6_back_2 : decode cX6_back 2 = .ok (.invokevirtual 113, 3) := by decide +kernel
theorem dX6_back_5 : decode cX6_back 5 = .ok (.ifCond .eq 24, 3) := by decide +kernel
theorem dX6_back_8 : decode cX6_back 8 = .ok (.iload_n 2, 1) := by decide +kernel
theorem dX6_back_9 : decode cX6_back 9 = .ok (.i2l, 1) := by decide +kernel
theorem dX6_back_10 : decode cX6_back 10 = .ok (.lconst 0, 1) := by decide +kernel
theorem dX6_back_11 : decode cX6_back 11 = .ok (.ldc2_w 232, 3) := by decide +kernel
theorem dX6_back_14 : decode cX6_back 14 = .ok (.invokestatic 92, 3) := by decide +kernel
theorem dX6_back_17 : decode cX6_back 17 = .ok (.ifCond .eq 12, 3) := by decide +kernel
theorem dX6_back_20 : decode cX6_back 20 = .ok (.aload_n 0, 1) := by decide +kernel
theorem dX6_back_21 : decode cX6_back 21 = .ok (.iload_n 1, 1) := by decide +kernel
theorem dX6_back_22 : decode cX6_back 22 = .ok (.iload_n 2, 1) := by decide +kernel
theorem dX6_back_23 : decode cX6_back 23 = .ok (.invokevirtual 234, 3) := by decide +kernel
theorem dX6_back_26 : decode cX6_back 26 = .ok (.goto 9, 3) := by decide +kernel
theorem dX6_back_29 : decode cX6_back 29 = .ok (.aload_n 0, 1) := by decide +kernel
theorem dX6_back_30 : decode cX6_back 30 = .ok (.bipush (-2), 2) := by decide +kernel
theorem dX6_back_32 : decode cX6_back 32 = .ok (.invokevirtual 102, 3) := by decide +kernel
theorem dX6_back_35 : decode cX6_back 35 = .ok (.ireturn, 1) := by decide +kernel
theorem dX6_lost_0 : decode cX6_lost 0 = .ok (.aload_n 0, 1) := by decide +kernel
theorem dX6_lost_1 : decode cX6_lost 1 = .ok (.iload_n 1, 1) := by decide +kernel
theorem dX6_lost_2 : decode cX6_lost 2 = .ok (.invokevirtual 113, 3) := by decide +kernel
theorem dX6_lost_5 : decode cX6_lost 5 = .ok (.ifCond .ne 10, 3) := by decide +kernel
theorem dX6_lost_8 : decode cX6_lost 8 = .ok (.aload_n 0, 1) := by decide +kernel
theorem dX6_lost_9 : decode cX6_lost 9 = .ok (.bipush (-2), 2) := by decide +kernel
theorem dX6_lost_11 : decode cX6_lost 11 = .ok (.invokevirtual 102, 3) := by decide +kernel
theorem dX6_lost_14 : decode cX6_lost 14 = .ok (.ireturn, 1) := by decide +kernel
theorem dX6_lost_15 : decode cX6_lost 15 = .ok (.iconst 0, 1) := by decide +kernel
theorem dX6_lost_16 : decode cX6_lost 16 = .ok (.istore_n 2, 1) := by decide +kernel
theorem dX6_lost_17 : decode cX6_lost 17 = .ok (.iconst 0, 1) := by decide +kernel
theorem dX6_lost_18 : decode cX6_lost 18 = .ok (.istore_n 3, 1) := by decide +kernel
theorem dX6_lost_19 : decode cX6_lost 19 = .ok (.iload_n 3, 1) := by decide +kernel
theorem dX6_lost_20 : decode cX6_lost 20 = .ok (.bipush 40, 2) := by decide +kernel
theorem dX6_lost_22 : decode cX6_lost 22 = .ok (.if_icmp .ge 27, 3) := by decide +kernel
theorem dX6_lost_25 : decode cX6_lost 25 = .ok (.iload_n 2, 1) := by decide +kernel
theorem dX6_lost_26 : decode cX6_lost 26 = .ok (.aload_n 0, 1) := by decide +kernel
theorem dX6_lost_27 : decode cX6_lost 27 = .ok (.iload_n 1, 1) := by decide +kernel
theorem dX6_lost_28 : decode cX6_lost 28 = .ok (.iload_n 3, 1) := by decide +kernel
theorem dX6_lost_29 : decode cX6_lost 29 = .ok (.invokevirtual 234, 3) := by decide +kernel
theorem dX6_lost_32 : decode cX6_lost 32 = .ok (.iconst (-1), 1) := by decide +kernel
theorem dX6_lost_33 : decode cX6_lost 33 = .ok (.if_icmp .ne 7, 3) := by decide +kernel
theorem dX6_lost_36 : decode cX6_lost 36 = .ok (.iconst 1, 1) := by decide +kernel
theorem dX6_lost_37 : decode cX6_lost 37 = .ok (.goto 4, 3) := by decide +kernel
theorem dX6_lost_40 : decode cX6_lost 40 = .ok (.iconst 0, 1) := by decide +kernel
theorem dX6_lost_41 : decode cX6_lost 41 = .ok (.iadd, 1) := by decide +kernel
theorem dX6_lost_42 : decode cX6_lost 42 = .ok (.istore_n 2, 1) := by decide +kernel
theorem dX6_lost_43 : decode cX6_lost 43 = .ok (.iinc 3 1, 3) := by decide +kernel
theorem dX6_lost_46 : decode cX6_lost 46 = .ok (.goto (-27), 3) := by decide +kernel
theorem dX6_lost_49 : decode cX6_lost 49 = .ok (.iload_n 2, 1) := by decide +kernel
theorem dX6_lost_50 : decode cX6_lost 50 = .ok (.ireturn, 1) := by decide +kernel
theorem dX6_plain_0 : decode cX6_plain 0 = .ok (.aload_n 0, 1) := by decide +kernel
theorem dX6_plain_1 : decode cX6_plain 1 = .ok (.iload_n 1, 1) := by decide +kernel
theorem dX6_plain_2 : decode cX6_plain 2 = .ok (.invokevirtual 113, 3) := by decide +kernel
theorem dX6_plain_5 : decode cX6_plain 5 = .ok (.ifCond .ne 10, 3) := by decide +kernel
theorem dX6_plain_8 : decode cX6_plain 8 = .ok (.aload_n 0, 1) := by decide +kernel
theorem dX6_plain_9 : decode cX6_plain 9 = .ok (.bipush (-2), 2) := by decide +kernel
theorem dX6_plain_11 : decode cX6_plain 11 = .ok (.invokevirtual 102, 3) := by decide +kernel
theorem dX6_plain_14 : decode cX6_plain 14 = .ok (.ireturn, 1) := by decide +kernel
theorem dX6_plain_15 : decode cX6_plain 15 = .ok (.iconst 0, 1) := by decide +kernel
theorem dX6_plain_16 : decode cX6_plain 16 = .ok (.istore_n 2, 1) := by decide +kernel
theorem dX6_plain_17 : decode cX6_plain 17 = .ok (.iconst 0, 1) := by decide +kernel
theorem dX6_plain_18 : decode cX6_plain 18 = .ok (.istore_n 3, 1) := by decide +kernel
theorem dX6_plain_19 : decode cX6_plain 19 = .ok (.iload_n 3, 1) := by decide +kernel
theorem dX6_plain_20 : decode cX6_plain 20 = .ok (.bipush 40, 2) := by decide +kernel
theorem dX6_plain_22 : decode cX6_plain 22 = .ok (.if_icmp .ge 27, 3) := by decide +kernel
theorem dX6_plain_25 : decode cX6_plain 25 = .ok (.iload_n 2, 1) := by decide +kernel
theorem dX6_plain_26 : decode cX6_plain 26 = .ok (.aload_n 0, 1) := by decide +kernel
theorem dX6_plain_27 : decode cX6_plain 27 = .ok (.iload_n 1, 1) := by decide +kernel
theorem dX6_plain_28 : decode cX6_plain 28 = .ok (.iload_n 3, 1) := by decide +kernel
theorem dX6_plain_29 : decode cX6_plain 29 = .ok (.invokevirtual 234, 3) := by decide +kernel
theorem dX6_plain_32 : decode cX6_plain 32 = .ok (.iload_n 3, 1) := by decide +kernel
theorem dX6_plain_33 : decode cX6_plain 33 = .ok (.if_icmp .ne 7, 3) := by decide +kernel
theorem dX6_plain_36 : decode cX6_plain 36 = .ok (.iconst 1, 1) := by decide +kernel
theorem dX6_plain_37 : decode cX6_plain 37 = .ok (.goto 4, 3) := by decide +kernel
theorem dX6_plain_40 : decode cX6_plain 40 = .ok (.iconst 0, 1) := by decide +kernel
theorem dX6_plain_41 : decode cX6_plain 41 = .ok (.iadd, 1) := by decide +kernel
theorem dX6_plain_42 : decode cX6_plain 42 = .ok (.istore_n 2, 1) := by decide +kernel
theorem dX6_plain_43 : decode cX6_plain 43 = .ok (.iinc 3 1, 3) := by decide +kernel
theorem dX6_plain_46 : decode cX6_plain 46 = .ok (.goto (-27), 3) := by decide +kernel
theorem dX6_plain_49 : decode cX6_plain 49 = .ok (.iload_n 2, 1) := by decide +kernel
theorem dX6_plain_50 : decode cX6_plain 50 = .ok (.ireturn, 1) := by decide +kernel
theorem dX6_areTwins_0 : decode cX6_areTwins 0 = .ok (.iconst 0, 1) := by decide +kernel
theorem dX6_areTwins_1 : decode cX6_areTwins 1 = .ok (.istore_n 3, 1) := by decide +kernel
theorem dX6_areTwins_2 : decode cX6_areTwins 2 = .ok (.iload_n 3, 1) := by decide +kernel
theorem dX6_areTwins_3 : decode cX6_areTwins 3 = .ok (.bipush 40, 2) := by decide +kernel
theorem dX6_areTwins_5 : decode cX6_areTwins 5 = .ok (.if_icmp .ge 26, 3) := by decide +kernel
theorem dX6_areTwins_8 : decode cX6_areTwins 8 = .ok (.aload_n 0, 1) := by decide +kernel
theorem dX6_areTwins_9 : decode cX6_areTwins 9 = .ok (.iload_n 1, 1) := by decide +kernel
theorem dX6_areTwins_10 : decode cX6_areTwins 10 = .ok (.iload_n 3, 1) := by decide +kernel
theorem dX6_areTwins_11 : decode cX6_areTwins 11 = .ok (.invokevirtual 234, 3) := by decide +kernel
theorem dX6_areTwins_14 : decode cX6_areTwins 14 = .ok (.aload_n 0, 1) := by decide +kernel
theorem dX6_areTwins_15 : decode cX6_areTwins 15 = .ok (.iload_n 2, 1) := by decide +kernel
theorem dX6_areTwins_16 : decode cX6_areTwins 16 = .ok (.iload_n 3, 1) := by decide +kernel
theorem dX6_areTwins_17 : decode cX6_areTwins 17 = .ok (.invokevirtual 234, 3) := by decide +kernel
theorem dX6_areTwins_20 : decode cX6_areTwins 20 = .ok (.if_icmp .eq 5, 3) := by decide +kernel
theorem dX6_areTwins_23 : decode cX6_areTwins 23 = .ok (.iconst 0, 1) := by decide +kernel
theorem dX6_areTwins_24 : decode cX6_areTwins 24 = .ok (.ireturn, 1) := by decide +kernel
theorem dX6_areTwins_25 : decode cX6_areTwins 25 = .ok (.iinc 3 1, 3) := by decide +kernel
theorem dX6_areTwins_28 : decode cX6_areTwins 28 = .ok (.goto (-26), 3) := by decide +kernel
theorem dX6_areTwins_31 : decode cX6_areTwins 31 = .ok (.iconst 1, 1) := by decide +kernel
theorem dX6_areTwins_32 : decode cX6_areTwins 32 = .ok (.ireturn, 1) := by decide +kernel
theorem dX6_twins_0 : decode cX6_twins 0 = .ok (.iconst 0, 1) := by decide +kernel
theorem dX6_twins_1 : decode cX6_twins 1 = .ok (.istore_n 1, 1) := by decide +kernel
theorem dX6_twins_2 : decode cX6_twins 2 = .ok (.iconst 0, 1) := by decide +kernel
theorem dX6_twins_3 : decode cX6_twins 3 = .ok (.istore_n 2, 1) := by decide +kernel
theorem dX6_twins_4 : decode cX6_twins 4 = .ok (.iload_n 2, 1) := by decide +kernel
theorem dX6_twins_5 : decode cX6_twins 5 = .ok (.aload_n 0, 1) := by decide +kernel
theorem dX6_twins_6 : decode cX6_twins 6 = .ok (.getfield 89, 3) := by decide +kernel
theorem dX6_twins_9 : decode cX6_twins 9 = .ok (.if_icmp .ge 39, 3) := by decide +kernel
theorem dX6_twins_12 : decode cX6_twins 12 = .ok (.iconst 0, 1) := by decide +kernel
theorem dX6_twins_13 : decode cX6_twins 13 = .ok (.istore_n 3, 1) := by decide +kernel
theorem dX6_twins_14 : decode cX6_twins 14 = .ok (.iload_n 3, 1) := by decide +kernel
theorem dX6_twins_15 : decode cX6_twins 15 = .ok (.iload_n 2, 1) := by decide +kernel
theorem dX6_twins_16 : decode cX6_twins 16 = .ok (.if_icmp .ge 26, 3) := by decide +kernel
theorem dX6_twins_19 : decode cX6_twins 19 = .ok (.iload_n 1, 1) := by decide +kernel
theorem dX6_twins_20 : decode cX6_twins 20 = .ok (.aload_n 0, 1) := by decide +kernel
theorem dX6_twins_21 : decode cX6_twins 21 = .ok (.iload_n 2, 1) := by decide +kernel
theorem dX6_twins_22 : decode cX6_twins 22 = .ok (.iload_n 3, 1) := by decide +kernel
theorem dX6_twins_23 : decode cX6_twins 23 = .ok (.invokevirtual 238, 3) := by decide +kernel
theorem dX6_twins_26 : decode cX6_twins 26 = .ok (.ifCond .eq 7, 3) := by decide +kernel
theorem dX6_twins_29 : decode cX6_twins 29 = .ok (.iconst 1, 1) := by decide +kernel
theorem dX6_twins_30 : decode cX6_twins 30 = .ok (.goto 4, 3) := by decide +kernel
theorem dX6_twins_33 : decode cX6_twins 33 = .ok (.iconst 0, 1) := by decide +kernel
theorem dX6_twins_34 : decode cX6_twins 34 = .ok (.iadd, 1) := by decide +kernel
theorem dX6_twins_35 : decode cX6_twins 35 = .ok (.istore_n 1, 1) := by decide +kernel
theorem dX6_twins_36 : decode cX6_twins 36 = .ok (.iinc 3 1, 3) := by decide +kernel
theorem dX6_twins_39 : decode cX6_twins 39 = .ok (.goto (-25), 3) := by decide +kernel
theorem dX6_twins_42 : decode cX6_twins 42 = .ok (.iinc 2 1, 3) := by decide +kernel
theorem dX6_twins_45 : decode cX6_twins 45 = .ok (.goto (-41), 3) := by decide +kernel
theorem dX6_twins_48 : decode cX6_twins 48 = .ok (.iload_n 1, 1) := by decide +kernel
theorem dX6_twins_49 : decode cX6_twins 49 = .ok (.ireturn, 1) := by decide +kernel
theorem dX6_ofKind_0 : decode cX6_ofKind 0 = .ok (.iload_n 1, 1) := by decide +kernel
theorem dX6_ofKind_1 : decode cX6_ofKind 1 = .ok (.i2l, 1) := by decide +kernel
theorem dX6_ofKind_2 : decode cX6_ofKind 2 = .ok (.lconst 0, 1) := by decide +kernel
theorem dX6_ofKind_3 : decode cX6_ofKind 3 = .ok (.ldc2_w 117, 3) := by decide +kernel
theorem dX6_ofKind_6 : decode cX6_ofKind 6 = .ok (.invokestatic 92, 3) := by decide +kernel
theorem dX6_ofKind_9 : decode cX6_ofKind 9 = .ok (.ifCond .ne 10, 3) := by decide +kernel
theorem dX6_ofKind_12 : decode cX6_ofKind 12 = .ok (.aload_n 0, 1) := by decide +kernel
theorem dX6_ofKind_13 : decode cX6_ofKind 13 = .ok (.bipush (-2), 2) := by decide +kernel
theorem dX6_ofKind_15 : decode cX6_ofKind 15 = .ok (.invokevirtual 102, 3) := by decide +kernel
theorem dX6_ofKind_18 : decode cX6_ofKind 18 = .ok (.ireturn, 1) := by decide +kernel
theorem dX6_ofKind_19 : decode cX6_ofKind 19 = .ok (.iconst 0, 1) := by decide +kernel
theorem dX6_ofKind_20 : decode cX6_ofKind 20 = .ok (.istore_n 2, 1) := by decide +kernel
theorem dX6_ofKind_21 : decode cX6_ofKind 21 = .ok (.iconst 0, 1) := by decide +kernel
theorem dX6_ofKind_22 : decode cX6_ofKind 22 = .ok (.istore_n 3, 1) := by decide +kernel
theorem dX6_ofKind_23 : decode cX6_ofKind 23 = .ok (.iload_n 3, 1) := by decide +kernel
theorem dX6_ofKind_24 : decode cX6_ofKind 24 = .ok (.aload_n 0, 1) := by decide +kernel
theorem dX6_ofKind_25 : decode cX6_ofKind 25 = .ok (.getfield 89, 3) := by decide +kernel
theorem dX6_ofKind_28 : decode cX6_ofKind 28 = .ok (.if_icmp .ge 27, 3) := by decide +kernel
theorem dX6_ofKind_31 : decode cX6_ofKind 31 = .ok (.iload_n 2, 1) := by decide +kernel
theorem dX6_ofKind_32 : decode cX6_ofKind 32 = .ok (.aload_n 0, 1) := by decide +kernel
theorem dX6_ofKind_33 : decode cX6_ofKind 33 = .ok (.getfield 47, 3) := by decide +kernel
theorem dX6_ofKind_36 : decode cX6_ofKind 36 = .ok (.iload_n 3, 1) := by decide +kernel
theorem dX6_ofKind_37 : decode cX6_ofKind 37 = .ok (.iaload, 1) := by decide +kernel
theorem dX6_ofKind_38 : decode cX6_ofKind 38 = .ok (.iload_n 1, 1) := by decide +kernel
theorem dX6_ofKind_39 : decode cX6_ofKind 39 = .ok (.if_icmp .ne 7, 3) := by decide +kernel
theorem dX6_ofKind_42 : decode cX6_ofKind 42 = .ok (.iconst 1, 1) := by decide +kernel
theorem dX6_ofKind_43 : decode cX6_ofKind 43 = .ok (.goto 4, 3) := by decide +kernel
theorem dX6_ofKind_46 : decode cX6_ofKind 46 = .ok (.iconst 0, 1) := by decide +kernel
theorem dX6_ofKind_47 : decode cX6_ofKind 47 = .ok (.iadd, 1) := by decide +kernel
theorem dX6_ofKind_48 : decode cX6_ofKind 48 = .ok (.istore_n 2, 1) := by decide +kernel
theorem dX6_ofKind_49 : decode cX6_ofKind 49 = .ok (.iinc 3 1, 3) := by decide +kernel
theorem dX6_ofKind_52 : decode cX6_ofKind 52 = .ok (.goto (-29), 3) := by decide +kernel
theorem dX6_ofKind_55 : decode cX6_ofKind 55 = .ok (.iload_n 2, 1) := by decide +kernel
theorem dX6_ofKind_56 : decode cX6_ofKind 56 = .ok (.ireturn, 1) := by decide +kernel
theorem dX6_listen_0 : decode cX6_listen 0 = .ok (.aload_n 0, 1) := by decide +kernel
theorem dX6_listen_1 : decode cX6_listen 1 = .ok (.getfield 47, 3) := by decide +kernel
theorem dX6_listen_4 : decode cX6_listen 4 = .ok (.iload_n 1, 1) := by decide +kernel
theorem dX6_listen_5 : decode cX6_listen 5 = .ok (.iaload, 1) := by decide +kernel
theorem dX6_listen_6 : decode cX6_listen 6 = .ok (.iconst 2, 1) := by decide +kernel
theorem dX6_listen_7 : decode cX6_listen 7 = .ok (.if_icmp .eq 13, 3) := by decide +kernel
theorem dX6_listen_10 : decode cX6_listen 10 = .ok (.aload_n 0, 1) := by decide +kernel
theorem dX6_listen_11 : decode cX6_listen 11 = .ok (.getfield 47, 3) := by decide +kernel
theorem dX6_listen_14 : decode cX6_listen 14 = .ok (.iload_n 1, 1) := by decide +kernel
theorem dX6_listen_15 : decode cX6_listen 15 = .ok (.iaload, 1) := by decide +kernel
theorem dX6_listen_16 : decode cX6_listen 16 = .ok (.iconst 4, 1) := by decide +kernel
theorem dX6_listen_17 : decode cX6_listen 17 = .ok (.if_icmp .ne 7, 3) := by decide +kernel
theorem dX6_listen_20 : decode cX6_listen 20 = .ok (.iconst 1, 1) := by decide +kernel
theorem dX6_listen_21 : decode cX6_listen 21 = .ok (.goto 4, 3) := by decide +kernel
theorem dX6_listen_24 : decode cX6_listen 24 = .ok (.iconst 0, 1) := by decide +kernel
theorem dX6_listen_25 : decode cX6_listen 25 = .ok (.istore_n 2, 1) := by decide +kernel
theorem dX6_listen_26 : decode cX6_listen 26 = .ok (.aload_n 0, 1) := by decide +kernel
theorem dX6_listen_27 : decode cX6_listen 27 = .ok (.iconst 0, 1) := by decide +kernel
theorem dX6_listen_28 : decode cX6_listen 28 = .ok (.putfield 241, 3) := by decide +kernel
theorem dX6_listen_31 : decode cX6_listen 31 = .ok (.iconst 0, 1) := by decide +kernel
theorem dX6_listen_32 : decode cX6_listen 32 = .ok (.istore_n 3, 1) := by decide +kernel
theorem dX6_listen_33 : decode cX6_listen 33 = .ok (.iload_n 3, 1) := by decide +kernel
theorem dX6_listen_34 : decode cX6_listen 34 = .ok (.aload_n 0, 1) := by decide +kernel
theorem dX6_listen_35 : decode cX6_listen 35 = .ok (.getfield 123, 3) := by decide +kernel
theorem dX6_listen_38 : decode cX6_listen 38 = .ok (.if_icmp .ge 73, 3) := by decide +kernel
theorem dX6_listen_41 : decode cX6_listen 41 = .ok (.iconst 0, 1) := by decide +kernel
theorem dX6_listen_42 : decode cX6_listen 42 = .ok (.istore 4, 2) := by decide +kernel
theorem dX6_listen_44 : decode cX6_listen 44 = .ok (.iload 4, 2) := by decide +kernel
theorem dX6_listen_46 : decode cX6_listen 46 = .ok (.iload_n 2, 1) := by decide +kernel
theorem dX6_listen_47 : decode cX6_listen 47 = .ok (.ifCond .eq 11, 3) := by decide +kernel
theorem dX6_listen_50 : decode cX6_listen 50 = .ok (.iload_n 3, 1) := by decide +kernel
theorem dX6_listen_51 : decode cX6_listen 51 = .ok (.ifCond .ne 7, 3) := by decide +kernel
theorem dX6_listen_54 : decode cX6_listen 54 = .ok (.iconst 2, 1) := by decide +kernel
theorem dX6_listen_55 : decode cX6_listen 55 = .ok (.goto 4, 3) := by decide +kernel
theorem dX6_listen_58 : decode cX6_listen 58 = .ok (.iconst 1, 1) := by decide +kernel
theorem dX6_listen_59 : decode cX6_listen 59 = .ok (.if_icmp .ge 46, 3) := by decide +kernel
theorem dX6_listen_62 : decode cX6_listen 62 = .ok (.aload_n 0, 1) := by decide +kernel
theorem dX6_listen_63 : decode cX6_listen 63 = .ok (.iload_n 1, 1) := by decide +kernel
theorem dX6_listen_64 : decode cX6_listen 64 = .ok (.aload_n 0, 1) := by decide +kernel
theorem dX6_listen_65 : decode cX6_listen 65 = .ok (.getfield 62, 3) := by decide +kernel
theorem dX6_listen_68 : decode cX6_listen 68 = .ok (.iload_n 3, 1) := by decide +kernel
theorem dX6_listen_69 : decode cX6_listen 69 = .ok (.iaload, 1) := by decide +kernel
theorem dX6_listen_70 : decode cX6_listen 70 = .ok (.invokevirtual 234, 3) := by decide +kernel
theorem dX6_listen_73 : decode cX6_listen 73 = .ok (.istore 5, 2) := by decide +kernel
theorem dX6_listen_75 : decode cX6_listen 75 = .ok (.iload 5, 2) := by decide +kernel
theorem dX6_listen_77 : decode cX6_listen 77 = .ok (.iconst (-1), 1) := by decide +kernel
theorem dX6_listen_78 : decode cX6_listen 78 = .ok (.if_icmp .eq 21, 3) := by decide +kernel
theorem dX6_listen_81 : decode cX6_listen 81 = .ok (.aload_n 0, 1) := by decide +kernel
theorem dX6_listen_82 : decode cX6_listen 82 = .ok (.getfield 65, 3) := by decide +kernel
theorem dX6_listen_85 : decode cX6_listen 85 = .ok (.aload_n 0, 1) := by decide +kernel
theorem dX6_listen_86 : decode cX6_listen 86 = .ok (.dup, 1) := by decide +kernel
theorem dX6_listen_87 : decode cX6_listen 87 = .ok (.getfield 241, 3) := by decide +kernel
theorem dX6_listen_90 : decode cX6_listen 90 = .ok (.dup_x1, 1) := by decide +kernel
theorem dX6_listen_91 : decode cX6_listen 91 = .ok (.iconst 1, 1) := by decide +kernel
theorem dX6_listen_92 : decode cX6_listen 92 = .ok (.iadd, 1) := by decide +kernel
theorem dX6_listen_93 : decode cX6_listen 93 = .ok (.putfield 241, 3) := by decide +kernel
theorem dX6_listen_96 : decode cX6_listen 96 = .ok (.iload 5, 2) := by decide +kernel
theorem dX6_listen_98 : decode cX6_listen 98 = .ok (.iastore, 1) := by decide +kernel
theorem dX6_listen_99 : decode cX6_listen 99 = .ok (.iinc 4 1, 3) := by decide +kernel
theorem dX6_listen_102 : decode cX6_listen 102 = .ok (.goto (-58), 3) := by decide +kernel
theorem dX6_listen_105 : decode cX6_listen 105 = .ok (.iinc 3 1, 3) := by decide +kernel
theorem dX6_listen_108 : decode cX6_listen 108 = .ok (.goto (-75), 3) := by decide +kernel
theorem dX6_listen_111 : decode cX6_listen 111 = .ok (.iconst 0, 1) := by decide +kernel
theorem dX6_listen_112 : decode cX6_listen 112 = .ok (.istore_n 3, 1) := by decide +kernel
theorem dX6_listen_113 : decode cX6_listen 113 = .ok (.iload_n 3, 1) := by decide +kernel
theorem dX6_listen_114 : decode cX6_listen 114 = .ok (.aload_n 0, 1) := by decide +kernel
theorem dX6_listen_115 : decode cX6_listen 115 = .ok (.getfield 241, 3) := by decide +kernel
theorem dX6_listen_118 : decode cX6_listen 118 = .ok (.iconst 2, 1) := by decide +kernel
theorem dX6_listen_119 : decode cX6_listen 119 = .ok (.idiv, 1) := by decide +kernel
theorem dX6_listen_120 : decode cX6_listen 120 = .ok (.if_icmp .ge 61, 3) := by decide +kernel
theorem dX6_listen_123 : decode cX6_listen 123 = .ok (.aload_n 0, 1) := by decide +kernel
theorem dX6_listen_124 : decode cX6_listen 124 = .ok (.getfield 47, 3) := by decide +kernel
theorem dX6_listen_127 : decode cX6_listen 127 = .ok (.iload_n 1, 1) := by decide +kernel
theorem dX6_listen_128 : decode cX6_listen 128 = .ok (.iaload, 1) := by decide +kernel
theorem dX6_listen_129 : decode cX6_listen 129 = .ok (.iconst 4, 1) := by decide +kernel
theorem dX6_listen_130 : decode cX6_listen 130 = .ok (.if_icmp .ne 51, 3) := by decide +kernel
theorem dX6_listen_133 : decode cX6_listen 133 = .ok (.aload_n 0, 1) := by decide +kernel
theorem dX6_listen_134 : decode cX6_listen 134 = .ok (.getfield 65, 3) := by decide +kernel
theorem dX6_listen_137 : decode cX6_listen 137 = .ok (.iload_n 3, 1) := by decide +kernel
theorem dX6_listen_138 : decode cX6_listen 138 = .ok (.iaload, 1) := by decide +kernel
theorem dX6_listen_139 : decode cX6_listen 139 = .ok (.istore 4, 2) := by decide +kernel
theorem dX6_listen_141 : decode cX6_listen 141 = .ok (.aload_n 0, 1) := by decide +kernel
theorem dX6_listen_142 : decode cX6_listen 142 = .ok (.getfield 65, 3) := by decide +kernel
theorem dX6_listen_145 : decode cX6_listen 145 = .ok (.iload_n 3, 1) := by decide +kernel
theorem dX6_listen_146 : decode cX6_listen 146 = .ok (.aload_n 0, 1) := by decide +kernel
theorem dX6_listen_147 : decode cX6_listen 147 = .ok (.getfield 65, 3) := by decide +kernel
theorem dX6_listen_150 : decode cX6_listen 150 = .ok (.aload_n 0, 1) := by decide +kernel
theorem dX6_listen_151 : decode cX6_listen 151 = .ok (.getfield 241, 3) := by decide +kernel
theorem dX6_listen_154 : decode cX6_listen 154 = .ok (.iconst 1, 1) := by decide +kernel
theorem dX6_listen_155 : decode cX6_listen 155 = .ok (.isub, 1) := by decide +kernel
theorem dX6_listen_156 : decode cX6_listen 156 = .ok (.iload_n 3, 1) := by decide +kernel
theorem dX6_listen_157 : decode cX6_listen 157 = .ok (.isub, 1) := by decide +kernel
theorem dX6_listen_158 : decode cX6_listen 158 = .ok (.iaload, 1) := by decide +kernel
theorem dX6_listen_159 : decode cX6_listen 159 = .ok (.iastore, 1) := by decide +kernel
theorem dX6_listen_160 : decode cX6_listen 160 = .ok (.aload_n 0, 1) := by decide +kernel
theorem dX6_listen_161 : decode cX6_listen 161 = .ok (.getfield 65, 3) := by decide +kernel
theorem dX6_listen_164 : decode cX6_listen 164 = .ok (.aload_n 0, 1) := by decide +kernel
theorem dX6_listen_165 : decode cX6_listen 165 = .ok (.getfield 241, 3) := by decide +kernel
theorem dX6_listen_168 : decode cX6_listen 168 = .ok (.iconst 1, 1) := by decide +kernel
theorem dX6_listen_169 : decode cX6_listen 169 = .ok (.isub, 1) := by decide +kernel
theorem dX6_listen_170 : decode cX6_listen 170 = .ok (.iload_n 3, 1) := by decide +kernel
theorem dX6_listen_171 : decode cX6_listen 171 = .ok (.isub, 1) := by decide +kernel
theorem dX6_listen_172 : decode cX6_listen 172 = .ok (.iload 4, 2) := by decide +kernel
theorem dX6_listen_174 : decode cX6_listen 174 = .ok (.iastore, 1) := by decide +kernel
theorem dX6_listen_175 : decode cX6_listen 175 = .ok (.iinc 3 1, 3) := by decide +kernel
theorem dX6_listen_178 : decode cX6_listen 178 = .ok (.goto (-65), 3) := by decide +kernel
theorem dX6_listen_181 : decode cX6_listen 181 = .ok (.return_, 1) := by decide +kernel
theorem dX6_sumOf_0 : decode cX6_sumOf 0 = .ok (.aload_n 0, 1) := by decide +kernel
theorem dX6_sumOf_1 : decode cX6_sumOf 1 = .ok (.iload_n 1, 1) := by decide +kernel
theorem dX6_sumOf_2 : decode cX6_sumOf 2 = .ok (.invokevirtual 244, 3) := by decide +kernel
theorem dX6_sumOf_5 : decode cX6_sumOf 5 = .ok (.iconst 0, 1) := by decide +kernel
theorem dX6_sumOf_6 : decode cX6_sumOf 6 = .ok (.istore_n 2, 1) := by decide +kernel
theorem dX6_sumOf_7 : decode cX6_sumOf 7 = .ok (.iconst 0, 1) := by decide +kernel
theorem dX6_sumOf_8 : decode cX6_sumOf 8 = .ok (.istore_n 3, 1) := by decide +kernel
theorem dX6_sumOf_9 : decode cX6_sumOf 9 = .ok (.iload_n 3, 1) := by decide +kernel
theorem dX6_sumOf_10 : decode cX6_sumOf 10 = .ok (.aload_n 0, 1) := by decide +kernel
theorem dX6_sumOf_11 : decode cX6_sumOf 11 = .ok (.getfield 241, 3) := by decide +kernel
theorem dX6_sumOf_14 : decode cX6_sumOf 14 = .ok (.if_icmp .ge 18, 3) := by decide +kernel
theorem dX6_sumOf_17 : decode cX6_sumOf 17 = .ok (.iload_n 2, 1) := by decide +kernel
theorem dX6_sumOf_18 : decode cX6_sumOf 18 = .ok (.aload_n 0, 1) := by decide +kernel
theorem dX6_sumOf_19 : decode cX6_sumOf 19 = .ok (.getfield 65, 3) := by decide +kernel
theorem dX6_sumOf_22 : decode cX6_sumOf 22 = .ok (.iload_n 3, 1) := by decide +kernel
theorem dX6_sumOf_23 : decode cX6_sumOf 23 = .ok (.iaload, 1) := by decide +kernel
theorem dX6_sumOf_24 : decode cX6_sumOf 24 = .ok (.iadd, 1) := by decide +kernel
theorem dX6_sumOf_25 : decode cX6_sumOf 25 = .ok (.istore_n 2, 1) := by decide +kernel
theorem dX6_sumOf_26 : decode cX6_sumOf 26 = .ok (.iinc 3 1, 3) := by decide +kernel
theorem dX6_sumOf_29 : decode cX6_sumOf 29 = .ok (.goto (-20), 3) := by decide +kernel
theorem dX6_sumOf_32 : decode cX6_sumOf 32 = .ok (.iload_n 2, 1) := by decide +kernel
theorem dX6_sumOf_33 : decode cX6_sumOf 33 = .ok (.ireturn, 1) := by decide +kernel
theorem dX6_weighedOf_0 : decode cX6_weighedOf 0 = .ok (.aload_n 0, 1) := by decide +kernel
theorem dX6_weighedOf_1 : decode cX6_weighedOf 1 = .ok (.iload_n 1, 1) := by decide +kernel
theorem dX6_weighedOf_2 : decode cX6_weighedOf 2 = .ok (.invokevirtual 126, 3) := by decide +kernel
theorem dX6_weighedOf_5 : decode cX6_weighedOf 5 = .ok (.istore_n 2, 1) := by decide +kernel
theorem dX6_weighedOf_6 : decode cX6_weighedOf 6 = .ok (.aload_n 0, 1) := by decide +kernel
theorem dX6_weighedOf_7 : decode cX6_weighedOf 7 = .ok (.getfield 241, 3) := by decide +kernel
theorem dX6_weighedOf_10 : decode cX6_weighedOf 10 = .ok (.ifCond .ne 7, 3) := by decide +kernel
theorem dX6_weighedOf_13 : decode cX6_weighedOf 13 = .ok (.iconst (-1), 1) := by decide +kernel
theorem dX6_weighedOf_14 : decode cX6_weighedOf 14 = .ok (.goto 21, 3) := by decide +kernel
theorem dX6_weighedOf_17 : decode cX6_weighedOf 17 = .ok (.iload_n 2, 1) := by decide +kernel
theorem dX6_weighedOf_18 : decode cX6_weighedOf 18 = .ok (.aload_n 0, 1) := by decide +kernel
theorem dX6_weighedOf_19 : decode cX6_weighedOf 19 = .ok (.getfield 44, 3) := by decide +kernel
theorem dX6_weighedOf_22 : decode cX6_weighedOf 22 = .ok (.irem, 1) := by decide +kernel
theorem dX6_weighedOf_23 : decode cX6_weighedOf 23 = .ok (.aload_n 0, 1) := by decide +kernel
theorem dX6_weighedOf_24 : decode cX6_weighedOf 24 = .ok (.getfield 144, 3) := by decide +kernel
theorem dX6_weighedOf_27 : decode cX6_weighedOf 27 = .ok (.if_icmp .ne 7, 3) := by decide +kernel
theorem dX6_weighedOf_30 : decode cX6_weighedOf 30 = .ok (.iconst 1, 1) := by decide +kernel
theorem dX6_weighedOf_31 : decode cX6_weighedOf 31 = .ok (.goto 4, 3) := by decide +kernel
theorem dX6_weighedOf_34 : decode cX6_weighedOf 34 = .ok (.iconst 0, 1) := by decide +kernel
theorem dX6_weighedOf_35 : decode cX6_weighedOf 35 = .ok (.ireturn, 1) := by decide +kernel
theorem dX6_gets_0 : decode cX6_gets 0 = .ok (.aload_n 0, 1) := by decide +kernel
theorem dX6_gets_1 : decode cX6_gets 1 = .ok (.iload_n 1, 1) := by decide +kernel
theorem dX6_gets_2 : decode cX6_gets 2 = .ok (.invokevirtual 248, 3) := by decide +kernel
theorem dX6_gets_5 : decode cX6_gets 5 = .ok (.iconst 1, 1) := by decide +kernel
theorem dX6_gets_6 : decode cX6_gets 6 = .ok (.if_icmp .ne 7, 3) := by decide +kernel
theorem dX6_gets_9 : decode cX6_gets 9 = .ok (.iconst 1, 1) := by decide +kernel
theorem dX6_gets_10 : decode cX6_gets 10 = .ok (.goto 4, 3) := by decide +kernel
theorem dX6_gets_13 : decode cX6_gets 13 = .ok (.iconst 0, 1) := by decide +kernel
theorem dX6_gets_14 : decode cX6_gets 14 = .ok (.ireturn, 1) := by decide +kernel
theorem dX6_noWord_0 : decode cX6_noWord 0 = .ok (.iload_n 1, 1) := by decide +kernel
theorem dX6_noWord_1 : decode cX6_noWord 1 = .ok (.i2l, 1) := by decide +kernel
theorem dX6_noWord_2 : decode cX6_noWord 2 = .ok (.lconst 0, 1) := by decide +kernel
theorem dX6_noWord_3 : decode cX6_noWord 3 = .ok (.ldc2_w 96, 3) := by decide +kernel
theorem dX6_noWord_6 : decode cX6_noWord 6 = .ok (.invokestatic 92, 3) := by decide +kernel
theorem dX6_noWord_9 : decode cX6_noWord 9 = .ok (.ifCond .eq 19, 3) := by decide +kernel
theorem dX6_noWord_12 : decode cX6_noWord 12 = .ok (.iload_n 2, 1) := by decide +kernel
theorem dX6_noWord_13 : decode cX6_noWord 13 = .ok (.i2l, 1) := by decide +kernel
theorem dX6_noWord_14 : decode cX6_noWord 14 = .ok (.lconst 0, 1) := by decide +kernel
theorem dX6_noWord_15 : decode cX6_noWord 15 = .ok (.iload_n 3, 1) := by decide +kernel
theorem dX6_noWord_16 : decode cX6_noWord 16 = .ok (.i2l, 1) := by decide +kernel
theorem dX6_noWord_17 : decode cX6_noWord 17 = .ok (.invokestatic 92, 3) := by decide +kernel
theorem dX6_noWord_20 : decode cX6_noWord 20 = .ok (.ifCond .eq 8, 3) := by decide +kernel
theorem dX6_noWord_23 : decode cX6_noWord 23 = .ok (.iload 4, 2) := by decide +kernel
theorem dX6_noWord_25 : decode cX6_noWord 25 = .ok (.ifCond .ne 10, 3) := by decide +kernel
theorem dX6_noWord_28 : decode cX6_noWord 28 = .ok (.aload_n 0, 1) := by decide +kernel
theorem dX6_noWord_29 : decode cX6_noWord 29 = .ok (.bipush (-2), 2) := by decide +kernel
theorem dX6_noWord_31 : decode cX6_noWord 31 = .ok (.invokevirtual 102, 3) := by decide +kernel
theorem dX6_noWord_34 : decode cX6_noWord 34 = .ok (.ireturn, 1) := by decide +kernel
theorem dX6_noWord_35 : decode cX6_noWord 35 = .ok (.aload_n 0, 1) := by decide +kernel
theorem dX6_noWord_36 : decode cX6_noWord 36 = .ok (.iload_n 1, 1) := by decide +kernel
theorem dX6_noWord_37 : decode cX6_noWord 37 = .ok (.invokevirtual 106, 3) := by decide +kernel
theorem dX6_noWord_40 : decode cX6_noWord 40 = .ok (.istore 5, 2) := by decide +kernel
theorem dX6_noWord_42 : decode cX6_noWord 42 = .ok (.iload 5, 2) := by decide +kernel
theorem dX6_noWord_44 : decode cX6_noWord 44 = .ok (.ifCond .eq 6, 3) := by decide +kernel
theorem dX6_noWord_47 : decode cX6_noWord 47 = .ok (.iload 5, 2) := by decide +kernel
theorem dX6_noWord_49 : decode cX6_noWord 49 = .ok (.ireturn, 1) := by decide +kernel
theorem dX6_noWord_50 : decode cX6_noWord 50 = .ok (.aload_n 0, 1) := by decide +kernel
theorem dX6_noWord_51 : decode cX6_noWord 51 = .ok (.getfield 16, 3) := by decide +kernel
theorem dX6_noWord_54 : decode cX6_noWord 54 = .ok (.iload_n 1, 1) := by decide +kernel
theorem dX6_noWord_55 : decode cX6_noWord 55 = .ok (.iaload, 1) := by decide +kernel
theorem dX6_noWord_56 : decode cX6_noWord 56 = .ok (.iload_n 2, 1) := by decide +kernel
theorem dX6_noWord_57 : decode cX6_noWord 57 = .ok (.if_icmp .ge 10, 3) := by decide +kernel
theorem dX6_noWord_60 : decode cX6_noWord 60 = .ok (.aload_n 0, 1) := by decide +kernel
theorem dX6_noWord_61 : decode cX6_noWord 61 = .ok (.bipush (-2), 2) := by decide +kernel
theorem dX6_noWord_63 : decode cX6_noWord 63 = .ok (.invokevirtual 102, 3) := by decide +kernel
theorem dX6_noWord_66 : decode cX6_noWord 66 = .ok (.ireturn, 1) := by decide +kernel
theorem dX6_noWord_67 : decode cX6_noWord 67 = .ok (.aload_n 0, 1) := by decide +kernel
theorem dX6_noWord_68 : decode cX6_noWord 68 = .ok (.iload_n 1, 1) := by decide +kernel
theorem dX6_noWord_69 : decode cX6_noWord 69 = .ok (.iload_n 2, 1) := by decide +kernel
theorem dX6_noWord_70 : decode cX6_noWord 70 = .ok (.invokevirtual 251, 3) := by decide +kernel
theorem dX6_noWord_73 : decode cX6_noWord 73 = .ok (.ireturn, 1) := by decide +kernel
theorem dX6_takeWord_0 : decode cX6_takeWord 0 = .ok (.aload_n 0, 1) := by decide +kernel
theorem dX6_takeWord_1 : decode cX6_takeWord 1 = .ok (.iload_n 2, 1) := by decide +kernel
theorem dX6_takeWord_2 : decode cX6_takeWord 2 = .ok (.putfield 123, 3) := by decide +kernel
theorem dX6_takeWord_5 : decode cX6_takeWord 5 = .ok (.iconst 0, 1) := by decide +kernel
theorem dX6_takeWord_6 : decode cX6_takeWord 6 = .ok (.istore_n 3, 1) := by decide +kernel
theorem dX6_takeWord_7 : decode cX6_takeWord 7 = .ok (.iload_n 3, 1) := by decide +kernel
theorem dX6_takeWord_8 : decode cX6_takeWord 8 = .ok (.iload_n 2, 1) := by decide +kernel
theorem dX6_takeWord_9 : decode cX6_takeWord 9 = .ok (.if_icmp .ge 49, 3) := by decide +kernel
theorem dX6_takeWord_12 : decode cX6_takeWord 12 = .ok (.aload_n 0, 1) := by decide +kernel
theorem dX6_takeWord_13 : decode cX6_takeWord 13 = .ok (.getfield 21, 3) := by decide +kernel
theorem dX6_takeWord_16 : decode cX6_takeWord 16 = .ok (.iload_n 1, 1) := by decide +kernel
theorem dX6_takeWord_17 : decode cX6_takeWord 17 = .ok (.aaload, 1) := by decide +kernel
theorem dX6_takeWord_18 : decode cX6_takeWord 18 = .ok (.iload_n 3, 1) := by decide +kernel
theorem dX6_takeWord_19 : decode cX6_takeWord 19 = .ok (.laload, 1) := by decide +kernel
theorem dX6_takeWord_20 : decode cX6_takeWord 20 = .ok (.lconst 0, 1) := by decide +kernel
theorem dX6_takeWord_21 : decode cX6_takeWord 21 = .ok (.ldc2_w 232, 3) := by decide +kernel
theorem dX6_takeWord_24 : decode cX6_takeWord 24 = .ok (.invokestatic 92, 3) := by decide +kernel
theorem dX6_takeWord_27 : decode cX6_takeWord 27 = .ok (.ifCond .ne 10, 3) := by decide +kernel
theorem dX6_takeWord_30 : decode cX6_takeWord 30 = .ok (.aload_n 0, 1) := by decide +kernel
theorem dX6_takeWord_31 : decode cX6_takeWord 31 = .ok (.bipush (-5), 2) := by decide +kernel
theorem dX6_takeWord_33 : decode cX6_takeWord 33 = .ok (.invokevirtual 102, 3) := by decide +kernel
theorem dX6_takeWord_36 : decode cX6_takeWord 36 = .ok (.ireturn, 1) := by decide +kernel
theorem dX6_takeWord_37 : decode cX6_takeWord 37 = .ok (.aload_n 0, 1) := by decide +kernel
theorem dX6_takeWord_38 : decode cX6_takeWord 38 = .ok (.getfield 62, 3) := by decide +kernel
theorem dX6_takeWord_41 : decode cX6_takeWord 41 = .ok (.iload_n 3, 1) := by decide +kernel
theorem dX6_takeWord_42 : decode cX6_takeWord 42 = .ok (.aload_n 0, 1) := by decide +kernel
theorem dX6_takeWord_43 : decode cX6_takeWord 43 = .ok (.getfield 21, 3) := by decide +kernel
theorem dX6_takeWord_46 : decode cX6_takeWord 46 = .ok (.iload_n 1, 1) := by decide +kernel
theorem dX6_takeWord_47 : decode cX6_takeWord 47 = .ok (.aaload, 1) := by decide +kernel
theorem dX6_takeWord_48 : decode cX6_takeWord 48 = .ok (.iload_n 3, 1) := by decide +kernel
theorem dX6_takeWord_49 : decode cX6_takeWord 49 = .ok (.laload, 1) := by decide +kernel
theorem dX6_takeWord_50 : decode cX6_takeWord 50 = .ok (.l2i, 1) := by decide +kernel
theorem dX6_takeWord_51 : decode cX6_takeWord 51 = .ok (.iastore, 1) := by decide +kernel
theorem dX6_takeWord_52 : decode cX6_takeWord 52 = .ok (.iinc 3 1, 3) := by decide +kernel
theorem dX6_takeWord_55 : decode cX6_takeWord 55 = .ok (.goto (-48), 3) := by decide +kernel
theorem dX6_takeWord_58 : decode cX6_takeWord 58 = .ok (.iconst 0, 1) := by decide +kernel
theorem dX6_takeWord_59 : decode cX6_takeWord 59 = .ok (.ireturn, 1) := by decide +kernel
theorem dX6_noWords_0 : decode cX6_noWords 0 = .ok (.iload_n 1, 1) := by decide +kernel
theorem dX6_noWords_1 : decode cX6_noWords 1 = .ok (.i2l, 1) := by decide +kernel
theorem dX6_noWords_2 : decode cX6_noWords 2 = .ok (.lconst 0, 1) := by decide +kernel
theorem dX6_noWords_3 : decode cX6_noWords 3 = .ok (.ldc2_w 96, 3) := by decide +kernel
theorem dX6_noWords_6 : decode cX6_noWords 6 = .ok (.invokestatic 92, 3) := by decide +kernel
theorem dX6_noWords_9 : decode cX6_noWords 9 = .ok (.ifCond .eq 45, 3) := by decide +kernel
theorem dX6_noWords_12 : decode cX6_noWords 12 = .ok (.iload_n 2, 1) := by decide +kernel
theorem dX6_noWords_13 : decode cX6_noWords 13 = .ok (.i2l, 1) := by decide +kernel
theorem dX6_noWords_14 : decode cX6_noWords 14 = .ok (.lconst 0, 1) := by decide +kernel
theorem dX6_noWords_15 : decode cX6_noWords 15 = .ok (.ldc2_w 254, 3) := by decide +kernel
theorem dX6_noWords_18 : decode cX6_noWords 18 = .ok (.invokestatic 92, 3) := by decide +kernel
theorem dX6_noWords_21 : decode cX6_noWords 21 = .ok (.ifCond .eq 33, 3) := by decide +kernel
theorem dX6_noWords_24 : decode cX6_noWords 24 = .ok (.iload_n 3, 1) := by decide +kernel
theorem dX6_noWords_25 : decode cX6_noWords 25 = .ok (.i2l, 1) := by decide +kernel
theorem dX6_noWords_26 : decode cX6_noWords 26 = .ok (.lconst 0, 1) := by decide +kernel
theorem dX6_noWords_27 : decode cX6_noWords 27 = .ok (.ldc2_w 96, 3) := by decide +kernel
theorem dX6_noWords_30 : decode cX6_noWords 30 = .ok (.invokestatic 92, 3) := by decide +kernel
theorem dX6_noWords_33 : decode cX6_noWords 33 = .ok (.ifCond .eq 21, 3) := by decide +kernel
theorem dX6_noWords_36 : decode cX6_noWords 36 = .ok (.iload 4, 2) := by decide +kernel
theorem dX6_noWords_38 : decode cX6_noWords 38 = .ok (.i2l, 1) := by decide +kernel
theorem dX6_noWords_39 : decode cX6_noWords 39 = .ok (.lconst 0, 1) := by decide +kernel
theorem dX6_noWords_40 : decode cX6_noWords 40 = .ok (.iload 5, 2) := by decide +kernel
theorem dX6_noWords_42 : decode cX6_noWords 42 = .ok (.i2l, 1) := by decide +kernel
theorem dX6_noWords_43 : decode cX6_noWords 43 = .ok (.invokestatic 92, 3) := by decide +kernel
theorem dX6_noWords_46 : decode cX6_noWords 46 = .ok (.ifCond .eq 8, 3) := by decide +kernel
theorem dX6_noWords_49 : decode cX6_noWords 49 = .ok (.iload 7, 2) := by decide +kernel
theorem dX6_noWords_51 : decode cX6_noWords 51 = .ok (.ifCond .ne 10, 3) := by decide +kernel
theorem dX6_noWords_54 : decode cX6_noWords 54 = .ok (.aload_n 0, 1) := by decide +kernel
theorem dX6_noWords_55 : decode cX6_noWords 55 = .ok (.bipush (-2), 2) := by decide +kernel
theorem dX6_noWords_57 : decode cX6_noWords 57 = .ok (.invokevirtual 102, 3) := by decide +kernel
theorem dX6_noWords_60 : decode cX6_noWords 60 = .ok (.ireturn, 1) := by decide +kernel
theorem dX6_noWords_61 : decode cX6_noWords 61 = .ok (.aload_n 0, 1) := by decide +kernel
theorem dX6_noWords_62 : decode cX6_noWords 62 = .ok (.getfield 7, 3) := by decide +kernel
theorem dX6_noWords_65 : decode cX6_noWords 65 = .ok (.iload_n 1, 1) := by decide +kernel
theorem dX6_noWords_66 : decode cX6_noWords 66 = .ok (.iaload, 1) := by decide +kernel
theorem dX6_noWords_67 : decode cX6_noWords 67 = .ok (.iconst 2, 1) := by decide +kernel
theorem dX6_noWords_68 : decode cX6_noWords 68 = .ok (.if_icmp .eq 13, 3) := by decide +kernel
theorem dX6_noWords_71 : decode cX6_noWords 71 = .ok (.aload_n 0, 1) := by decide +kernel
theorem dX6_noWords_72 : decode cX6_noWords 72 = .ok (.getfield 7, 3) := by decide +kernel
theorem dX6_noWords_75 : decode cX6_noWords 75 = .ok (.iload_n 3, 1) := by decide +kernel
theorem dX6_noWords_76 : decode cX6_noWords 76 = .ok (.iaload, 1) := by decide +kernel
theorem dX6_noWords_77 : decode cX6_noWords 77 = .ok (.iconst 2, 1) := by decide +kernel
theorem dX6_noWords_78 : decode cX6_noWords 78 = .ok (.if_icmp .ne 10, 3) := by decide +kernel
theorem dX6_noWords_81 : decode cX6_noWords 81 = .ok (.aload_n 0, 1) := by decide +kernel
theorem dX6_noWords_82 : decode cX6_noWords 82 = .ok (.bipush (-3), 2) := by decide +kernel
theorem dX6_noWords_84 : decode cX6_noWords 84 = .ok (.invokevirtual 102, 3) := by decide +kernel
theorem dX6_noWords_87 : decode cX6_noWords 87 = .ok (.ireturn, 1) := by decide +kernel
theorem dX6_noWords_88 : decode cX6_noWords 88 = .ok (.aload_n 0, 1) := by decide +kernel
theorem dX6_noWords_89 : decode cX6_noWords 89 = .ok (.getfield 7, 3) := by decide +kernel
theorem dX6_noWords_92 : decode cX6_noWords 92 = .ok (.iload_n 1, 1) := by decide +kernel
theorem dX6_noWords_93 : decode cX6_noWords 93 = .ok (.iaload, 1) := by decide +kernel
theorem dX6_noWords_94 : decode cX6_noWords 94 = .ok (.ifCond .eq 12, 3) := by decide +kernel
theorem dX6_noWords_97 : decode cX6_noWords 97 = .ok (.aload_n 0, 1) := by decide +kernel
theorem dX6_noWords_98 : decode cX6_noWords 98 = .ok (.getfield 7, 3) := by decide +kernel
theorem dX6_noWords_101 : decode cX6_noWords 101 = .ok (.iload_n 3, 1) := by decide +kernel
theorem dX6_noWords_102 : decode cX6_noWords 102 = .ok (.iaload, 1) := by decide +kernel
theorem dX6_noWords_103 : decode cX6_noWords 103 = .ok (.ifCond .ne 10, 3) := by decide +kernel
theorem dX6_noWords_106 : decode cX6_noWords 106 = .ok (.aload_n 0, 1) := by decide +kernel
theorem dX6_noWords_107 : decode cX6_noWords 107 = .ok (.bipush (-4), 2) := by decide +kernel
theorem dX6_noWords_109 : decode cX6_noWords 109 = .ok (.invokevirtual 102, 3) := by decide +kernel
theorem dX6_noWords_112 : decode cX6_noWords 112 = .ok (.ireturn, 1) := by decide +kernel
theorem dX6_noWords_113 : decode cX6_noWords 113 = .ok (.aload_n 0, 1) := by decide +kernel
theorem dX6_noWords_114 : decode cX6_noWords 114 = .ok (.getfield 16, 3) := by decide +kernel
theorem dX6_noWords_117 : decode cX6_noWords 117 = .ok (.iload_n 1, 1) := by decide +kernel
theorem dX6_noWords_118 : decode cX6_noWords 118 = .ok (.iaload, 1) := by decide +kernel
theorem dX6_noWords_119 : decode cX6_noWords 119 = .ok (.iload_n 2, 1) := by decide +kernel
theorem dX6_noWords_120 : decode cX6_noWords 120 = .ok (.if_icmp .lt 17, 3) := by decide +kernel
theorem dX6_noWords_123 : decode cX6_noWords 123 = .ok (.aload_n 0, 1) := by decide +kernel
theorem dX6_noWords_124 : decode cX6_noWords 124 = .ok (.getfield 16, 3) := by decide +kernel
theorem dX6_noWords_127 : decode cX6_noWords 127 = .ok (.iload_n 3, 1) := by decide +kernel
theorem dX6_noWords_128 : decode cX6_noWords 128 = .ok (.iaload, 1) := by decide +kernel
theorem dX6_noWords_129 : decode cX6_noWords 129 = .ok (.iload 6, 2) := by decide +kernel
theorem dX6_noWords_131 : decode cX6_noWords 131 = .ok (.iload 4, 2) := by decide +kernel
theorem dX6_noWords_133 : decode cX6_noWords 133 = .ok (.imul, 1) := by decide +kernel
theorem dX6_noWords_134 : decode cX6_noWords 134 = .ok (.if_icmp .ge 10, 3) := by decide +kernel
theorem dX6_noWords_137 : decode cX6_noWords 137 = .ok (.aload_n 0, 1) := by decide +kernel
theorem dX6_noWords_138 : decode cX6_noWords 138 = .ok (.bipush (-2), 2) := by decide +kernel
theorem dX6_noWords_140 : decode cX6_noWords 140 = .ok (.invokevirtual 102, 3) := by decide +kernel
theorem dX6_noWords_143 : decode cX6_noWords 143 = .ok (.ireturn, 1) := by decide +kernel
theorem dX6_noWords_144 : decode cX6_noWords 144 = .ok (.aload_n 0, 1) := by decide +kernel
theorem dX6_noWords_145 : decode cX6_noWords 145 = .ok (.iload_n 1, 1) := by decide +kernel
theorem dX6_noWords_146 : decode cX6_noWords 146 = .ok (.iload_n 2, 1) := by decide +kernel
theorem dX6_noWords_147 : decode cX6_noWords 147 = .ok (.invokevirtual 251, 3) := by decide +kernel
theorem dX6_noWords_150 : decode cX6_noWords 150 = .ok (.ireturn, 1) := by decide +kernel
theorem dX6_echo_0 : decode cX6_echo 0 = .ok (.aload_n 0, 1) := by decide +kernel
theorem dX6_echo_1 : decode cX6_echo 1 = .ok (.iload_n 1, 1) := by decide +kernel
theorem dX6_echo_2 : decode cX6_echo 2 = .ok (.iload_n 2, 1) := by decide +kernel
theorem dX6_echo_3 : decode cX6_echo 3 = .ok (.bipush 12, 2) := by decide +kernel
theorem dX6_echo_5 : decode cX6_echo 5 = .ok (.aload_n 0, 1) := by decide +kernel
theorem dX6_echo_6 : decode cX6_echo 6 = .ok (.iload_n 3, 1) := by decide +kernel
theorem dX6_echo_7 : decode cX6_echo 7 = .ok (.invokevirtual 113, 3) := by decide +kernel
theorem dX6_echo_10 : decode cX6_echo 10 = .ok (.ifCond .eq 13, 3) := by decide +kernel
theorem dX6_echo_13 : decode cX6_echo 13 = .ok (.iload 4, 2) := by decide +kernel
theorem dX6_echo_15 : decode cX6_echo 15 = .ok (.iconst (-1), 1) := by decide +kernel
theorem dX6_echo_16 : decode cX6_echo 16 = .ok (.if_icmp .lt 7, 3) := by decide +kernel
theorem dX6_echo_19 : decode cX6_echo 19 = .ok (.iconst 1, 1) := by decide +kernel
theorem dX6_echo_20 : decode cX6_echo 20 = .ok (.goto 4, 3) := by decide +kernel
theorem dX6_echo_23 : decode cX6_echo 23 = .ok (.iconst 0, 1) := by decide +kernel
theorem dX6_echo_24 : decode cX6_echo 24 = .ok (.invokevirtual 256, 3) := by decide +kernel
theorem dX6_echo_27 : decode cX6_echo 27 = .ok (.istore 5, 2) := by decide +kernel
theorem dX6_echo_29 : decode cX6_echo 29 = .ok (.iload 5, 2) := by decide +kernel
theorem dX6_echo_31 : decode cX6_echo 31 = .ok (.ifCond .eq 6, 3) := by decide +kernel
theorem dX6_echo_34 : decode cX6_echo 34 = .ok (.iload 5, 2) := by decide +kernel
theorem dX6_echo_36 : decode cX6_echo 36 = .ok (.ireturn, 1) := by decide +kernel
theorem dX6_echo_37 : decode cX6_echo 37 = .ok (.aload_n 0, 1) := by decide +kernel
theorem dX6_echo_38 : decode cX6_echo 38 = .ok (.iload_n 3, 1) := by decide +kernel
theorem dX6_echo_39 : decode cX6_echo 39 = .ok (.invokevirtual 244, 3) := by decide +kernel
theorem dX6_echo_42 : decode cX6_echo 42 = .ok (.iload 4, 2) := by decide +kernel
theorem dX6_echo_44 : decode cX6_echo 44 = .ok (.iconst (-1), 1) := by decide +kernel
theorem dX6_echo_45 : decode cX6_echo 45 = .ok (.if_icmp .ne 10, 3) := by decide +kernel
theorem dX6_echo_48 : decode cX6_echo 48 = .ok (.aload_n 0, 1) := by decide +kernel
theorem dX6_echo_49 : decode cX6_echo 49 = .ok (.getfield 241, 3) := by decide +kernel
theorem dX6_echo_52 : decode cX6_echo 52 = .ok (.goto 28, 3) := by decide +kernel
theorem dX6_echo_55 : decode cX6_echo 55 = .ok (.iload 4, 2) := by decide +kernel
theorem dX6_echo_57 : decode cX6_echo 57 = .ok (.aload_n 0, 1) := by decide +kernel
theorem dX6_echo_58 : decode cX6_echo 58 = .ok (.getfield 241, 3) := by decide +kernel
theorem dX6_echo_61 : decode cX6_echo 61 = .ok (.if_icmp .ge 13, 3) := by decide +kernel
theorem dX6_echo_64 : decode cX6_echo 64 = .ok (.aload_n 0, 1) := by decide +kernel
theorem dX6_echo_65 : decode cX6_echo 65 = .ok (.getfield 65, 3) := by decide +kernel
theorem dX6_echo_68 : decode cX6_echo 68 = .ok (.iload 4, 2) := by decide +kernel
theorem dX6_echo_70 : decode cX6_echo 70 = .ok (.iaload, 1) := by decide +kernel
theorem dX6_echo_71 : decode cX6_echo 71 = .ok (.goto 9, 3) := by decide +kernel
theorem dX6_echo_74 : decode cX6_echo 74 = .ok (.aload_n 0, 1) := by decide +kernel
theorem dX6_echo_75 : decode cX6_echo 75 = .ok (.bipush (-5), 2) := by decide +kernel
theorem dX6_echo_77 : decode cX6_echo 77 = .ok (.invokevirtual 102, 3) := by decide +kernel
theorem dX6_echo_80 : decode cX6_echo 80 = .ok (.ireturn, 1) := by decide +kernel
theorem dX6_sum_0 : decode cX6_sum 0 = .ok (.aload_n 0, 1) := by decide +kernel
theorem dX6_sum_1 : decode cX6_sum 1 = .ok (.iload_n 1, 1) := by decide +kernel
theorem dX6_sum_2 : decode cX6_sum 2 = .ok (.iload_n 2, 1) := by decide +kernel
theorem dX6_sum_3 : decode cX6_sum 3 = .ok (.bipush 12, 2) := by decide +kernel
theorem dX6_sum_5 : decode cX6_sum 5 = .ok (.aload_n 0, 1) := by decide +kernel
theorem dX6_sum_6 : decode cX6_sum 6 = .ok (.iload_n 3, 1) := by decide +kernel
theorem dX6_sum_7 : decode cX6_sum 7 = .ok (.invokevirtual 113, 3) := by decide +kernel
theorem dX6_sum_10 : decode cX6_sum 10 = .ok (.invokevirtual 256, 3) := by decide +kernel
theorem dX6_sum_13 : decode cX6_sum 13 = .ok (.istore 4, 2) := by decide +kernel
theorem dX6_sum_15 : decode cX6_sum 15 = .ok (.iload 4, 2) := by decide +kernel
theorem dX6_sum_17 : decode cX6_sum 17 = .ok (.ifCond .eq 8, 3) := by decide +kernel
theorem dX6_sum_20 : decode cX6_sum 20 = .ok (.iload 4, 2) := by decide +kernel
theorem dX6_sum_22 : decode cX6_sum 22 = .ok (.goto 8, 3) := by decide +kernel
theorem dX6_sum_25 : decode cX6_sum 25 = .ok (.aload_n 0, 1) := by decide +kernel
theorem dX6_sum_26 : decode cX6_sum 26 = .ok (.iload_n 3, 1) := by decide +kernel
theorem dX6_sum_27 : decode cX6_sum 27 = .ok (.invokevirtual 126, 3) := by decide +kernel
theorem dX6_sum_30 : decode cX6_sum 30 = .ok (.ireturn, 1) := by decide +kernel
theorem dX6_weighed_0 : decode cX6_weighed 0 = .ok (.aload_n 0, 1) := by decide +kernel
theorem dX6_weighed_1 : decode cX6_weighed 1 = .ok (.iload_n 1, 1) := by decide +kernel
theorem dX6_weighed_2 : decode cX6_weighed 2 = .ok (.iload_n 2, 1) := by decide +kernel
theorem dX6_weighed_3 : decode cX6_weighed 3 = .ok (.bipush 12, 2) := by decide +kernel
theorem dX6_weighed_5 : decode cX6_weighed 5 = .ok (.aload_n 0, 1) := by decide +kernel
theorem dX6_weighed_6 : decode cX6_weighed 6 = .ok (.iload_n 3, 1) := by decide +kernel
theorem dX6_weighed_7 : decode cX6_weighed 7 = .ok (.invokevirtual 113, 3) := by decide +kernel
theorem dX6_weighed_10 : decode cX6_weighed 10 = .ok (.invokevirtual 256, 3) := by decide +kernel
theorem dX6_weighed_13 : decode cX6_weighed 13 = .ok (.istore 4, 2) := by decide +kernel
theorem dX6_weighed_15 : decode cX6_weighed 15 = .ok (.iload 4, 2) := by decide +kernel
theorem dX6_weighed_17 : decode cX6_weighed 17 = .ok (.ifCond .eq 8, 3) := by decide +kernel
theorem dX6_weighed_20 : decode cX6_weighed 20 = .ok (.iload 4, 2) := by decide +kernel
theorem dX6_weighed_22 : decode cX6_weighed 22 = .ok (.goto 8, 3) := by decide +kernel
theorem dX6_weighed_25 : decode cX6_weighed 25 = .ok (.aload_n 0, 1) := by decide +kernel
theorem dX6_weighed_26 : decode cX6_weighed 26 = .ok (.iload_n 3, 1) := by decide +kernel
theorem dX6_weighed_27 : decode cX6_weighed 27 = .ok (.invokevirtual 248, 3) := by decide +kernel
theorem dX6_weighed_30 : decode cX6_weighed 30 = .ok (.ireturn, 1) := by decide +kernel
theorem dX6_yesBits_0 : decode cX6_yesBits 0 = .ok (.iconst 0, 1) := by decide +kernel
theorem dX6_yesBits_1 : decode cX6_yesBits 1 = .ok (.istore_n 1, 1) := by decide +kernel
theorem dX6_yesBits_2 : decode cX6_yesBits 2 = .ok (.iconst 0, 1) := by decide +kernel
theorem dX6_yesBits_3 : decode cX6_yesBits 3 = .ok (.istore_n 2, 1) := by decide +kernel
theorem dX6_yesBits_4 : decode cX6_yesBits 4 = .ok (.iload_n 2, 1) := by decide +kernel
theorem dX6_yesBits_5 : decode cX6_yesBits 5 = .ok (.aload_n 0, 1) := by decide +kernel
theorem dX6_yesBits_6 : decode cX6_yesBits 6 = .ok (.getfield 89, 3) := by decide +kernel
theorem dX6_yesBits_9 : decode cX6_yesBits 9 = .ok (.if_icmp .ge 27, 3) := by decide +kernel
theorem dX6_yesBits_12 : decode cX6_yesBits 12 = .ok (.iload_n 1, 1) := by decide +kernel
theorem dX6_yesBits_13 : decode cX6_yesBits 13 = .ok (.aload_n 0, 1) := by decide +kernel
theorem dX6_yesBits_14 : decode cX6_yesBits 14 = .ok (.iload_n 2, 1) := by decide +kernel
theorem dX6_yesBits_15 : decode cX6_yesBits 15 = .ok (.invokevirtual 260, 3) := by decide +kernel
theorem dX6_yesBits_18 : decode cX6_yesBits 18 = .ok (.ifCond .eq 9, 3) := by decide +kernel
theorem dX6_yesBits_21 : decode cX6_yesBits 21 = .ok (.iconst 1, 1) := by decide +kernel
theorem dX6_yesBits_22 : decode cX6_yesBits 22 = .ok (.iload_n 2, 1) := by decide +kernel
theorem dX6_yesBits_23 : decode cX6_yesBits 23 = .ok (.ishl, 1) := by decide +kernel
theorem dX6_yesBits_24 : decode cX6_yesBits 24 = .ok (.goto 4, 3) := by decide +kernel
theorem dX6_yesBits_27 : decode cX6_yesBits 27 = .ok (.iconst 0, 1) := by decide +kernel
theorem dX6_yesBits_28 : decode cX6_yesBits 28 = .ok (.ior, 1) := by decide +kernel
theorem dX6_yesBits_29 : decode cX6_yesBits 29 = .ok (.istore_n 1, 1) := by decide +kernel
theorem dX6_yesBits_30 : decode cX6_yesBits 30 = .ok (.iinc 2 1, 3) := by decide +kernel
theorem dX6_yesBits_33 : decode cX6_yesBits 33 = .ok (.goto (-29), 3) := by decide +kernel
theorem dX6_yesBits_36 : decode cX6_yesBits 36 = .ok (.iload_n 1, 1) := by decide +kernel
theorem dX6_yesBits_37 : decode cX6_yesBits 37 = .ok (.ireturn, 1) := by decide +kernel
theorem dX6_heard_0 : decode cX6_heard 0 = .ok (.aload_n 0, 1) := by decide +kernel
theorem dX6_heard_1 : decode cX6_heard 1 = .ok (.iload_n 1, 1) := by decide +kernel
theorem dX6_heard_2 : decode cX6_heard 2 = .ok (.iload_n 2, 1) := by decide +kernel
theorem dX6_heard_3 : decode cX6_heard 3 = .ok (.bipush 12, 2) := by decide +kernel
theorem dX6_heard_5 : decode cX6_heard 5 = .ok (.iconst 1, 1) := by decide +kernel
theorem dX6_heard_6 : decode cX6_heard 6 = .ok (.invokevirtual 256, 3) := by decide +kernel
theorem dX6_heard_9 : decode cX6_heard 9 = .ok (.istore_n 3, 1) := by decide +kernel
theorem dX6_heard_10 : decode cX6_heard 10 = .ok (.iload_n 3, 1) := by decide +kernel
theorem dX6_heard_11 : decode cX6_heard 11 = .ok (.ifCond .eq 7, 3) := by decide +kernel
theorem dX6_heard_14 : decode cX6_heard 14 = .ok (.iload_n 3, 1) := by decide +kernel
theorem dX6_heard_15 : decode cX6_heard 15 = .ok (.goto 7, 3) := by decide +kernel
theorem dX6_heard_18 : decode cX6_heard 18 = .ok (.aload_n 0, 1) := by decide +kernel
theorem dX6_heard_19 : decode cX6_heard 19 = .ok (.invokevirtual 263, 3) := by decide +kernel
theorem dX6_heard_22 : decode cX6_heard 22 = .ok (.ireturn, 1) := by decide +kernel
theorem dX6_mute_0 : decode cX6_mute 0 = .ok (.aload_n 0, 1) := by decide +kernel
theorem dX6_mute_1 : decode cX6_mute 1 = .ok (.iload_n 1, 1) := by decide +kernel
theorem dX6_mute_2 : decode cX6_mute 2 = .ok (.iload_n 2, 1) := by decide +kernel
theorem dX6_mute_3 : decode cX6_mute 3 = .ok (.bipush 12, 2) := by decide +kernel
theorem dX6_mute_5 : decode cX6_mute 5 = .ok (.iconst 1, 1) := by decide +kernel
theorem dX6_mute_6 : decode cX6_mute 6 = .ok (.invokevirtual 256, 3) := by decide +kernel
theorem dX6_mute_9 : decode cX6_mute 9 = .ok (.istore_n 3, 1) := by decide +kernel
theorem dX6_mute_10 : decode cX6_mute 10 = .ok (.iconst 0, 1) := by decide +kernel
theorem dX6_mute_11 : decode cX6_mute 11 = .ok (.istore 4, 2) := by decide +kernel
theorem dX6_mute_13 : decode cX6_mute 13 = .ok (.iconst 0, 1) := by decide +kernel
theorem dX6_mute_14 : decode cX6_mute 14 = .ok (.istore 5, 2) := by decide +kernel
theorem dX6_mute_16 : decode cX6_mute 16 = .ok (.iload 5, 2) := by decide +kernel
theorem dX6_mute_18 : decode cX6_mute 18 = .ok (.aload_n 0, 1) := by decide +kernel
theorem dX6_mute_19 : decode cX6_mute 19 = .ok (.getfield 89, 3) := by decide +kernel
theorem dX6_mute_22 : decode cX6_mute 22 = .ok (.if_icmp .ge 36, 3) := by decide +kernel
theorem dX6_mute_25 : decode cX6_mute 25 = .ok (.iload_n 3, 1) := by decide +kernel
theorem dX6_mute_26 : decode cX6_mute 26 = .ok (.ifCond .ne 32, 3) := by decide +kernel
theorem dX6_mute_29 : decode cX6_mute 29 = .ok (.iload 4, 2) := by decide +kernel
theorem dX6_mute_31 : decode cX6_mute 31 = .ok (.aload_n 0, 1) := by decide +kernel
theorem dX6_mute_32 : decode cX6_mute 32 = .ok (.iload 5, 2) := by decide +kernel
theorem dX6_mute_34 : decode cX6_mute 34 = .ok (.invokevirtual 248, 3) := by decide +kernel
theorem dX6_mute_37 : decode cX6_mute 37 = .ok (.iconst (-1), 1) := by decide +kernel
theorem dX6_mute_38 : decode cX6_mute 38 = .ok (.if_icmp .ne 10, 3) := by decide +kernel
theorem dX6_mute_41 : decode cX6_mute 41 = .ok (.iconst 1, 1) := by decide +kernel
