theorem dX5_init_0 : decode cX5_init 0 = .ok (.aload_n 0, 1) := by decide +kernel
theorem dX5_init_1 : decode cX5_init 1 = .ok (.invokespecial 3, 3) := by decide +kernel
theorem dX5_init_4 : decode cX5_init 4 = .ok (.aload_n 0, 1) := by decide +kernel
theorem dX5_init_5 : decode cX5_init 5 = .ok (.new 9, 3) := by decide +kernel
theorem dX5_init_8 : decode cX5_init 8 = .ok (.dup, 1) := by decide +kernel
theorem dX5_init_9 : decode cX5_init 9 = .ok (.invokespecial 11, 3) := by decide +kernel
theorem dX5_init_12 : decode cX5_init 12 = .ok (.putfield 12, 3) := by decide +kernel
theorem dX5_init_15 : decode cX5_init 15 = .ok (.aload_n 0, 1) := by decide +kernel
theorem dX5_init_16 : decode cX5_init 16 = .ok (.new 9, 3) := by decide +kernel
theorem dX5_init_19 : decode cX5_init 19 = .ok (.dup, 1) := by decide +kernel
theorem dX5_init_20 : decode cX5_init 20 = .ok (.invokespecial 11, 3) := by decide +kernel
theorem dX5_init_23 : decode cX5_init 23 = .ok (.putfield 16, 3) := by decide +kernel
theorem dX5_init_26 : decode cX5_init 26 = .ok (.aload_n 0, 1) := by decide +kernel
theorem dX5_init_27 : decode cX5_init 27 = .ok (.new 9, 3) := by decide +kernel
theorem dX5_init_30 : decode cX5_init 30 = .ok (.dup, 1) := by decide +kernel
theorem dX5_init_31 : decode cX5_init 31 = .ok (.invokespecial 11, 3) := by decide +kernel
theorem dX5_init_34 : decode cX5_init 34 = .ok (.putfield 19, 3) := by decide +kernel
theorem dX5_init_37 : decode cX5_init 37 = .ok (.aload_n 0, 1) := by decide +kernel
theorem dX5_init_38 : decode cX5_init 38 = .ok (.new 22, 3) := by decide +kernel
theorem dX5_init_41 : decode cX5_init 41 = .ok (.dup, 1) := by decide +kernel
theorem dX5_init_42 : decode cX5_init 42 = .ok (.invokespecial 24, 3) := by decide +kernel
theorem dX5_init_45 : decode cX5_init 45 = .ok (.putfield 25, 3) := by decide +kernel
theorem dX5_init_48 : decode cX5_init 48 = .ok (.aload_n 0, 1) := by decide +kernel
theorem dX5_init_49 : decode cX5_init 49 = .ok (.new 29, 3) := by decide +kernel
theorem dX5_init_52 : decode cX5_init 52 = .ok (.dup, 1) := by decide +kernel
theorem dX5_init_53 : decode cX5_init 53 = .ok (.invokespecial 31, 3) := by decide +kernel
theorem dX5_init_56 : decode cX5_init 56 = .ok (.putfield 32, 3) := by decide +kernel
theorem dX5_init_59 : decode cX5_init 59 = .ok (.aload_n 0, 1) := by decide +kernel
theorem dX5_init_60 : decode cX5_init 60 = .ok (.iconst 5, 1) := by decide +kernel
theorem dX5_init_61 : decode cX5_init 61 = .ok (.newarray .int, 2) := by decide +kernel
theorem dX5_init_63 : decode cX5_init 63 = .ok (.putfield 36, 3) := by decide +kernel
theorem dX5_init_66 : decode cX5_init 66 = .ok (.aload_n 0, 1) := by decide +kernel
theorem dX5_init_67 : decode cX5_init 67 = .ok (.new 40, 3) := by decide +kernel
theorem dX5_init_70 : decode cX5_init 70 = .ok (.dup, 1) := by decide +kernel
theorem dX5_init_71 : decode cX5_init 71 = .ok (.invokespecial 42, 3) := by decide +kernel
theorem dX5_init_74 : decode cX5_init 74 = .ok (.putfield 43, 3) := by decide +kernel
theorem dX5_init_77 : decode cX5_init 77 = .ok (.aload_n 0, 1) := by decide +kernel
theorem dX5_init_78 : decode cX5_init 78 = .ok (.new 40, 3) := by decide +kernel
theorem dX5_init_81 : decode cX5_init 81 = .ok (.dup, 1) := by decide +kernel
theorem dX5_init_82 : decode cX5_init 82 = .ok (.invokespecial 42, 3) := by decide +kernel
theorem dX5_init_85 : decode cX5_init 85 = .ok (.putfield 47, 3) := by decide +kernel
theorem dX5_init_88 : decode cX5_init 88 = .ok (.aload_n 0, 1) := by decide +kernel
theorem dX5_init_89 : decode cX5_init 89 = .ok (.new 50, 3) := by decide +kernel
theorem dX5_init_92 : decode cX5_init 92 = .ok (.dup, 1) := by decide +kernel
theorem dX5_init_93 : decode cX5_init 93 = .ok (.invokespecial 52, 3) := by decide +kernel
theorem dX5_init_96 : decode cX5_init 96 = .ok (.putfield 53, 3) := by decide +kernel
theorem dX5_init_99 : decode cX5_init 99 = .ok (.aload_n 0, 1) := by decide +kernel
theorem dX5_init_100 : decode cX5_init 100 = .ok (.new 50, 3) := by decide +kernel
theorem dX5_init_103 : decode cX5_init 103 = .ok (.dup, 1) := by decide +kernel
theorem dX5_init_104 : decode cX5_init 104 = .ok (.invokespecial 52, 3) := by decide +kernel
theorem dX5_init_107 : decode cX5_init 107 = .ok (.putfield 57, 3) := by decide +kernel
theorem dX5_init_110 : decode cX5_init 110 = .ok (.aload_n 0, 1) := by decide +kernel
theorem dX5_init_111 : decode cX5_init 111 = .ok (.bipush 8, 2) := by decide +kernel
theorem dX5_init_113 : decode cX5_init 113 = .ok (.newarray .int, 2) := by decide +kernel
theorem dX5_init_115 : decode cX5_init 115 = .ok (.putfield 60, 3) := by decide +kernel
theorem dX5_init_118 : decode cX5_init 118 = .ok (.aload_n 0, 1) := by decide +kernel
theorem dX5_init_119 : decode cX5_init 119 = .ok (.sipush 256, 3) := by decide +kernel
theorem dX5_init_122 : decode cX5_init 122 = .ok (.newarray .int, 2) := by decide +kernel
theorem dX5_init_124 : decode cX5_init 124 = .ok (.putfield 63, 3) := by decide +kernel
theorem dX5_init_127 : decode cX5_init 127 = .ok (.aload_n 0, 1) := by decide +kernel
theorem dX5_init_128 : decode cX5_init 128 = .ok (.sipush 256, 3) := by decide +kernel
theorem dX5_init_131 : decode cX5_init 131 = .ok (.newarray .int, 2) := by decide +kernel
theorem dX5_init_133 : decode cX5_init 133 = .ok (.putfield 66, 3) := by decide +kernel
theorem dX5_init_136 : decode cX5_init 136 = .ok (.aload_n 0, 1) := by decide +kernel
theorem dX5_init_137 : decode cX5_init 137 = .ok (.bipush 41, 2) := by decide +kernel
theorem dX5_init_139 : decode cX5_init 139 = .ok (.newarray .int, 2) := by decide +kernel
theorem dX5_init_141 : decode cX5_init 141 = .ok (.putfield 69, 3) := by decide +kernel
theorem dX5_init_144 : decode cX5_init 144 = .ok (.aload_n 0, 1) := by decide +kernel
theorem dX5_init_145 : decode cX5_init 145 = .ok (.bipush 41, 2) := by decide +kernel
theorem dX5_init_147 : decode cX5_init 147 = .ok (.newarray .int, 2) := by decide +kernel
theorem dX5_init_149 : decode cX5_init 149 = .ok (.putfield 72, 3) := by decide +kernel
theorem dX5_init_152 : decode cX5_init 152 = .ok (.aload_n 0, 1) := by decide +kernel
theorem dX5_init_153 : decode cX5_init 153 = .ok (.bipush 41, 2) := by decide +kernel
theorem dX5_init_155 : decode cX5_init 155 = .ok (.newarray .int, 2) := by decide +kernel
theorem dX5_init_157 : decode cX5_init 157 = .ok (.putfield 75, 3) := by decide +kernel
theorem dX5_init_160 : decode cX5_init 160 = .ok (.return_, 1) := by decide +kernel
theorem dX5_row_0 : decode cX5_row 0 = .ok (.iload_n 1, 1) := by decide +kernel
theorem dX5_row_1 : decode cX5_row 1 = .ok (.invokestatic 78, 3) := by decide +kernel
theorem dX5_row_4 : decode cX5_row 4 = .ok (.ifCond .eq 22, 3) := by decide +kernel
theorem dX5_row_7 : decode cX5_row 7 = .ok (.iload_n 2, 1) := by decide +kernel
theorem dX5_row_8 : decode cX5_row 8 = .ok (.iconst 0, 1) := by decide +kernel
theorem dX5_row_9 : decode cX5_row 9 = .ok (.iconst 4, 1) := by decide +kernel
theorem dX5_row_10 : decode cX5_row 10 = .ok (.invokestatic 82, 3) := by decide +kernel
theorem dX5_row_13 : decode cX5_row 13 = .ok (.ifCond .eq 13, 3) := by decide +kernel
theorem dX5_row_16 : decode cX5_row 16 = .ok (.iload_n 3, 1) := by decide +kernel
theorem dX5_row_17 : decode cX5_row 17 = .ok (.iconst 0, 1) := by decide +kernel
theorem dX5_row_18 : decode cX5_row 18 = .ok (.bipush 40, 2) := by decide +kernel
theorem dX5_row_20 : decode cX5_row 20 = .ok (.invokestatic 82, 3) := by decide +kernel
theorem dX5_row_23 : decode cX5_row 23 = .ok (.ifCond .ne 10, 3) := by decide +kernel
theorem dX5_row_26 : decode cX5_row 26 = .ok (.aload_n 0, 1) := by decide +kernel
theorem dX5_row_27 : decode cX5_row 27 = .ok (.bipush (-2), 2) := by decide +kernel
theorem dX5_row_29 : decode cX5_row 29 = .ok (.invokevirtual 86, 3) := by decide +kernel
theorem dX5_row_32 : decode cX5_row 32 = .ok (.ireturn, 1) := by decide +kernel
theorem dX5_row_33 : decode cX5_row 33 = .ok (.aload_n 0, 1) := by decide +kernel
theorem dX5_row_34 : decode cX5_row 34 = .ok (.getfield 25, 3) := by decide +kernel
theorem dX5_row_37 : decode cX5_row 37 = .ok (.iload_n 1, 1) := by decide +kernel
theorem dX5_row_38 : decode cX5_row 38 = .ok (.iload_n 2, 1) := by decide +kernel
theorem dX5_row_39 : decode cX5_row 39 = .ok (.iload_n 3, 1) := by decide +kernel
theorem dX5_row_40 : decode cX5_row 40 = .ok (.invokevirtual 90, 3) := by decide +kernel
theorem dX5_row_43 : decode cX5_row 43 = .ok (.iconst 1, 1) := by decide +kernel
theorem dX5_row_44 : decode cX5_row 44 = .ok (.ireturn, 1) := by decide +kernel
theorem dX5_set_0 : decode cX5_set 0 = .ok (.iload_n 1, 1) := by decide +kernel
theorem dX5_set_1 : decode cX5_set 1 = .ok (.invokestatic 78, 3) := by decide +kernel
theorem dX5_set_4 : decode cX5_set 4 = .ok (.ifCond .ne 10, 3) := by decide +kernel
theorem dX5_set_7 : decode cX5_set 7 = .ok (.aload_n 0, 1) := by decide +kernel
theorem dX5_set_8 : decode cX5_set 8 = .ok (.bipush (-2), 2) := by decide +kernel
theorem dX5_set_10 : decode cX5_set 10 = .ok (.invokevirtual 86, 3) := by decide +kernel
theorem dX5_set_13 : decode cX5_set 13 = .ok (.ireturn, 1) := by decide +kernel
theorem dX5_set_14 : decode cX5_set 14 = .ok (.aload_n 0, 1) := by decide +kernel
theorem dX5_set_15 : decode cX5_set 15 = .ok (.getfield 25, 3) := by decide +kernel
theorem dX5_set_18 : decode cX5_set 18 = .ok (.iload_n 1, 1) := by decide +kernel
theorem dX5_set_19 : decode cX5_set 19 = .ok (.invokevirtual 94, 3) := by decide +kernel
theorem dX5_set_22 : decode cX5_set 22 = .ok (.ifCond .eq 10, 3) := by decide +kernel
theorem dX5_set_25 : decode cX5_set 25 = .ok (.aload_n 0, 1) := by decide +kernel
theorem dX5_set_26 : decode cX5_set 26 = .ok (.bipush (-3), 2) := by decide +kernel
theorem dX5_set_28 : decode cX5_set 28 = .ok (.invokevirtual 86, 3) := by decide +kernel
theorem dX5_set_31 : decode cX5_set 31 = .ok (.ireturn, 1) := by decide +kernel
theorem dX5_set_32 : decode cX5_set 32 = .ok (.aload_n 0, 1) := by decide +kernel
theorem dX5_set_33 : decode cX5_set 33 = .ok (.getfield 25, 3) := by decide +kernel
theorem dX5_set_36 : decode cX5_set 36 = .ok (.iload_n 1, 1) := by decide +kernel
theorem dX5_set_37 : decode cX5_set 37 = .ok (.invokevirtual 97, 3) := by decide +kernel
theorem dX5_set_40 : decode cX5_set 40 = .ok (.ifCond .eq 10, 3) := by decide +kernel
theorem dX5_set_43 : decode cX5_set 43 = .ok (.aload_n 0, 1) := by decide +kernel
theorem dX5_set_44 : decode cX5_set 44 = .ok (.bipush (-4), 2) := by decide +kernel
theorem dX5_set_46 : decode cX5_set 46 = .ok (.invokevirtual 86, 3) := by decide +kernel
theorem dX5_set_49 : decode cX5_set 49 = .ok (.ireturn, 1) := by decide +kernel
theorem dX5_set_50 : decode cX5_set 50 = .ok (.aload_n 0, 1) := by decide +kernel
theorem dX5_set_51 : decode cX5_set 51 = .ok (.getfield 25, 3) := by decide +kernel
theorem dX5_set_54 : decode cX5_set 54 = .ok (.iload_n 1, 1) := by decide +kernel
theorem dX5_set_55 : decode cX5_set 55 = .ok (.iload_n 2, 1) := by decide +kernel
theorem dX5_set_56 : decode cX5_set 56 = .ok (.iconst 1, 1) := by decide +kernel
theorem dX5_set_57 : decode cX5_set 57 = .ok (.invokevirtual 100, 3) := by decide +kernel
theorem dX5_set_60 : decode cX5_set 60 = .ok (.ifCond .ne 10, 3) := by decide +kernel
theorem dX5_set_63 : decode cX5_set 63 = .ok (.aload_n 0, 1) := by decide +kernel
theorem dX5_set_64 : decode cX5_set 64 = .ok (.bipush (-2), 2) := by decide +kernel
theorem dX5_set_66 : decode cX5_set 66 = .ok (.invokevirtual 86, 3) := by decide +kernel
theorem dX5_set_69 : decode cX5_set 69 = .ok (.ireturn, 1) := by decide +kernel
theorem dX5_set_70 : decode cX5_set 70 = .ok (.aload_n 0, 1) := by decide +kernel
theorem dX5_set_71 : decode cX5_set 71 = .ok (.getfield 25, 3) := by decide +kernel
theorem dX5_set_74 : decode cX5_set 74 = .ok (.iload_n 1, 1) := by decide +kernel
theorem dX5_set_75 : decode cX5_set 75 = .ok (.iload_n 2, 1) := by decide +kernel
theorem dX5_set_76 : decode cX5_set 76 = .ok (.lload_n 3, 1) := by decide +kernel
theorem dX5_set_77 : decode cX5_set 77 = .ok (.invokevirtual 103, 3) := by decide +kernel
theorem dX5_set_80 : decode cX5_set 80 = .ok (.iconst 1, 1) := by decide +kernel
theorem dX5_set_81 : decode cX5_set 81 = .ok (.ireturn, 1) := by decide +kernel
theorem dX5_copy_0 : decode cX5_copy 0 = .ok (.iload_n 1, 1) := by decide +kernel
theorem dX5_copy_1 : decode cX5_copy 1 = .ok (.invokestatic 78, 3) := by decide +kernel
theorem dX5_copy_4 : decode cX5_copy 4 = .ok (.ifCond .eq 10, 3) := by decide +kernel
theorem dX5_copy_7 : decode cX5_copy 7 = .ok (.iload_n 2, 1) := by decide +kernel
theorem dX5_copy_8 : decode cX5_copy 8 = .ok (.invokestatic 78, 3) := by decide +kernel
theorem dX5_copy_11 : decode cX5_copy 11 = .ok (.ifCond .ne 10, 3) := by decide +kernel
theorem dX5_copy_14 : decode cX5_copy 14 = .ok (.aload_n 0, 1) := by decide +kernel
theorem dX5_copy_15 : decode cX5_copy 15 = .ok (.bipush (-2), 2) := by decide +kernel
theorem dX5_copy_17 : decode cX5_copy 17 = .ok (.invokevirtual 86, 3) := by decide +kernel
theorem dX5_copy_20 : decode cX5_copy 20 = .ok (.ireturn, 1) := by decide +kernel
theorem dX5_copy_21 : decode cX5_copy 21 = .ok (.aload_n 0, 1) := by decide +kernel
theorem dX5_copy_22 : decode cX5_copy 22 = .ok (.getfield 25, 3) := by decide +kernel
theorem dX5_copy_25 : decode cX5_copy 25 = .ok (.iload_n 1, 1) := by decide +kernel
theorem dX5_copy_26 : decode cX5_copy 26 = .ok (.invokevirtual 94, 3) := by decide +kernel
theorem dX5_copy_29 : decode cX5_copy 29 = .ok (.ifCond .ne 26, 3) := by decide +kernel
theorem dX5_copy_32 : decode cX5_copy 32 = .ok (.aload_n 0, 1) := by decide +kernel
theorem dX5_copy_33 : decode cX5_copy 33 = .ok (.getfield 25, 3) := by decide +kernel
theorem dX5_copy_36 : decode cX5_copy 36 = .ok (.iload_n 2, 1) := by decide +kernel
theorem dX5_copy_37 : decode cX5_copy 37 = .ok (.invokevirtual 94, 3) := by decide +kernel
theorem dX5_copy_40 : decode cX5_copy 40 = .ok (.ifCond .ne 15, 3) := by decide +kernel
theorem dX5_copy_43 : decode cX5_copy 43 = .ok (.aload_n 0, 1) := by decide +kernel
theorem dX5_copy_44 : decode cX5_copy 44 = .ok (.getfield 25, 3) := by decide +kernel
theorem dX5_copy_47 : decode cX5_copy 47 = .ok (.iload_n 1, 1) := by decide +kernel
theorem dX5_copy_48 : decode cX5_copy 48 = .ok (.iload_n 2, 1) := by decide +kernel
theorem dX5_copy_49 : decode cX5_copy 49 = .ok (.invokevirtual 107, 3) := by decide +kernel
theorem dX5_copy_52 : decode cX5_copy 52 = .ok (.ifCond .eq 10, 3) := by decide +kernel
theorem dX5_copy_55 : decode cX5_copy 55 = .ok (.aload_n 0, 1) := by decide +kernel
theorem dX5_copy_56 : decode cX5_copy 56 = .ok (.bipush (-3), 2) := by decide +kernel
theorem dX5_copy_58 : decode cX5_copy 58 = .ok (.invokevirtual 86, 3) := by decide +kernel
theorem dX5_copy_61 : decode cX5_copy 61 = .ok (.ireturn, 1) := by decide +kernel
theorem dX5_copy_62 : decode cX5_copy 62 = .ok (.aload_n 0, 1) := by decide +kernel
theorem dX5_copy_63 : decode cX5_copy 63 = .ok (.getfield 25, 3) := by decide +kernel
theorem dX5_copy_66 : decode cX5_copy 66 = .ok (.iload_n 1, 1) := by decide +kernel
theorem dX5_copy_67 : decode cX5_copy 67 = .ok (.invokevirtual 97, 3) := by decide +kernel
theorem dX5_copy_70 : decode cX5_copy 70 = .ok (.ifCond .ne 14, 3) := by decide +kernel
theorem dX5_copy_73 : decode cX5_copy 73 = .ok (.aload_n 0, 1) := by decide +kernel
theorem dX5_copy_74 : decode cX5_copy 74 = .ok (.getfield 25, 3) := by decide +kernel
theorem dX5_copy_77 : decode cX5_copy 77 = .ok (.iload_n 2, 1) := by decide +kernel
theorem dX5_copy_78 : decode cX5_copy 78 = .ok (.invokevirtual 97, 3) := by decide +kernel
theorem dX5_copy_81 : decode cX5_copy 81 = .ok (.ifCond .eq 10, 3) := by decide +kernel
theorem dX5_copy_84 : decode cX5_copy 84 = .ok (.aload_n 0, 1) := by decide +kernel
theorem dX5_copy_85 : decode cX5_copy 85 = .ok (.bipush (-4), 2) := by decide +kernel
theorem dX5_copy_87 : decode cX5_copy 87 = .ok (.invokevirtual 86, 3) := by decide +kernel
theorem dX5_copy_90 : decode cX5_copy 90 = .ok (.ireturn, 1) := by decide +kernel
theorem dX5_copy_91 : decode cX5_copy 91 = .ok (.aload_n 0, 1) := by decide +kernel
theorem dX5_copy_92 : decode cX5_copy 92 = .ok (.getfield 25, 3) := by decide +kernel
theorem dX5_copy_95 : decode cX5_copy 95 = .ok (.iload_n 1, 1) := by decide +kernel
theorem dX5_copy_96 : decode cX5_copy 96 = .ok (.iload_n 3, 1) := by decide +kernel
theorem dX5_copy_97 : decode cX5_copy 97 = .ok (.iload 5, 2) := by decide +kernel
theorem dX5_copy_99 : decode cX5_copy 99 = .ok (.invokevirtual 100, 3) := by decide +kernel
theorem dX5_copy_102 : decode cX5_copy 102 = .ok (.ifCond .eq 18, 3) := by decide +kernel
theorem dX5_copy_105 : decode cX5_copy 105 = .ok (.aload_n 0, 1) := by decide +kernel
theorem dX5_copy_106 : decode cX5_copy 106 = .ok (.getfield 25, 3) := by decide +kernel
theorem dX5_copy_109 : decode cX5_copy 109 = .ok (.iload_n 2, 1) := by decide +kernel
theorem dX5_copy_110 : decode cX5_copy 110 = .ok (.iload 4, 2) := by decide +kernel
theorem dX5_copy_112 : decode cX5_copy 112 = .ok (.iload 5, 2) := by decide +kernel
theorem dX5_copy_114 : decode cX5_copy 114 = .ok (.invokevirtual 100, 3) := by decide +kernel
theorem dX5_copy_117 : decode cX5_copy 117 = .ok (.ifCond .ne 10, 3) := by decide +kernel
theorem dX5_copy_120 : decode cX5_copy 120 = .ok (.aload_n 0, 1) := by decide +kernel
theorem dX5_copy_121 : decode cX5_copy 121 = .ok (.bipush (-2), 2) := by decide +kernel
theorem dX5_copy_123 : decode cX5_copy 123 = .ok (.invokevirtual 86, 3) := by decide +kernel
theorem dX5_copy_126 : decode cX5_copy 126 = .ok (.ireturn, 1) := by decide +kernel
theorem dX5_copy_127 : decode cX5_copy 127 = .ok (.aload_n 0, 1) := by decide +kernel
theorem dX5_copy_128 : decode cX5_copy 128 = .ok (.getfield 25, 3) := by decide +kernel
theorem dX5_copy_131 : decode cX5_copy 131 = .ok (.iload_n 1, 1) := by decide +kernel
theorem dX5_copy_132 : decode cX5_copy 132 = .ok (.iload_n 2, 1) := by decide +kernel
theorem dX5_copy_133 : decode cX5_copy 133 = .ok (.iload_n 3, 1) := by decide +kernel
theorem dX5_copy_134 : decode cX5_copy 134 = .ok (.iload 4, 2) := by decide +kernel
theorem dX5_copy_136 : decode cX5_copy 136 = .ok (.iload 5, 2) := by decide +kernel
theorem dX5_copy_138 : decode cX5_copy 138 = .ok (.invokevirtual 111, 3) := by decide +kernel
theorem dX5_copy_141 : decode cX5_copy 141 = .ok (.iload 5, 2) := by decide +kernel
theorem dX5_copy_143 : decode cX5_copy 143 = .ok (.ireturn, 1) := by decide +kernel
theorem dX5_element_0 : decode cX5_element 0 = .ok (.aload_n 0, 1) := by decide +kernel
theorem dX5_element_1 : decode cX5_element 1 = .ok (.getfield 25, 3) := by decide +kernel
theorem dX5_element_4 : decode cX5_element 4 = .ok (.iload_n 1, 1) := by decide +kernel
theorem dX5_element_5 : decode cX5_element 5 = .ok (.iload_n 2, 1) := by decide +kernel
theorem dX5_element_6 : decode cX5_element 6 = .ok (.invokevirtual 115, 3) := by decide +kernel
theorem dX5_element_9 : decode cX5_element 9 = .ok (.lreturn, 1) := by decide +kernel
theorem dX5_holds_0 : decode cX5_holds 0 = .ok (.aload_n 0, 1) := by decide +kernel
theorem dX5_holds_1 : decode cX5_holds 1 = .ok (.getfield 25, 3) := by decide +kernel
theorem dX5_holds_4 : decode cX5_holds 4 = .ok (.iload_n 1, 1) := by decide +kernel
theorem dX5_holds_5 : decode cX5_holds 5 = .ok (.invokevirtual 119, 3) := by decide +kernel
theorem dX5_holds_8 : decode cX5_holds 8 = .ok (.ireturn, 1) := by decide +kernel
theorem dX5_show_0 : decode cX5_show 0 = .ok (.iload_n 1, 1) := by decide +kernel
theorem dX5_show_1 : decode cX5_show 1 = .ok (.invokestatic 78, 3) := by decide +kernel
theorem dX5_show_4 : decode cX5_show 4 = .ok (.ifCond .eq 16, 3) := by decide +kernel
theorem dX5_show_7 : decode cX5_show 7 = .ok (.iload_n 2, 1) := by decide +kernel
theorem dX5_show_8 : decode cX5_show 8 = .ok (.iconst (-1), 1) := by decide +kernel
theorem dX5_show_9 : decode cX5_show 9 = .ok (.if_icmp .eq 18, 3) := by decide +kernel
theorem dX5_show_12 : decode cX5_show 12 = .ok (.aload_n 0, 1) := by decide +kernel
theorem dX5_show_13 : decode cX5_show 13 = .ok (.iload_n 2, 1) := by decide +kernel
theorem dX5_show_14 : decode cX5_show 14 = .ok (.invokevirtual 122, 3) := by decide +kernel
theorem dX5_show_17 : decode cX5_show 17 = .ok (.ifCond .ne 10, 3) := by decide +kernel
theorem dX5_show_20 : decode cX5_show 20 = .ok (.aload_n 0, 1) := by decide +kernel
theorem dX5_show_21 : decode cX5_show 21 = .ok (.bipush (-2), 2) := by decide +kernel
theorem dX5_show_23 : decode cX5_show 23 = .ok (.invokevirtual 86, 3) := by decide +kernel
theorem dX5_show_26 : decode cX5_show 26 = .ok (.ireturn, 1) := by decide +kernel
theorem dX5_show_27 : decode cX5_show 27 = .ok (.aload_n 0, 1) := by decide +kernel
theorem dX5_show_28 : decode cX5_show 28 = .ok (.getfield 25, 3) := by decide +kernel
theorem dX5_show_31 : decode cX5_show 31 = .ok (.iload_n 1, 1) := by decide +kernel
theorem dX5_show_32 : decode cX5_show 32 = .ok (.iload_n 2, 1) := by decide +kernel
theorem dX5_show_33 : decode cX5_show 33 = .ok (.invokevirtual 125, 3) := by decide +kernel
theorem dX5_show_36 : decode cX5_show 36 = .ok (.iconst 1, 1) := by decide +kernel
theorem dX5_show_37 : decode cX5_show 37 = .ok (.ireturn, 1) := by decide +kernel
theorem dX5_says_0 : decode cX5_says 0 = .ok (.iload_n 1, 1) := by decide +kernel
theorem dX5_says_1 : decode cX5_says 1 = .ok (.invokestatic 78, 3) := by decide +kernel
theorem dX5_says_4 : decode cX5_says 4 = .ok (.ifCond .eq 10, 3) := by decide +kernel
theorem dX5_says_7 : decode cX5_says 7 = .ok (.iload_n 2, 1) := by decide +kernel
theorem dX5_says_8 : decode cX5_says 8 = .ok (.invokestatic 129, 3) := by decide +kernel
theorem dX5_says_11 : decode cX5_says 11 = .ok (.ifCond .ne 10, 3) := by decide +kernel
theorem dX5_says_14 : decode cX5_says 14 = .ok (.aload_n 0, 1) := by decide +kernel
theorem dX5_says_15 : decode cX5_says 15 = .ok (.bipush (-2), 2) := by decide +kernel
theorem dX5_says_17 : decode cX5_says 17 = .ok (.invokevirtual 86, 3) := by decide +kernel
theorem dX5_says_20 : decode cX5_says 20 = .ok (.ireturn, 1) := by decide +kernel
theorem dX5_says_21 : decode cX5_says 21 = .ok (.aload_n 0, 1) := by decide +kernel
theorem dX5_says_22 : decode cX5_says 22 = .ok (.getfield 25, 3) := by decide +kernel
theorem dX5_says_25 : decode cX5_says 25 = .ok (.iload_n 1, 1) := by decide +kernel
theorem dX5_says_26 : decode cX5_says 26 = .ok (.invokevirtual 97, 3) := by decide +kernel
theorem dX5_says_29 : decode cX5_says 29 = .ok (.ifCond .eq 10, 3) := by decide +kernel
theorem dX5_says_32 : decode cX5_says 32 = .ok (.aload_n 0, 1) := by decide +kernel
theorem dX5_says_33 : decode cX5_says 33 = .ok (.bipush (-4), 2) := by decide +kernel
theorem dX5_says_35 : decode cX5_says 35 = .ok (.invokevirtual 86, 3) := by decide +kernel
theorem dX5_says_38 : decode cX5_says 38 = .ok (.ireturn, 1) := by decide +kernel
theorem dX5_says_39 : decode cX5_says 39 = .ok (.aload_n 0, 1) := by decide +kernel
theorem dX5_says_40 : decode cX5_says 40 = .ok (.getfield 25, 3) := by decide +kernel
theorem dX5_says_43 : decode cX5_says 43 = .ok (.iload_n 1, 1) := by decide +kernel
theorem dX5_says_44 : decode cX5_says 44 = .ok (.invokevirtual 119, 3) := by decide +kernel
theorem dX5_says_47 : decode cX5_says 47 = .ok (.bipush 10, 2) := by decide +kernel
theorem dX5_says_49 : decode cX5_says 49 = .ok (.isub, 1) := by decide +kernel
theorem dX5_says_50 : decode cX5_says 50 = .ok (.istore_n 3, 1) := by decide +kernel
theorem dX5_says_51 : decode cX5_says 51 = .ok (.aload_n 0, 1) := by decide +kernel
theorem dX5_says_52 : decode cX5_says 52 = .ok (.iload_n 3, 1) := by decide +kernel
theorem dX5_says_53 : decode cX5_says 53 = .ok (.invokevirtual 122, 3) := by decide +kernel
theorem dX5_says_56 : decode cX5_says 56 = .ok (.ifCond .eq 18, 3) := by decide +kernel
theorem dX5_says_59 : decode cX5_says 59 = .ok (.aload_n 0, 1) := by decide +kernel
theorem dX5_says_60 : decode cX5_says 60 = .ok (.getfield 12, 3) := by decide +kernel
theorem dX5_says_63 : decode cX5_says 63 = .ok (.iload_n 3, 1) := by decide +kernel
theorem dX5_says_64 : decode cX5_says 64 = .ok (.invokevirtual 132, 3) := by decide +kernel
theorem dX5_says_67 : decode cX5_says 67 = .ok (.iload_n 2, 1) := by decide +kernel
theorem dX5_says_68 : decode cX5_says 68 = .ok (.invokestatic 135, 3) := by decide +kernel
theorem dX5_says_71 : decode cX5_says 71 = .ok (.ifCond .ne 10, 3) := by decide +kernel
theorem dX5_says_74 : decode cX5_says 74 = .ok (.aload_n 0, 1) := by decide +kernel
theorem dX5_says_75 : decode cX5_says 75 = .ok (.bipush (-3), 2) := by decide +kernel
theorem dX5_says_77 : decode cX5_says 77 = .ok (.invokevirtual 86, 3) := by decide +kernel
theorem dX5_says_80 : decode cX5_says 80 = .ok (.ireturn, 1) := by decide +kernel
theorem dX5_says_81 : decode cX5_says 81 = .ok (.iload_n 2, 1) := by decide +kernel
theorem dX5_says_82 : decode cX5_says 82 = .ok (.ifCond .ne 12, 3) := by decide +kernel
theorem dX5_says_85 : decode cX5_says 85 = .ok (.aload_n 0, 1) := by decide +kernel
theorem dX5_says_86 : decode cX5_says 86 = .ok (.getfield 12, 3) := by decide +kernel
theorem dX5_says_89 : decode cX5_says 89 = .ok (.iload_n 3, 1) := by decide +kernel
theorem dX5_says_90 : decode cX5_says 90 = .ok (.invokevirtual 138, 3) := by decide +kernel
theorem dX5_says_93 : decode cX5_says 93 = .ok (.ireturn, 1) := by decide +kernel
theorem dX5_says_94 : decode cX5_says 94 = .ok (.aload_n 0, 1) := by decide +kernel
theorem dX5_says_95 : decode cX5_says 95 = .ok (.getfield 57, 3) := by decide +kernel
theorem dX5_says_98 : decode cX5_says 98 = .ok (.invokevirtual 141, 3) := by decide +kernel
theorem dX5_says_101 : decode cX5_says 101 = .ok (.iconst 0, 1) := by decide +kernel
theorem dX5_says_102 : decode cX5_says 102 = .ok (.istore 4, 2) := by decide +kernel
theorem dX5_says_104 : decode cX5_says 104 = .ok (.iload 4, 2) := by decide +kernel
theorem dX5_says_106 : decode cX5_says 106 = .ok (.bipush 12, 2) := by decide +kernel
theorem dX5_says_108 : decode cX5_says 108 = .ok (.if_icmp .ge 18, 3) := by decide +kernel
theorem dX5_says_111 : decode cX5_says 111 = .ok (.aload_n 0, 1) := by decide +kernel
theorem dX5_says_112 : decode cX5_says 112 = .ok (.getfield 57, 3) := by decide +kernel
theorem dX5_says_115 : decode cX5_says 115 = .ok (.iload 4, 2) := by decide +kernel
theorem dX5_says_117 : decode cX5_says 117 = .ok (.invokevirtual 144, 3) := by decide +kernel
theorem dX5_says_120 : decode cX5_says 120 = .ok (.iinc 4 1, 3) := by decide +kernel
theorem dX5_says_123 : decode cX5_says 123 = .ok (.goto (-19), 3) := by decide +kernel
theorem dX5_says_126 : decode cX5_says 126 = .ok (.aload_n 0, 1) := by decide +kernel
theorem dX5_says_127 : decode cX5_says 127 = .ok (.getfield 43, 3) := by decide +kernel
theorem dX5_says_130 : decode cX5_says 130 = .ok (.aload_n 0, 1) := by decide +kernel
theorem dX5_says_131 : decode cX5_says 131 = .ok (.getfield 12, 3) := by decide +kernel
theorem dX5_says_134 : decode cX5_says 134 = .ok (.iload_n 3, 1) := by decide +kernel
theorem dX5_says_135 : decode cX5_says 135 = .ok (.invokevirtual 148, 3) := by decide +kernel
theorem dX5_says_138 : decode cX5_says 138 = .ok (.aload_n 0, 1) := by decide +kernel
theorem dX5_says_139 : decode cX5_says 139 = .ok (.getfield 43, 3) := by decide +kernel
theorem dX5_says_142 : decode cX5_says 142 = .ok (.aload_n 0, 1) := by decide +kernel
theorem dX5_says_143 : decode cX5_says 143 = .ok (.getfield 57, 3) := by decide +kernel
theorem dX5_says_146 : decode cX5_says 146 = .ok (.invokevirtual 152, 3) := by decide +kernel
theorem dX5_says_149 : decode cX5_says 149 = .ok (.aload_n 0, 1) := by decide +kernel
theorem dX5_says_150 : decode cX5_says 150 = .ok (.getfield 43, 3) := by decide +kernel
theorem dX5_says_153 : decode cX5_says 153 = .ok (.invokevirtual 156, 3) := by decide +kernel
theorem dX5_says_156 : decode cX5_says 156 = .ok (.ireturn, 1) := by decide +kernel
theorem dX5_voice_0 : decode cX5_voice 0 = .ok (.iload_n 1, 1) := by decide +kernel
theorem dX5_voice_1 : decode cX5_voice 1 = .ok (.invokestatic 129, 3) := by decide +kernel
theorem dX5_voice_4 : decode cX5_voice 4 = .ok (.ifCond .eq 23, 3) := by decide +kernel
theorem dX5_voice_7 : decode cX5_voice 7 = .ok (.iload_n 2, 1) := by decide +kernel
theorem dX5_voice_8 : decode cX5_voice 8 = .ok (.iconst 0, 1) := by decide +kernel
theorem dX5_voice_9 : decode cX5_voice 9 = .ok (.bipush 9, 2) := by decide +kernel
theorem dX5_voice_11 : decode cX5_voice 11 = .ok (.invokestatic 82, 3) := by decide +kernel
theorem dX5_voice_14 : decode cX5_voice 14 = .ok (.ifCond .eq 13, 3) := by decide +kernel
theorem dX5_voice_17 : decode cX5_voice 17 = .ok (.iload_n 3, 1) := by decide +kernel
theorem dX5_voice_18 : decode cX5_voice 18 = .ok (.iconst 0, 1) := by decide +kernel
theorem dX5_voice_19 : decode cX5_voice 19 = .ok (.bipush 20, 2) := by decide +kernel
theorem dX5_voice_21 : decode cX5_voice 21 = .ok (.invokestatic 82, 3) := by decide +kernel
theorem dX5_voice_24 : decode cX5_voice 24 = .ok (.ifCond .ne 10, 3) := by decide +kernel
theorem dX5_voice_27 : decode cX5_voice 27 = .ok (.aload_n 0, 1) := by decide +kernel
theorem dX5_voice_28 : decode cX5_voice 28 = .ok (.bipush (-2), 2) := by decide +kernel
theorem dX5_voice_30 : decode cX5_voice 30 = .ok (.invokevirtual 86, 3) := by decide +kernel
theorem dX5_voice_33 : decode cX5_voice 33 = .ok (.ireturn, 1) := by decide +kernel
theorem dX5_voice_34 : decode cX5_voice 34 = .ok (.aload_n 0, 1) := by decide +kernel
theorem dX5_voice_35 : decode cX5_voice 35 = .ok (.getfield 12, 3) := by decide +kernel
theorem dX5_voice_38 : decode cX5_voice 38 = .ok (.invokevirtual 160, 3) := by decide +kernel
theorem dX5_voice_41 : decode cX5_voice 41 = .ok (.ifCond .ne 10, 3) := by decide +kernel
theorem dX5_voice_44 : decode cX5_voice 44 = .ok (.aload_n 0, 1) := by decide +kernel
theorem dX5_voice_45 : decode cX5_voice 45 = .ok (.bipush (-6), 2) := by decide +kernel
theorem dX5_voice_47 : decode cX5_voice 47 = .ok (.invokevirtual 86, 3) := by decide +kernel
theorem dX5_voice_50 : decode cX5_voice 50 = .ok (.ireturn, 1) := by decide +kernel
theorem dX5_voice_51 : decode cX5_voice 51 = .ok (.aload_n 0, 1) := by decide +kernel
theorem dX5_voice_52 : decode cX5_voice 52 = .ok (.getfield 12, 3) := by decide +kernel
theorem dX5_voice_55 : decode cX5_voice 55 = .ok (.iload_n 1, 1) := by decide +kernel
theorem dX5_voice_56 : decode cX5_voice 56 = .ok (.iload_n 2, 1) := by decide +kernel
theorem dX5_voice_57 : decode cX5_voice 57 = .ok (.iload_n 3, 1) := by decide +kernel
theorem dX5_voice_58 : decode cX5_voice 58 = .ok (.invokevirtual 164, 3) := by decide +kernel
theorem dX5_voice_61 : decode cX5_voice 61 = .ok (.aload_n 0, 1) := by decide +kernel
theorem dX5_voice_62 : decode cX5_voice 62 = .ok (.getfield 12, 3) := by decide +kernel
theorem dX5_voice_65 : decode cX5_voice 65 = .ok (.getfield 167, 3) := by decide +kernel
theorem dX5_voice_68 : decode cX5_voice 68 = .ok (.iconst 1, 1) := by decide +kernel
theorem dX5_voice_69 : decode cX5_voice 69 = .ok (.isub, 1) := by decide +kernel
theorem dX5_voice_70 : decode cX5_voice 70 = .ok (.ireturn, 1) := by decide +kernel
theorem dX5_pitch_0 : decode cX5_pitch 0 = .ok (.aload_n 0, 1) := by decide +kernel
theorem dX5_pitch_1 : decode cX5_pitch 1 = .ok (.iload_n 1, 1) := by decide +kernel
theorem dX5_pitch_2 : decode cX5_pitch 2 = .ok (.invokevirtual 122, 3) := by decide +kernel
theorem dX5_pitch_5 : decode cX5_pitch 5 = .ok (.ifCond .eq 13, 3) := by decide +kernel
theorem dX5_pitch_8 : decode cX5_pitch 8 = .ok (.iload_n 2, 1) := by decide +kernel
theorem dX5_pitch_9 : decode cX5_pitch 9 = .ok (.iconst 0, 1) := by decide +kernel
theorem dX5_pitch_10 : decode cX5_pitch 10 = .ok (.bipush 20, 2) := by decide +kernel
theorem dX5_pitch_12 : decode cX5_pitch 12 = .ok (.invokestatic 82, 3) := by decide +kernel
theorem dX5_pitch_15 : decode cX5_pitch 15 = .ok (.ifCond .ne 10, 3) := by decide +kernel
theorem dX5_pitch_18 : decode cX5_pitch 18 = .ok (.aload_n 0, 1) := by decide +kernel
theorem dX5_pitch_19 : decode cX5_pitch 19 = .ok (.bipush (-2), 2) := by decide +kernel
theorem dX5_pitch_21 : decode cX5_pitch 21 = .ok (.invokevirtual 86, 3) := by decide +kernel
theorem dX5_pitch_24 : decode cX5_pitch 24 = .ok (.ireturn, 1) := by decide +kernel
theorem dX5_pitch_25 : decode cX5_pitch 25 = .ok (.aload_n 0, 1) := by decide +kernel
theorem dX5_pitch_26 : decode cX5_pitch 26 = .ok (.getfield 12, 3) := by decide +kernel
theorem dX5_pitch_29 : decode cX5_pitch 29 = .ok (.iload_n 1, 1) := by decide +kernel
theorem dX5_pitch_30 : decode cX5_pitch 30 = .ok (.invokevirtual 138, 3) := by decide +kernel
theorem dX5_pitch_33 : decode cX5_pitch 33 = .ok (.istore_n 3, 1) := by decide +kernel
theorem dX5_pitch_34 : decode cX5_pitch 34 = .ok (.aload_n 0, 1) := by decide +kernel
theorem dX5_pitch_35 : decode cX5_pitch 35 = .ok (.getfield 12, 3) := by decide +kernel
theorem dX5_pitch_38 : decode cX5_pitch 38 = .ok (.iload_n 1, 1) := by decide +kernel
theorem dX5_pitch_39 : decode cX5_pitch 39 = .ok (.iload_n 2, 1) := by decide +kernel
theorem dX5_pitch_40 : decode cX5_pitch 40 = .ok (.invokevirtual 171, 3) := by decide +kernel
theorem dX5_pitch_43 : decode cX5_pitch 43 = .ok (.iload_n 3, 1) := by decide +kernel
theorem dX5_pitch_44 : decode cX5_pitch 44 = .ok (.ireturn, 1) := by decide +kernel
theorem dX5_tell_0 : decode cX5_tell 0 = .ok (.iload_n 1, 1) := by decide +kernel
theorem dX5_tell_1 : decode cX5_tell 1 = .ok (.ifCond .ne 32, 3) := by decide +kernel
theorem dX5_tell_4 : decode cX5_tell 4 = .ok (.iload_n 2, 1) := by decide +kernel
theorem dX5_tell_5 : decode cX5_tell 5 = .ok (.iconst 0, 1) := by decide +kernel
theorem dX5_tell_6 : decode cX5_tell 6 = .ok (.bipush 40, 2) := by decide +kernel
theorem dX5_tell_8 : decode cX5_tell 8 = .ok (.invokestatic 82, 3) := by decide +kernel
theorem dX5_tell_11 : decode cX5_tell 11 = .ok (.ifCond .eq 22, 3) := by decide +kernel
theorem dX5_tell_14 : decode cX5_tell 14 = .ok (.aload_n 0, 1) := by decide +kernel
theorem dX5_tell_15 : decode cX5_tell 15 = .ok (.getfield 12, 3) := by decide +kernel
theorem dX5_tell_18 : decode cX5_tell 18 = .ok (.getfield 174, 3) := by decide +kernel
theorem dX5_tell_21 : decode cX5_tell 21 = .ok (.istore_n 3, 1) := by decide +kernel
theorem dX5_tell_22 : decode cX5_tell 22 = .ok (.aload_n 0, 1) := by decide +kernel
theorem dX5_tell_23 : decode cX5_tell 23 = .ok (.getfield 12, 3) := by decide +kernel
theorem dX5_tell_26 : decode cX5_tell 26 = .ok (.iload_n 2, 1) := by decide +kernel
theorem dX5_tell_27 : decode cX5_tell 27 = .ok (.putfield 174, 3) := by decide +kernel
theorem dX5_tell_30 : decode cX5_tell 30 = .ok (.goto 79, 3) := by decide +kernel
theorem dX5_tell_33 : decode cX5_tell 33 = .ok (.iload_n 1, 1) := by decide +kernel
theorem dX5_tell_34 : decode cX5_tell 34 = .ok (.iconst 1, 1) := by decide +kernel
theorem dX5_tell_35 : decode cX5_tell 35 = .ok (.if_icmp .ne 32, 3) := by decide +kernel
theorem dX5_tell_38 : decode cX5_tell 38 = .ok (.iload_n 2, 1) := by decide +kernel
theorem dX5_tell_39 : decode cX5_tell 39 = .ok (.iconst 0, 1) := by decide +kernel
theorem dX5_tell_40 : decode cX5_tell 40 = .ok (.bipush 9, 2) := by decide +kernel
theorem dX5_tell_42 : decode cX5_tell 42 = .ok (.invokestatic 82, 3) := by decide +kernel
theorem dX5_tell_45 : decode cX5_tell 45 = .ok (.ifCond .eq 22, 3) := by decide +kernel
theorem dX5_tell_48 : decode cX5_tell 48 = .ok (.aload_n 0, 1) := by decide +kernel
theorem dX5_tell_49 : decode cX5_tell 49 = .ok (.getfield 12, 3) := by decide +kernel
theorem dX5_tell_52 : decode cX5_tell 52 = .ok (.getfield 177, 3) := by decide +kernel
theorem dX5_tell_55 : decode cX5_tell 55 = .ok (.istore_n 3, 1) := by decide +kernel
theorem dX5_tell_56 : decode cX5_tell 56 = .ok (.aload_n 0, 1) := by decide +kernel
theorem dX5_tell_57 : decode cX5_tell 57 = .ok (.getfield 12, 3) := by decide +kernel
theorem dX5_tell_60 : decode cX5_tell 60 = .ok (.iload_n 2, 1) := by decide +kernel
theorem dX5_tell_61 : decode cX5_tell 61 = .ok (.putfield 177, 3) := by decide +kernel
theorem dX5_tell_64 : decode cX5_tell 64 = .ok (.goto 45, 3) := by decide +kernel
theorem dX5_tell_67 : decode cX5_tell 67 = .ok (.iload_n 1, 1) := by decide +kernel
theorem dX5_tell_68 : decode cX5_tell 68 = .ok (.iconst 2, 1) := by decide +kernel
theorem dX5_tell_69 : decode cX5_tell 69 = .ok (.if_icmp .ne 33, 3) := by decide +kernel
theorem dX5_tell_72 : decode cX5_tell 72 = .ok (.iload_n 2, 1) := by decide +kernel
theorem dX5_tell_73 : decode cX5_tell 73 = .ok (.iconst 0, 1) := by decide +kernel
theorem dX5_tell_74 : decode cX5_tell 74 = .ok (.sipush 9999, 3) := by decide +kernel
theorem dX5_tell_77 : decode cX5_tell 77 = .ok (.invokestatic 82, 3) := by decide +kernel
theorem dX5_tell_80 : decode cX5_tell 80 = .ok (.ifCond .eq 22, 3) := by decide +kernel
theorem dX5_tell_83 : decode cX5_tell 83 = .ok (.aload_n 0, 1) := by decide +kernel
theorem dX5_tell_84 : decode cX5_tell 84 = .ok (.getfield 12, 3) := by decide +kernel
theorem dX5_tell_87 : decode cX5_tell 87 = .ok (.getfield 180, 3) := by decide +kernel
theorem dX5_tell_90 : decode cX5_tell 90 = .ok (.istore_n 3, 1) := by decide +kernel
theorem dX5_tell_91 : decode cX5_tell 91 = .ok (.aload_n 0, 1) := by decide +kernel
theorem dX5_tell_92 : decode cX5_tell 92 = .ok (.getfield 12, 3) := by decide +kernel
theorem dX5_tell_95 : decode cX5_tell 95 = .ok (.iload_n 2, 1) := by decide +kernel
theorem dX5_tell_96 : decode cX5_tell 96 = .ok (.putfield 180, 3) := by decide +kernel
theorem dX5_tell_99 : decode cX5_tell 99 = .ok (.goto 10, 3) := by decide +kernel
theorem dX5_tell_102 : decode cX5_tell 102 = .ok (.aload_n 0, 1) := by decide +kernel
theorem dX5_tell_103 : decode cX5_tell 103 = .ok (.bipush (-2), 2) := by decide +kernel
theorem dX5_tell_105 : decode cX5_tell 105 = .ok (.invokevirtual 86, 3) := by decide +kernel
theorem dX5_tell_108 : decode cX5_tell 108 = .ok (.ireturn, 1) := by decide +kernel
theorem dX5_tell_109 : decode cX5_tell 109 = .ok (.iload_n 3, 1) := by decide +kernel
theorem dX5_tell_110 : decode cX5_tell 110 = .ok (.ireturn, 1) := by decide +kernel
theorem dX5_weigh_0 : decode cX5_weigh 0 = .ok (.iload_n 1, 1) := by decide +kernel
theorem dX5_weigh_1 : decode cX5_weigh 1 = .ok (.iconst 2, 1) := by decide +kernel
theorem dX5_weigh_2 : decode cX5_weigh 2 = .ok (.bipush 9, 2) := by decide +kernel
theorem dX5_weigh_4 : decode cX5_weigh 4 = .ok (.invokestatic 82, 3) := by decide +kernel
theorem dX5_weigh_7 : decode cX5_weigh 7 = .ok (.ifCond .eq 14, 3) := by decide +kernel
theorem dX5_weigh_10 : decode cX5_weigh 10 = .ok (.iload_n 2, 1) := by decide +kernel
theorem dX5_weigh_11 : decode cX5_weigh 11 = .ok (.iconst 0, 1) := by decide +kernel
theorem dX5_weigh_12 : decode cX5_weigh 12 = .ok (.iload_n 1, 1) := by decide +kernel
theorem dX5_weigh_13 : decode cX5_weigh 13 = .ok (.iconst 1, 1) := by decide +kernel
theorem dX5_weigh_14 : decode cX5_weigh 14 = .ok (.isub, 1) := by decide +kernel
theorem dX5_weigh_15 : decode cX5_weigh 15 = .ok (.invokestatic 82, 3) := by decide +kernel
theorem dX5_weigh_18 : decode cX5_weigh 18 = .ok (.ifCond .ne 10, 3) := by decide +kernel
theorem dX5_weigh_21 : decode cX5_weigh 21 = .ok (.aload_n 0, 1) := by decide +kernel
theorem dX5_weigh_22 : decode cX5_weigh 22 = .ok (.bipush (-2), 2) := by decide +kernel
theorem dX5_weigh_24 : decode cX5_weigh 24 = .ok (.invokevirtual 86, 3) := by decide +kernel
theorem dX5_weigh_27 : decode cX5_weigh 27 = .ok (.ireturn, 1) := by decide +kernel
theorem dX5_weigh_28 : decode cX5_weigh 28 = .ok (.bipush 10, 2) := by decide +kernel
theorem dX5_weigh_30 : decode cX5_weigh 30 = .ok (.aload_n 0, 1) := by decide +kernel
theorem dX5_weigh_31 : decode cX5_weigh 31 = .ok (.getfield 12, 3) := by decide +kernel
theorem dX5_weigh_34 : decode cX5_weigh 34 = .ok (.getfield 183, 3) := by decide +kernel
theorem dX5_weigh_37 : decode cX5_weigh 37 = .ok (.imul, 1) := by decide +kernel
theorem dX5_weigh_38 : decode cX5_weigh 38 = .ok (.aload_n 0, 1) := by decide +kernel
theorem dX5_weigh_39 : decode cX5_weigh 39 = .ok (.getfield 12, 3) := by decide +kernel
theorem dX5_weigh_42 : decode cX5_weigh 42 = .ok (.getfield 186, 3) := by decide +kernel
theorem dX5_weigh_45 : decode cX5_weigh 45 = .ok (.iadd, 1) := by decide +kernel
theorem dX5_weigh_46 : decode cX5_weigh 46 = .ok (.istore_n 3, 1) := by decide +kernel
theorem dX5_weigh_47 : decode cX5_weigh 47 = .ok (.aload_n 0, 1) := by decide +kernel
theorem dX5_weigh_48 : decode cX5_weigh 48 = .ok (.getfield 12, 3) := by decide +kernel
theorem dX5_weigh_51 : decode cX5_weigh 51 = .ok (.iload_n 1, 1) := by decide +kernel
theorem dX5_weigh_52 : decode cX5_weigh 52 = .ok (.putfield 183, 3) := by decide +kernel
theorem dX5_weigh_55 : decode cX5_weigh 55 = .ok (.aload_n 0, 1) := by decide +kernel
theorem dX5_weigh_56 : decode cX5_weigh 56 = .ok (.getfield 12, 3) := by decide +kernel
theorem dX5_weigh_59 : decode cX5_weigh 59 = .ok (.iload_n 2, 1) := by decide +kernel
theorem dX5_weigh_60 : decode cX5_weigh 60 = .ok (.putfield 186, 3) := by decide +kernel
theorem dX5_weigh_63 : decode cX5_weigh 63 = .ok (.iload_n 3, 1) := by decide +kernel
theorem dX5_weigh_64 : decode cX5_weigh 64 = .ok (.ireturn, 1) := by decide +kernel
theorem dX5_feed_0 : decode cX5_feed 0 = .ok (.iload_n 1, 1) := by decide +kernel
theorem dX5_feed_1 : decode cX5_feed 1 = .ok (.iconst 0, 1) := by decide +kernel
theorem dX5_feed_2 : decode cX5_feed 2 = .ok (.sipush 255, 3) := by decide +kernel
theorem dX5_feed_5 : decode cX5_feed 5 = .ok (.invokestatic 82, 3) := by decide +kernel
theorem dX5_feed_8 : decode cX5_feed 8 = .ok (.ifCond .ne 10, 3) := by decide +kernel
theorem dX5_feed_11 : decode cX5_feed 11 = .ok (.aload_n 0, 1) := by decide +kernel
theorem dX5_feed_12 : decode cX5_feed 12 = .ok (.bipush (-2), 2) := by decide +kernel
theorem dX5_feed_14 : decode cX5_feed 14 = .ok (.invokevirtual 86, 3) := by decide +kernel
theorem dX5_feed_17 : decode cX5_feed 17 = .ok (.ireturn, 1) := by decide +kernel
theorem dX5_feed_18 : decode cX5_feed 18 = .ok (.aload_n 0, 1) := by decide +kernel
theorem dX5_feed_19 : decode cX5_feed 19 = .ok (.getfield 32, 3) := by decide +kernel
theorem dX5_feed_22 : decode cX5_feed 22 = .ok (.invokevirtual 189, 3) := by decide +kernel
theorem dX5_feed_25 : decode cX5_feed 25 = .ok (.ifCond .ne 10, 3) := by decide +kernel
theorem dX5_feed_28 : decode cX5_feed 28 = .ok (.aload_n 0, 1) := by decide +kernel
theorem dX5_feed_29 : decode cX5_feed 29 = .ok (.bipush (-6), 2) := by decide +kernel
theorem dX5_feed_31 : decode cX5_feed 31 = .ok (.invokevirtual 86, 3) := by decide +kernel
theorem dX5_feed_34 : decode cX5_feed 34 = .ok (.ireturn, 1) := by decide +kernel
theorem dX5_feed_35 : decode cX5_feed 35 = .ok (.aload_n 0, 1) := by decide +kernel
theorem dX5_feed_36 : decode cX5_feed 36 = .ok (.getfield 32, 3) := by decide +kernel
theorem dX5_feed_39 : decode cX5_feed 39 = .ok (.iload_n 1, 1) := by decide +kernel
theorem dX5_feed_40 : decode cX5_feed 40 = .ok (.invokevirtual 190, 3) := by decide +kernel
theorem dX5_feed_43 : decode cX5_feed 43 = .ok (.aload_n 0, 1) := by decide +kernel
theorem dX5_feed_44 : decode cX5_feed 44 = .ok (.getfield 32, 3) := by decide +kernel
theorem dX5_feed_47 : decode cX5_feed 47 = .ok (.getfield 193, 3) := by decide +kernel
theorem dX5_feed_50 : decode cX5_feed 50 = .ok (.ireturn, 1) := by decide +kernel
theorem dX5_wipe_0 : decode cX5_wipe 0 = .ok (.aload_n 0, 1) := by decide +kernel
theorem dX5_wipe_1 : decode cX5_wipe 1 = .ok (.getfield 32, 3) := by decide +kernel
theorem dX5_wipe_4 : decode cX5_wipe 4 = .ok (.getfield 193, 3) := by decide +kernel
theorem dX5_wipe_7 : decode cX5_wipe 7 = .ok (.istore_n 1, 1) := by decide +kernel
theorem dX5_wipe_8 : decode cX5_wipe 8 = .ok (.aload_n 0, 1) := by decide +kernel
theorem dX5_wipe_9 : decode cX5_wipe 9 = .ok (.getfield 32, 3) := by decide +kernel
theorem dX5_wipe_12 : decode cX5_wipe 12 = .ok (.iconst 0, 1) := by decide +kernel
theorem dX5_wipe_13 : decode cX5_wipe 13 = .ok (.putfield 193, 3) := by decide +kernel
theorem dX5_wipe_16 : decode cX5_wipe 16 = .ok (.iload_n 1, 1) := by decide +kernel
theorem dX5_wipe_17 : decode cX5_wipe 17 = .ok (.ireturn, 1) := by decide +kernel
theorem dX5_well_0 : decode cX5_well 0 = .ok (.aload_n 0, 1) := by decide +kernel
theorem dX5_well_1 : decode cX5_well 1 = .ok (.getfield 19, 3) := by decide +kernel
theorem dX5_well_4 : decode cX5_well 4 = .ok (.aload_n 0, 1) := by decide +kernel
theorem dX5_well_5 : decode cX5_well 5 = .ok (.getfield 12, 3) := by decide +kernel
theorem dX5_well_8 : decode cX5_well 8 = .ok (.invokevirtual 196, 3) := by decide +kernel
theorem dX5_well_11 : decode cX5_well 11 = .ok (.aload_n 0, 1) := by decide +kernel
theorem dX5_well_12 : decode cX5_well 12 = .ok (.getfield 32, 3) := by decide +kernel
theorem dX5_well_15 : decode cX5_well 15 = .ok (.aload_n 0, 1) := by decide +kernel
theorem dX5_well_16 : decode cX5_well 16 = .ok (.getfield 19, 3) := by decide +kernel
theorem dX5_well_19 : decode cX5_well 19 = .ok (.invokevirtual 200, 3) := by decide +kernel
theorem dX5_well_22 : decode cX5_well 22 = .ok (.istore_n 1, 1) := by decide +kernel
theorem dX5_well_23 : decode cX5_well 23 = .ok (.aload_n 0, 1) := by decide +kernel
theorem dX5_well_24 : decode cX5_well 24 = .ok (.getfield 32, 3) := by decide +kernel
theorem dX5_well_27 : decode cX5_well 27 = .ok (.iconst 0, 1) := by decide +kernel
theorem dX5_well_28 : decode cX5_well 28 = .ok (.putfield 193, 3) := by decide +kernel
theorem dX5_well_31 : decode cX5_well 31 = .ok (.iload_n 1, 1) := by decide +kernel
theorem dX5_well_32 : decode cX5_well 32 = .ok (.iconst (-1), 1) := by decide +kernel
theorem dX5_well_33 : decode cX5_well 33 = .ok (.if_icmp .ne 21, 3) := by decide +kernel
theorem dX5_well_36 : decode cX5_well 36 = .ok (.aload_n 0, 1) := by decide +kernel
theorem dX5_well_37 : decode cX5_well 37 = .ok (.bipush (-2), 2) := by decide +kernel
theorem dX5_well_39 : decode cX5_well 39 = .ok (.invokevirtual 86, 3) := by decide +kernel
theorem dX5_well_42 : decode cX5_well 42 = .ok (.pop, 1) := by decide +kernel
theorem dX5_well_43 : decode cX5_well 43 = .ok (.bipush (-20), 2) := by decide +kernel
theorem dX5_well_45 : decode cX5_well 45 = .ok (.aload_n 0, 1) := by decide +kernel
theorem dX5_well_46 : decode cX5_well 46 = .ok (.getfield 32, 3) := by decide +kernel
theorem dX5_well_49 : decode cX5_well 49 = .ok (.getfield 204, 3) := by decide +kernel
theorem dX5_well_52 : decode cX5_well 52 = .ok (.isub, 1) := by decide +kernel
theorem dX5_well_53 : decode cX5_well 53 = .ok (.ireturn, 1) := by decide +kernel
theorem dX5_well_54 : decode cX5_well 54 = .ok (.aload_n 0, 1) := by decide +kernel
theorem dX5_well_55 : decode cX5_well 55 = .ok (.getfield 12, 3) := by decide +kernel
theorem dX5_well_58 : decode cX5_well 58 = .ok (.aload_n 0, 1) := by decide +kernel
theorem dX5_well_59 : decode cX5_well 59 = .ok (.getfield 19, 3) := by decide +kernel
theorem dX5_well_62 : decode cX5_well 62 = .ok (.invokevirtual 196, 3) := by decide +kernel
theorem dX5_well_65 : decode cX5_well 65 = .ok (.iload_n 1, 1) := by decide +kernel
theorem dX5_well_66 : decode cX5_well 66 = .ok (.ireturn, 1) := by decide +kernel
theorem dX5_voiceOf_0 : decode cX5_voiceOf 0 = .ok (.aload_n 0, 1) := by decide +kernel
theorem dX5_voiceOf_1 : decode cX5_voiceOf 1 = .ok (.iload_n 1, 1) := by decide +kernel
theorem dX5_voiceOf_2 : decode cX5_voiceOf 2 = .ok (.invokevirtual 122, 3) := by decide +kernel
theorem dX5_voiceOf_5 : decode cX5_voiceOf 5 = .ok (.ifCond .eq 12, 3) := by decide +kernel
theorem dX5_voiceOf_8 : decode cX5_voiceOf 8 = .ok (.iload_n 2, 1) := by decide +kernel
theorem dX5_voiceOf_9 : decode cX5_voiceOf 9 = .ok (.iconst 0, 1) := by decide +kernel
theorem dX5_voiceOf_10 : decode cX5_voiceOf 10 = .ok (.iconst 3, 1) := by decide +kernel
theorem dX5_voiceOf_11 : decode cX5_voiceOf 11 = .ok (.invokestatic 82, 3) := by decide +kernel
theorem dX5_voiceOf_14 : decode cX5_voiceOf 14 = .ok (.ifCond .ne 10, 3) := by decide +kernel
theorem dX5_voiceOf_17 : decode cX5_voiceOf 17 = .ok (.aload_n 0, 1) := by decide +kernel
theorem dX5_voiceOf_18 : decode cX5_voiceOf 18 = .ok (.bipush (-2), 2) := by decide +kernel
theorem dX5_voiceOf_20 : decode cX5_voiceOf 20 = .ok (.invokevirtual 86, 3) := by decide +kernel
theorem dX5_voiceOf_23 : decode cX5_voiceOf 23 = .ok (.ireturn, 1) := by decide +kernel
theorem dX5_voiceOf_24 : decode cX5_voiceOf 24 = .ok (.iload_n 2, 1) := by decide +kernel
theorem dX5_voiceOf_25 : decode cX5_voiceOf 25 = .ok (.tableswitch 54 0 2 #[27, 36, 45], 27) := by decide +kernel
theorem dX5_voiceOf_52 : decode cX5_voiceOf 52 = .ok (.aload_n 0, 1) := by decide +kernel
theorem dX5_voiceOf_53 : decode cX5_voiceOf 53 = .ok (.getfield 12, 3) := by decide +kernel
theorem dX5_voiceOf_56 : decode cX5_voiceOf 56 = .ok (.iload_n 1, 1) := by decide +kernel
theorem dX5_voiceOf_57 : decode cX5_voiceOf 57 = .ok (.invokevirtual 132, 3) := by decide +kernel
theorem dX5_voiceOf_60 : decode cX5_voiceOf 60 = .ok (.ireturn, 1) := by decide +kernel
theorem dX5_voiceOf_61 : decode cX5_voiceOf 61 = .ok (.aload_n 0, 1) := by decide +kernel
theorem dX5_voiceOf_62 : decode cX5_voiceOf 62 = .ok (.getfield 12, 3) := by decide +kernel
theorem dX5_voiceOf_65 : decode cX5_voiceOf 65 = .ok (.iload_n 1, 1) := by decide +kernel
theorem dX5_voiceOf_66 : decode cX5_voiceOf 66 = .ok (.invokevirtual 207, 3) := by decide +kernel
theorem dX5_voiceOf_69 : decode cX5_voiceOf 69 = .ok (.ireturn, 1) := by decide +kernel
theorem dX5_voiceOf_70 : decode cX5_voiceOf 70 = .ok (.aload_n 0, 1) := by decide +kernel
theorem dX5_voiceOf_71 : decode cX5_voiceOf 71 = .ok (.getfield 12, 3) := by decide +kernel
theorem dX5_voiceOf_74 : decode cX5_voiceOf 74 = .ok (.iload_n 1, 1) := by decide +kernel
theorem dX5_voiceOf_75 : decode cX5_voiceOf 75 = .ok (.invokevirtual 138, 3) := by decide +kernel
theorem dX5_voiceOf_78 : decode cX5_voiceOf 78 = .ok (.ireturn, 1) := by decide +kernel
theorem dX5_voiceOf_79 : decode cX5_voiceOf 79 = .ok (.aload_n 0, 1) := by decide +kernel
theorem dX5_voiceOf_80 : decode cX5_voiceOf 80 = .ok (.getfield 43, 3) := by decide +kernel
theorem dX5_voiceOf_83 : decode cX5_voiceOf 83 = .ok (.aload_n 0, 1) := by decide +kernel
theorem dX5_voiceOf_84 : decode cX5_voiceOf 84 = .ok (.getfield 12, 3) := by decide +kernel
theorem dX5_voiceOf_87 : decode cX5_voiceOf 87 = .ok (.iload_n 1, 1) := by decide +kernel
theorem dX5_voiceOf_88 : decode cX5_voiceOf 88 = .ok (.invokevirtual 148, 3) := by decide +kernel
theorem dX5_voiceOf_91 : decode cX5_voiceOf 91 = .ok (.aload_n 0, 1) := by decide +kernel
theorem dX5_voiceOf_92 : decode cX5_voiceOf 92 = .ok (.getfield 43, 3) := by decide +kernel
theorem dX5_voiceOf_95 : decode cX5_voiceOf 95 = .ok (.invokevirtual 210, 3) := by decide +kernel
theorem dX5_voiceOf_98 : decode cX5_voiceOf 98 = .ok (.ireturn, 1) := by decide +kernel
theorem dX5_back_0 : decode cX5_back 0 = .ok (.aload_n 0, 1) := by decide +kernel
theorem dX5_back_1 : decode cX5_back 1 = .ok (.iload_n 1, 1) := by decide +kernel
theorem dX5_back_2 : decode cX5_back 2 = .ok (.invokevirtual 122, 3) := by decide +kernel
theorem dX5_back_5 : decode cX5_back 5 = .ok (.ifCond .eq 13, 3) := by decide +kernel
theorem dX5_back_8 : decode cX5_back 8 = .ok (.iload_n 2, 1) := by decide +kernel
theorem dX5_back_9 : decode cX5_back 9 = .ok (.iconst 0, 1) := by decide +kernel
theorem dX5_back_10 : decode cX5_back 10 = .ok (.bipush 39, 2) := by decide +kernel
theorem dX5_back_12 : decode cX5_back 12 = .ok (.invokestatic 82, 3) := by decide +kernel
theorem dX5_back_15 : decode cX5_back 15 = .ok (.ifCond .ne 10, 3) := by decide +kernel
theorem dX5_back_18 : decode cX5_back 18 = .ok (.aload_n 0, 1) := by decide +kernel
theorem dX5_back_19 : decode cX5_back 19 = .ok (.bipush (-2), 2) := by decide +kernel
theorem dX5_back_21 : decode cX5_back 21 = .ok (.invokevirtual 86, 3) := by decide +kernel
theorem dX5_back_24 : decode cX5_back 24 = .ok (.ireturn, 1) := by decide +kernel
theorem dX5_back_25 : decode cX5_back 25 = .ok (.aload_n 0, 1) := by decide +kernel
theorem dX5_back_26 : decode cX5_back 26 = .ok (.getfield 43, 3) := by decide +kernel
theorem dX5_back_29 : decode cX5_back 29 = .ok (.aload_n 0, 1) := by decide +kernel
theorem dX5_back_30 : decode cX5_back 30 = .ok (.getfield 12, 3) := by decide +kernel
theorem dX5_back_33 : decode cX5_back 33 = .ok (.iload_n 1, 1) := by decide +kernel
theorem dX5_back_34 : decode cX5_back 34 = .ok (.invokevirtual 148, 3) := by decide +kernel
theorem dX5_back_37 : decode cX5_back 37 = .ok (.aload_n 0, 1) := by decide +kernel
theorem dX5_back_38 : decode cX5_back 38 = .ok (.getfield 43, 3) := by decide +kernel
theorem dX5_back_41 : decode cX5_back 41 = .ok (.iload_n 2, 1) := by decide +kernel
theorem dX5_back_42 : decode cX5_back 42 = .ok (.invokevirtual 213, 3) := by decide +kernel
theorem dX5_back_45 : decode cX5_back 45 = .ok (.ireturn, 1) := by decide +kernel
theorem dX5_lost_0 : decode cX5_lost 0 = .ok (.aload_n 0, 1) := by decide +kernel
theorem dX5_lost_1 : decode cX5_lost 1 = .ok (.iload_n 1, 1) := by decide +kernel
theorem dX5_lost_2 : decode cX5_lost 2 = .ok (.invokevirtual 122, 3) := by decide +kernel
theorem dX5_lost_5 : decode cX5_lost 5 = .ok (.ifCond .ne 10, 3) := by decide +kernel
theorem dX5_lost_8 : decode cX5_lost 8 = .ok (.aload_n 0, 1) := by decide +kernel
theorem dX5_lost_9 : decode cX5_lost 9 = .ok (.bipush (-2), 2) := by decide +kernel
theorem dX5_lost_11 : decode cX5_lost 11 = .ok (.invokevirtual 86, 3) := by decide +kernel
theorem dX5_lost_14 : decode cX5_lost 14 = .ok (.ireturn, 1) := by decide +kernel
theorem dX5_lost_15 : decode cX5_lost 15 = .ok (.aload_n 0, 1) := by decide +kernel
theorem dX5_lost_16 : decode cX5_lost 16 = .ok (.getfield 43, 3) := by decide +kernel
theorem dX5_lost_19 : decode cX5_lost 19 = .ok (.aload_n 0, 1) := by decide +kernel
theorem dX5_lost_20 : decode cX5_lost 20 = .ok (.getfield 12, 3) := by decide +kernel
theorem dX5_lost_23 : decode cX5_lost 23 = .ok (.iload_n 1, 1) := by decide +kernel
theorem dX5_lost_24 : decode cX5_lost 24 = .ok (.invokevirtual 148, 3) := by decide +kernel
theorem dX5_lost_27 : decode cX5_lost 27 = .ok (.iconst 0, 1) := by decide +kernel
theorem dX5_lost_28 : decode cX5_lost 28 = .ok (.istore_n 2, 1) := by decide +kernel
theorem dX5_lost_29 : decode cX5_lost 29 = .ok (.iconst 0, 1) := by decide +kernel
theorem dX5_lost_30 : decode cX5_lost 30 = .ok (.istore_n 3, 1) := by decide +kernel
theorem dX5_lost_31 : decode cX5_lost 31 = .ok (.iload_n 3, 1) := by decide +kernel
theorem dX5_lost_32 : decode cX5_lost 32 = .ok (.bipush 40, 2) := by decide +kernel
theorem dX5_lost_34 : decode cX5_lost 34 = .ok (.if_icmp .ge 24, 3) := by decide +kernel
theorem dX5_lost_37 : decode cX5_lost 37 = .ok (.aload_n 0, 1) := by decide +kernel
theorem dX5_lost_38 : decode cX5_lost 38 = .ok (.getfield 43, 3) := by decide +kernel
theorem dX5_lost_41 : decode cX5_lost 41 = .ok (.iload_n 3, 1) := by decide +kernel
theorem dX5_lost_42 : decode cX5_lost 42 = .ok (.invokevirtual 213, 3) := by decide +kernel
theorem dX5_lost_45 : decode cX5_lost 45 = .ok (.iconst (-1), 1) := by decide +kernel
theorem dX5_lost_46 : decode cX5_lost 46 = .ok (.if_icmp .ne 6, 3) := by decide +kernel
theorem dX5_lost_49 : decode cX5_lost 49 = .ok (.iinc 2 1, 3) := by decide +kernel
theorem dX5_lost_52 : decode cX5_lost 52 = .ok (.iinc 3 1, 3) := by decide +kernel
theorem dX5_lost_55 : decode cX5_lost 55 = .ok (.goto (-24), 3) := by decide +kernel
theorem dX5_lost_58 : decode cX5_lost 58 = .ok (.iload_n 2, 1) := by decide +kernel
theorem dX5_lost_59 : decode cX5_lost 59 = .ok (.ireturn, 1) := by decide +kernel
theorem dX5_plain_0 : decode cX5_plain 0 = .ok (.aload_n 0, 1) := by decide +kernel
theorem dX5_plain_1 : decode cX5_plain 1 = .ok (.iload_n 1, 1) := by decide +kernel
theorem dX5_plain_2 : decode cX5_plain 2 = .ok (.invokevirtual 122, 3) := by decide +kernel
theorem dX5_plain_5 : decode cX5_plain 5 = .ok (.ifCond .ne 10, 3) := by decide +kernel
theorem dX5_plain_8 : decode cX5_plain 8 = .ok (.aload_n 0, 1) := by decide +kernel
theorem dX5_plain_9 : decode cX5_plain 9 = .ok (.bipush (-2), 2) := by decide +kernel
theorem dX5_plain_11 : decode cX5_plain 11 = .ok (.invokevirtual 86, 3) := by decide +kernel
theorem dX5_plain_14 : decode cX5_plain 14 = .ok (.ireturn, 1) := by decide +kernel
theorem dX5_plain_15 : decode cX5_plain 15 = .ok (.aload_n 0, 1) := by decide +kernel
theorem dX5_plain_16 : decode cX5_plain 16 = .ok (.getfield 43, 3) := by decide +kernel
theorem dX5_plain_19 : decode cX5_plain 19 = .ok (.aload_n 0, 1) := by decide +kernel
theorem dX5_plain_20 : decode cX5_plain 20 = .ok (.getfield 12, 3) := by decide +kernel
theorem dX5_plain_23 : decode cX5_plain 23 = .ok (.iload_n 1, 1) := by decide +kernel
theorem dX5_plain_24 : decode cX5_plain 24 = .ok (.invokevirtual 148, 3) := by decide +kernel
theorem dX5_plain_27 : decode cX5_plain 27 = .ok (.iconst 0, 1) := by decide +kernel
theorem dX5_plain_28 : decode cX5_plain 28 = .ok (.istore_n 2, 1) := by decide +kernel
theorem dX5_plain_29 : decode cX5_plain 29 = .ok (.iconst 0, 1) := by decide +kernel
theorem dX5_plain_30 : decode cX5_plain 30 = .ok (.istore_n 3, 1) := by decide +kernel
theorem dX5_plain_31 : decode cX5_plain 31 = .ok (.iload_n 3, 1) := by decide +kernel
theorem dX5_plain_32 : decode cX5_plain 32 = .ok (.bipush 40, 2) := by decide +kernel
theorem dX5_plain_34 : decode cX5_plain 34 = .ok (.if_icmp .ge 24, 3) := by decide +kernel
theorem dX5_plain_37 : decode cX5_plain 37 = .ok (.aload_n 0, 1) := by decide +kernel
theorem dX5_plain_38 : decode cX5_plain 38 = .ok (.getfield 43, 3) := by decide +kernel
theorem dX5_plain_41 : decode cX5_plain 41 = .ok (.iload_n 3, 1) := by decide +kernel
theorem dX5_plain_42 : decode cX5_plain 42 = .ok (.invokevirtual 213, 3) := by decide +kernel
theorem dX5_plain_45 : decode cX5_plain 45 = .ok (.iload_n 3, 1) := by decide +kernel
theorem dX5_plain_46 : decode cX5_plain 46 = .ok (.if_icmp .ne 6, 3) := by decide +kernel
theorem dX5_plain_49 : decode cX5_plain 49 = .ok (.iinc 2 1, 3) := by decide +kernel
theorem dX5_plain_52 : decode cX5_plain 52 = .ok (.iinc 3 1, 3) := by decide +kernel
theorem dX5_plain_55 : decode cX5_plain 55 = .ok (.goto (-24), 3) := by decide +kernel
theorem dX5_plain_58 : decode cX5_plain 58 = .ok (.iload_n 2, 1) := by decide +kernel
theorem dX5_plain_59 : decode cX5_plain 59 = .ok (.ireturn, 1) := by decide +kernel
theorem dX5_twins_0 : decode cX5_twins 0 = .ok (.iconst 0, 1) := by decide +kernel
theorem dX5_twins_1 : decode cX5_twins 1 = .ok (.istore_n 1, 1) := by decide +kernel
theorem dX5_twins_2 : decode cX5_twins 2 = .ok (.iconst 1, 1) := by decide +kernel
theorem dX5_twins_3 : decode cX5_twins 3 = .ok (.istore_n 2, 1) := by decide +kernel
theorem dX5_twins_4 : decode cX5_twins 4 = .ok (.iload_n 2, 1) := by decide +kernel
theorem dX5_twins_5 : decode cX5_twins 5 = .ok (.aload_n 0, 1) := by decide +kernel
theorem dX5_twins_6 : decode cX5_twins 6 = .ok (.getfield 12, 3) := by decide +kernel
theorem dX5_twins_9 : decode cX5_twins 9 = .ok (.getfield 167, 3) := by decide +kernel
theorem dX5_twins_12 : decode cX5_twins 12 = .ok (.if_icmp .ge 34, 3) := by decide +kernel
theorem dX5_twins_15 : decode cX5_twins 15 = .ok (.iconst 0, 1) := by decide +kernel
theorem dX5_twins_16 : decode cX5_twins 16 = .ok (.istore_n 3, 1) := by decide +kernel
theorem dX5_twins_17 : decode cX5_twins 17 = .ok (.iload_n 3, 1) := by decide +kernel
theorem dX5_twins_18 : decode cX5_twins 18 = .ok (.iload_n 2, 1) := by decide +kernel
theorem dX5_twins_19 : decode cX5_twins 19 = .ok (.if_icmp .ge 21, 3) := by decide +kernel
theorem dX5_twins_22 : decode cX5_twins 22 = .ok (.aload_n 0, 1) := by decide +kernel
theorem dX5_twins_23 : decode cX5_twins 23 = .ok (.iload_n 3, 1) := by decide +kernel
theorem dX5_twins_24 : decode cX5_twins 24 = .ok (.iload_n 2, 1) := by decide +kernel
theorem dX5_twins_25 : decode cX5_twins 25 = .ok (.invokevirtual 216, 3) := by decide +kernel
theorem dX5_twins_28 : decode cX5_twins 28 = .ok (.ifCond .eq 6, 3) := by decide +kernel
theorem dX5_twins_31 : decode cX5_twins 31 = .ok (.iinc 1 1, 3) := by decide +kernel
theorem dX5_twins_34 : decode cX5_twins 34 = .ok (.iinc 3 1, 3) := by decide +kernel
theorem dX5_twins_37 : decode cX5_twins 37 = .ok (.goto (-20), 3) := by decide +kernel
theorem dX5_twins_40 : decode cX5_twins 40 = .ok (.iinc 2 1, 3) := by decide +kernel
theorem dX5_twins_43 : decode cX5_twins 43 = .ok (.goto (-39), 3) := by decide +kernel
theorem dX5_twins_46 : decode cX5_twins 46 = .ok (.iload_n 1, 1) := by decide +kernel
theorem dX5_twins_47 : decode cX5_twins 47 = .ok (.ireturn, 1) := by decide +kernel
theorem dX5_ofKind_0 : decode cX5_ofKind 0 = .ok (.iload_n 1, 1) := by decide +kernel
theorem dX5_ofKind_1 : decode cX5_ofKind 1 = .ok (.invokestatic 129, 3) := by decide +kernel
theorem dX5_ofKind_4 : decode cX5_ofKind 4 = .ok (.ifCond .ne 10, 3) := by decide +kernel
theorem dX5_ofKind_7 : decode cX5_ofKind 7 = .ok (.aload_n 0, 1) := by decide +kernel
theorem dX5_ofKind_8 : decode cX5_ofKind 8 = .ok (.bipush (-2), 2) := by decide +kernel
theorem dX5_ofKind_10 : decode cX5_ofKind 10 = .ok (.invokevirtual 86, 3) := by decide +kernel
theorem dX5_ofKind_13 : decode cX5_ofKind 13 = .ok (.ireturn, 1) := by decide +kernel
theorem dX5_ofKind_14 : decode cX5_ofKind 14 = .ok (.iconst 0, 1) := by decide +kernel
theorem dX5_ofKind_15 : decode cX5_ofKind 15 = .ok (.istore_n 2, 1) := by decide +kernel
theorem dX5_ofKind_16 : decode cX5_ofKind 16 = .ok (.iconst 0, 1) := by decide +kernel
theorem dX5_ofKind_17 : decode cX5_ofKind 17 = .ok (.istore_n 3, 1) := by decide +kernel
theorem dX5_ofKind_18 : decode cX5_ofKind 18 = .ok (.iload_n 3, 1) := by decide +kernel
theorem dX5_ofKind_19 : decode cX5_ofKind 19 = .ok (.aload_n 0, 1) := by decide +kernel
theorem dX5_ofKind_20 : decode cX5_ofKind 20 = .ok (.getfield 12, 3) := by decide +kernel
theorem dX5_ofKind_23 : decode cX5_ofKind 23 = .ok (.getfield 167, 3) := by decide +kernel
theorem dX5_ofKind_26 : decode cX5_ofKind 26 = .ok (.if_icmp .ge 24, 3) := by decide +kernel
theorem dX5_ofKind_29 : decode cX5_ofKind 29 = .ok (.aload_n 0, 1) := by decide +kernel
theorem dX5_ofKind_30 : decode cX5_ofKind 30 = .ok (.getfield 12, 3) := by decide +kernel
theorem dX5_ofKind_33 : decode cX5_ofKind 33 = .ok (.iload_n 3, 1) := by decide +kernel
theorem dX5_ofKind_34 : decode cX5_ofKind 34 = .ok (.invokevirtual 132, 3) := by decide +kernel
theorem dX5_ofKind_37 : decode cX5_ofKind 37 = .ok (.iload_n 1, 1) := by decide +kernel
theorem dX5_ofKind_38 : decode cX5_ofKind 38 = .ok (.if_icmp .ne 6, 3) := by decide +kernel
theorem dX5_ofKind_41 : decode cX5_ofKind 41 = .ok (.iinc 2 1, 3) := by decide +kernel
theorem dX5_ofKind_44 : decode cX5_ofKind 44 = .ok (.iinc 3 1, 3) := by decide +kernel
theorem dX5_ofKind_47 : decode cX5_ofKind 47 = .ok (.goto (-29), 3) := by decide +kernel
theorem dX5_ofKind_50 : decode cX5_ofKind 50 = .ok (.iload_n 2, 1) := by decide +kernel
theorem dX5_ofKind_51 : decode cX5_ofKind 51 = .ok (.ireturn, 1) := by decide +kernel
theorem dX5_ask_0 : decode cX5_ask 0 = .ok (.aload_n 0, 1) := by decide +kernel
theorem dX5_ask_1 : decode cX5_ask 1 = .ok (.iload_n 1, 1) := by decide +kernel
theorem dX5_ask_2 : decode cX5_ask 2 = .ok (.invokevirtual 122, 3) := by decide +kernel
theorem dX5_ask_5 : decode cX5_ask 5 = .ok (.ifCond .eq 8, 3) := by decide +kernel
theorem dX5_ask_8 : decode cX5_ask 8 = .ok (.iload_n 2, 1) := by decide +kernel
theorem dX5_ask_9 : decode cX5_ask 9 = .ok (.iconst (-1), 1) := by decide +kernel
theorem dX5_ask_10 : decode cX5_ask 10 = .ok (.if_icmp .ge 10, 3) := by decide +kernel
theorem dX5_ask_13 : decode cX5_ask 13 = .ok (.aload_n 0, 1) := by decide +kernel
theorem dX5_ask_14 : decode cX5_ask 14 = .ok (.bipush (-2), 2) := by decide +kernel
theorem dX5_ask_16 : decode cX5_ask 16 = .ok (.invokevirtual 86, 3) := by decide +kernel
theorem dX5_ask_19 : decode cX5_ask 19 = .ok (.ireturn, 1) := by decide +kernel
theorem dX5_ask_20 : decode cX5_ask 20 = .ok (.aload_n 0, 1) := by decide +kernel
theorem dX5_ask_21 : decode cX5_ask 21 = .ok (.iload_n 1, 1) := by decide +kernel
theorem dX5_ask_22 : decode cX5_ask 22 = .ok (.invokevirtual 219, 3) := by decide +kernel
theorem dX5_ask_25 : decode cX5_ask 25 = .ok (.iload_n 2, 1) := by decide +kernel
theorem dX5_ask_26 : decode cX5_ask 26 = .ok (.iconst (-1), 1) := by decide +kernel
theorem dX5_ask_27 : decode cX5_ask 27 = .ok (.if_icmp .ne 25, 3) := by decide +kernel
theorem dX5_ask_30 : decode cX5_ask 30 = .ok (.aload_n 0, 1) := by decide +kernel
theorem dX5_ask_31 : decode cX5_ask 31 = .ok (.getfield 57, 3) := by decide +kernel
theorem dX5_ask_34 : decode cX5_ask 34 = .ok (.getfield 222, 3) := by decide +kernel
theorem dX5_ask_37 : decode cX5_ask 37 = .ok (.ifCond .ne 7, 3) := by decide +kernel
theorem dX5_ask_40 : decode cX5_ask 40 = .ok (.iconst (-1), 1) := by decide +kernel
theorem dX5_ask_41 : decode cX5_ask 41 = .ok (.goto 10, 3) := by decide +kernel
theorem dX5_ask_44 : decode cX5_ask 44 = .ok (.aload_n 0, 1) := by decide +kernel
theorem dX5_ask_45 : decode cX5_ask 45 = .ok (.getfield 57, 3) := by decide +kernel
theorem dX5_ask_48 : decode cX5_ask 48 = .ok (.getfield 222, 3) := by decide +kernel
theorem dX5_ask_51 : decode cX5_ask 51 = .ok (.ireturn, 1) := by decide +kernel
theorem dX5_ask_52 : decode cX5_ask 52 = .ok (.iload_n 2, 1) := by decide +kernel
theorem dX5_ask_53 : decode cX5_ask 53 = .ok (.aload_n 0, 1) := by decide +kernel
theorem dX5_ask_54 : decode cX5_ask 54 = .ok (.getfield 57, 3) := by decide +kernel
theorem dX5_ask_57 : decode cX5_ask 57 = .ok (.getfield 222, 3) := by decide +kernel
theorem dX5_ask_60 : decode cX5_ask 60 = .ok (.if_icmp .ge 14, 3) := by decide +kernel
theorem dX5_ask_63 : decode cX5_ask 63 = .ok (.aload_n 0, 1) := by decide +kernel
theorem dX5_ask_64 : decode cX5_ask 64 = .ok (.getfield 57, 3) := by decide +kernel
theorem dX5_ask_67 : decode cX5_ask 67 = .ok (.iload_n 2, 1) := by decide +kernel
theorem dX5_ask_68 : decode cX5_ask 68 = .ok (.invokevirtual 223, 3) := by decide +kernel
theorem dX5_ask_71 : decode cX5_ask 71 = .ok (.goto 9, 3) := by decide +kernel
theorem dX5_ask_74 : decode cX5_ask 74 = .ok (.aload_n 0, 1) := by decide +kernel
theorem dX5_ask_75 : decode cX5_ask 75 = .ok (.bipush (-5), 2) := by decide +kernel
theorem dX5_ask_77 : decode cX5_ask 77 = .ok (.invokevirtual 86, 3) := by decide +kernel
theorem dX5_ask_80 : decode cX5_ask 80 = .ok (.ireturn, 1) := by decide +kernel
theorem dX5_echo_0 : decode cX5_echo 0 = .ok (.aload_n 0, 1) := by decide +kernel
theorem dX5_echo_1 : decode cX5_echo 1 = .ok (.iload_n 1, 1) := by decide +kernel
theorem dX5_echo_2 : decode cX5_echo 2 = .ok (.iload_n 2, 1) := by decide +kernel
theorem dX5_echo_3 : decode cX5_echo 3 = .ok (.aload_n 0, 1) := by decide +kernel
theorem dX5_echo_4 : decode cX5_echo 4 = .ok (.iload_n 3, 1) := by decide +kernel
theorem dX5_echo_5 : decode cX5_echo 5 = .ok (.invokevirtual 122, 3) := by decide +kernel
theorem dX5_echo_8 : decode cX5_echo 8 = .ok (.ifCond .eq 13, 3) := by decide +kernel
theorem dX5_echo_11 : decode cX5_echo 11 = .ok (.iload 4, 2) := by decide +kernel
theorem dX5_echo_13 : decode cX5_echo 13 = .ok (.iconst (-1), 1) := by decide +kernel
theorem dX5_echo_14 : decode cX5_echo 14 = .ok (.if_icmp .lt 7, 3) := by decide +kernel
theorem dX5_echo_17 : decode cX5_echo 17 = .ok (.iconst 1, 1) := by decide +kernel
theorem dX5_echo_18 : decode cX5_echo 18 = .ok (.goto 4, 3) := by decide +kernel
theorem dX5_echo_21 : decode cX5_echo 21 = .ok (.iconst 0, 1) := by decide +kernel
theorem dX5_echo_22 : decode cX5_echo 22 = .ok (.invokevirtual 226, 3) := by decide +kernel
theorem dX5_echo_25 : decode cX5_echo 25 = .ok (.istore 5, 2) := by decide +kernel
theorem dX5_echo_27 : decode cX5_echo 27 = .ok (.iload 5, 2) := by decide +kernel
theorem dX5_echo_29 : decode cX5_echo 29 = .ok (.ifCond .eq 6, 3) := by decide +kernel
theorem dX5_echo_32 : decode cX5_echo 32 = .ok (.iload 5, 2) := by decide +kernel
theorem dX5_echo_34 : decode cX5_echo 34 = .ok (.ireturn, 1) := by decide +kernel
theorem dX5_echo_35 : decode cX5_echo 35 = .ok (.aload_n 0, 1) := by decide +kernel
theorem dX5_echo_36 : decode cX5_echo 36 = .ok (.getfield 43, 3) := by decide +kernel
theorem dX5_echo_39 : decode cX5_echo 39 = .ok (.aload_n 0, 1) := by decide +kernel
theorem dX5_echo_40 : decode cX5_echo 40 = .ok (.getfield 12, 3) := by decide +kernel
theorem dX5_echo_43 : decode cX5_echo 43 = .ok (.iload_n 3, 1) := by decide +kernel
theorem dX5_echo_44 : decode cX5_echo 44 = .ok (.invokevirtual 148, 3) := by decide +kernel
theorem dX5_echo_47 : decode cX5_echo 47 = .ok (.aload_n 0, 1) := by decide +kernel
theorem dX5_echo_48 : decode cX5_echo 48 = .ok (.getfield 43, 3) := by decide +kernel
theorem dX5_echo_51 : decode cX5_echo 51 = .ok (.aload_n 0, 1) := by decide +kernel
theorem dX5_echo_52 : decode cX5_echo 52 = .ok (.getfield 53, 3) := by decide +kernel
theorem dX5_echo_55 : decode cX5_echo 55 = .ok (.invokevirtual 152, 3) := by decide +kernel
theorem dX5_echo_58 : decode cX5_echo 58 = .ok (.iload 4, 2) := by decide +kernel
theorem dX5_echo_60 : decode cX5_echo 60 = .ok (.iconst (-1), 1) := by decide +kernel
theorem dX5_echo_61 : decode cX5_echo 61 = .ok (.if_icmp .ne 11, 3) := by decide +kernel
theorem dX5_echo_64 : decode cX5_echo 64 = .ok (.aload_n 0, 1) := by decide +kernel
theorem dX5_echo_65 : decode cX5_echo 65 = .ok (.getfield 43, 3) := by decide +kernel
theorem dX5_echo_68 : decode cX5_echo 68 = .ok (.getfield 230, 3) := by decide +kernel
theorem dX5_echo_71 : decode cX5_echo 71 = .ok (.ireturn, 1) := by decide +kernel
theorem dX5_echo_72 : decode cX5_echo 72 = .ok (.iload 4, 2) := by decide +kernel
theorem dX5_echo_74 : decode cX5_echo 74 = .ok (.aload_n 0, 1) := by decide +kernel
theorem dX5_echo_75 : decode cX5_echo 75 = .ok (.getfield 43, 3) := by decide +kernel
theorem dX5_echo_78 : decode cX5_echo 78 = .ok (.getfield 230, 3) := by decide +kernel
theorem dX5_echo_81 : decode cX5_echo 81 = .ok (.if_icmp .ge 15, 3) := by decide +kernel
theorem dX5_echo_84 : decode cX5_echo 84 = .ok (.aload_n 0, 1) := by decide +kernel
theorem dX5_echo_85 : decode cX5_echo 85 = .ok (.getfield 43, 3) := by decide +kernel
theorem dX5_echo_88 : decode cX5_echo 88 = .ok (.iload 4, 2) := by decide +kernel
theorem dX5_echo_90 : decode cX5_echo 90 = .ok (.invokevirtual 233, 3) := by decide +kernel
theorem dX5_echo_93 : decode cX5_echo 93 = .ok (.goto 9, 3) := by decide +kernel
theorem dX5_echo_96 : decode cX5_echo 96 = .ok (.aload_n 0, 1) := by decide +kernel
theorem dX5_echo_97 : decode cX5_echo 97 = .ok (.bipush (-5), 2) := by decide +kernel
theorem dX5_echo_99 : decode cX5_echo 99 = .ok (.invokevirtual 86, 3) := by decide +kernel
theorem dX5_echo_102 : decode cX5_echo 102 = .ok (.ireturn, 1) := by decide +kernel
theorem dX5_sum_0 : decode cX5_sum 0 = .ok (.aload_n 0, 1) := by decide +kernel
theorem dX5_sum_1 : decode cX5_sum 1 = .ok (.iload_n 1, 1) := by decide +kernel
theorem dX5_sum_2 : decode cX5_sum 2 = .ok (.iload_n 2, 1) := by decide +kernel
theorem dX5_sum_3 : decode cX5_sum 3 = .ok (.aload_n 0, 1) := by decide +kernel
theorem dX5_sum_4 : decode cX5_sum 4 = .ok (.iload_n 3, 1) := by decide +kernel
theorem dX5_sum_5 : decode cX5_sum 5 = .ok (.invokevirtual 122, 3) := by decide +kernel
theorem dX5_sum_8 : decode cX5_sum 8 = .ok (.invokevirtual 226, 3) := by decide +kernel
theorem dX5_sum_11 : decode cX5_sum 11 = .ok (.istore 4, 2) := by decide +kernel
theorem dX5_sum_13 : decode cX5_sum 13 = .ok (.iload 4, 2) := by decide +kernel
theorem dX5_sum_15 : decode cX5_sum 15 = .ok (.ifCond .eq 6, 3) := by decide +kernel
theorem dX5_sum_18 : decode cX5_sum 18 = .ok (.iload 4, 2) := by decide +kernel
theorem dX5_sum_20 : decode cX5_sum 20 = .ok (.ireturn, 1) := by decide +kernel
theorem dX5_sum_21 : decode cX5_sum 21 = .ok (.aload_n 0, 1) := by decide +kernel
theorem dX5_sum_22 : decode cX5_sum 22 = .ok (.getfield 43, 3) := by decide +kernel
theorem dX5_sum_25 : decode cX5_sum 25 = .ok (.aload_n 0, 1) := by decide +kernel
theorem dX5_sum_26 : decode cX5_sum 26 = .ok (.getfield 12, 3) := by decide +kernel
theorem dX5_sum_29 : decode cX5_sum 29 = .ok (.iload_n 3, 1) := by decide +kernel
theorem dX5_sum_30 : decode cX5_sum 30 = .ok (.invokevirtual 148, 3) := by decide +kernel
theorem dX5_sum_33 : decode cX5_sum 33 = .ok (.aload_n 0, 1) := by decide +kernel
theorem dX5_sum_34 : decode cX5_sum 34 = .ok (.getfield 43, 3) := by decide +kernel
theorem dX5_sum_37 : decode cX5_sum 37 = .ok (.aload_n 0, 1) := by decide +kernel
theorem dX5_sum_38 : decode cX5_sum 38 = .ok (.getfield 53, 3) := by decide +kernel
theorem dX5_sum_41 : decode cX5_sum 41 = .ok (.invokevirtual 152, 3) := by decide +kernel
theorem dX5_sum_44 : decode cX5_sum 44 = .ok (.aload_n 0, 1) := by decide +kernel
theorem dX5_sum_45 : decode cX5_sum 45 = .ok (.getfield 43, 3) := by decide +kernel
theorem dX5_sum_48 : decode cX5_sum 48 = .ok (.invokevirtual 156, 3) := by decide +kernel
theorem dX5_sum_51 : decode cX5_sum 51 = .ok (.ireturn, 1) := by decide +kernel
theorem dX5_weighed_0 : decode cX5_weighed 0 = .ok (.aload_n 0, 1) := by decide +kernel
theorem dX5_weighed_1 : decode cX5_weighed 1 = .ok (.iload_n 1, 1) := by decide +kernel
theorem dX5_weighed_2 : decode cX5_weighed 2 = .ok (.iload_n 2, 1) := by decide +kernel
theorem dX5_weighed_3 : decode cX5_weighed 3 = .ok (.aload_n 0, 1) := by decide +kernel
theorem dX5_weighed_4 : decode cX5_weighed 4 = .ok (.iload_n 3, 1) := by decide +kernel
theorem dX5_weighed_5 : decode cX5_weighed 5 = .ok (.invokevirtual 122, 3) := by decide +kernel
theorem dX5_weighed_8 : decode cX5_weighed 8 = .ok (.invokevirtual 226, 3) := by decide +kernel
theorem dX5_weighed_11 : decode cX5_weighed 11 = .ok (.istore 4, 2) := by decide +kernel
theorem dX5_weighed_13 : decode cX5_weighed 13 = .ok (.iload 4, 2) := by decide +kernel
theorem dX5_weighed_15 : decode cX5_weighed 15 = .ok (.ifCond .eq 6, 3) := by decide +kernel
theorem dX5_weighed_18 : decode cX5_weighed 18 = .ok (.iload 4, 2) := by decide +kernel
theorem dX5_weighed_20 : decode cX5_weighed 20 = .ok (.ireturn, 1) := by decide +kernel
theorem dX5_weighed_21 : decode cX5_weighed 21 = .ok (.aload_n 0, 1) := by decide +kernel
theorem dX5_weighed_22 : decode cX5_weighed 22 = .ok (.getfield 43, 3) := by decide +kernel
theorem dX5_weighed_25 : decode cX5_weighed 25 = .ok (.aload_n 0, 1) := by decide +kernel
theorem dX5_weighed_26 : decode cX5_weighed 26 = .ok (.getfield 12, 3) := by decide +kernel
theorem dX5_weighed_29 : decode cX5_weighed 29 = .ok (.iload_n 3, 1) := by decide +kernel
theorem dX5_weighed_30 : decode cX5_weighed 30 = .ok (.invokevirtual 148, 3) := by decide +kernel
theorem dX5_weighed_33 : decode cX5_weighed 33 = .ok (.aload_n 0, 1) := by decide +kernel
theorem dX5_weighed_34 : decode cX5_weighed 34 = .ok (.getfield 43, 3) := by decide +kernel
theorem dX5_weighed_37 : decode cX5_weighed 37 = .ok (.aload_n 0, 1) := by decide +kernel
theorem dX5_weighed_38 : decode cX5_weighed 38 = .ok (.getfield 53, 3) := by decide +kernel
theorem dX5_weighed_41 : decode cX5_weighed 41 = .ok (.invokevirtual 236, 3) := by decide +kernel
theorem dX5_weighed_44 : decode cX5_weighed 44 = .ok (.ireturn, 1) := by decide +kernel
theorem dX5_when_0 : decode cX5_when 0 = .ok (.aload_n 0, 1) := by decide +kernel
theorem dX5_when_1 : decode cX5_when 1 = .ok (.iload_n 1, 1) := by decide +kernel
theorem dX5_when_2 : decode cX5_when 2 = .ok (.iload_n 2, 1) := by decide +kernel
theorem dX5_when_3 : decode cX5_when 3 = .ok (.aload_n 0, 1) := by decide +kernel
theorem dX5_when_4 : decode cX5_when 4 = .ok (.iload_n 3, 1) := by decide +kernel
theorem dX5_when_5 : decode cX5_when 5 = .ok (.invokevirtual 122, 3) := by decide +kernel
theorem dX5_when_8 : decode cX5_when 8 = .ok (.invokevirtual 226, 3) := by decide +kernel
theorem dX5_when_11 : decode cX5_when 11 = .ok (.istore 4, 2) := by decide +kernel
theorem dX5_when_13 : decode cX5_when 13 = .ok (.iload 4, 2) := by decide +kernel
theorem dX5_when_15 : decode cX5_when 15 = .ok (.ifCond .eq 6, 3) := by decide +kernel
theorem dX5_when_18 : decode cX5_when 18 = .ok (.iload 4, 2) := by decide +kernel
theorem dX5_when_20 : decode cX5_when 20 = .ok (.ireturn, 1) := by decide +kernel
theorem dX5_when_21 : decode cX5_when 21 = .ok (.aload_n 0, 1) := by decide +kernel
theorem dX5_when_22 : decode cX5_when 22 = .ok (.getfield 43, 3) := by decide +kernel
theorem dX5_when_25 : decode cX5_when 25 = .ok (.aload_n 0, 1) := by decide +kernel
theorem dX5_when_26 : decode cX5_when 26 = .ok (.getfield 12, 3) := by decide +kernel
theorem dX5_when_29 : decode cX5_when 29 = .ok (.iload_n 3, 1) := by decide +kernel
theorem dX5_when_30 : decode cX5_when 30 = .ok (.invokevirtual 148, 3) := by decide +kernel
theorem dX5_when_33 : decode cX5_when 33 = .ok (.iconst 0, 1) := by decide +kernel
theorem dX5_when_34 : decode cX5_when 34 = .ok (.istore 5, 2) := by decide +kernel
theorem dX5_when_36 : decode cX5_when 36 = .ok (.iload 5, 2) := by decide +kernel
theorem dX5_when_38 : decode cX5_when 38 = .ok (.bipush 60, 2) := by decide +kernel
theorem dX5_when_40 : decode cX5_when 40 = .ok (.if_icmp .gt 34, 3) := by decide +kernel
theorem dX5_when_43 : decode cX5_when 43 = .ok (.aload_n 0, 1) := by decide +kernel
theorem dX5_when_44 : decode cX5_when 44 = .ok (.getfield 43, 3) := by decide +kernel
theorem dX5_when_47 : decode cX5_when 47 = .ok (.aload_n 0, 1) := by decide +kernel
theorem dX5_when_48 : decode cX5_when 48 = .ok (.getfield 53, 3) := by decide +kernel
theorem dX5_when_51 : decode cX5_when 51 = .ok (.invokevirtual 236, 3) := by decide +kernel
theorem dX5_when_54 : decode cX5_when 54 = .ok (.iconst 1, 1) := by decide +kernel
theorem dX5_when_55 : decode cX5_when 55 = .ok (.if_icmp .ne 6, 3) := by decide +kernel
theorem dX5_when_58 : decode cX5_when 58 = .ok (.iload 5, 2) := by decide +kernel
theorem dX5_when_60 : decode cX5_when 60 = .ok (.ireturn, 1) := by decide +kernel
theorem dX5_when_61 : decode cX5_when 61 = .ok (.aload_n 0, 1) := by decide +kernel
theorem dX5_when_62 : decode cX5_when 62 = .ok (.getfield 43, 3) := by decide +kernel
theorem dX5_when_65 : decode cX5_when 65 = .ok (.invokevirtual 240, 3) := by decide +kernel
theorem dX5_when_68 : decode cX5_when 68 = .ok (.iinc 5 1, 3) := by decide +kernel
theorem dX5_when_71 : decode cX5_when 71 = .ok (.goto (-35), 3) := by decide +kernel
theorem dX5_when_74 : decode cX5_when 74 = .ok (.iconst (-1), 1) := by decide +kernel
theorem dX5_when_75 : decode cX5_when 75 = .ok (.ireturn, 1) := by decide +kernel
theorem dX5_sure_0 : decode cX5_sure 0 = .ok (.aload_n 0, 1) := by decide +kernel
theorem dX5_sure_1 : decode cX5_sure 1 = .ok (.iload_n 1, 1) := by decide +kernel
theorem dX5_sure_2 : decode cX5_sure 2 = .ok (.iload_n 2, 1) := by decide +kernel
theorem dX5_sure_3 : decode cX5_sure 3 = .ok (.aload_n 0, 1) := by decide +kernel
theorem dX5_sure_4 : decode cX5_sure 4 = .ok (.iload_n 3, 1) := by decide +kernel
theorem dX5_sure_5 : decode cX5_sure 5 = .ok (.invokevirtual 122, 3) := by decide +kernel
theorem dX5_sure_8 : decode cX5_sure 8 = .ok (.invokevirtual 226, 3) := by decide +kernel
theorem dX5_sure_11 : decode cX5_sure 11 = .ok (.istore 4, 2) := by decide +kernel
theorem dX5_sure_13 : decode cX5_sure 13 = .ok (.iload 4, 2) := by decide +kernel
theorem dX5_sure_15 : decode cX5_sure 15 = .ok (.ifCond .eq 6, 3) := by decide +kernel
theorem dX5_sure_18 : decode cX5_sure 18 = .ok (.iload 4, 2) := by decide +kernel
theorem dX5_sure_20 : decode cX5_sure 20 = .ok (.ireturn, 1) := by decide +kernel
theorem dX5_sure_21 : decode cX5_sure 21 = .ok (.aload_n 0, 1) := by decide +kernel
theorem dX5_sure_22 : decode cX5_sure 22 = .ok (.getfield 43, 3) := by decide +kernel
theorem dX5_sure_25 : decode cX5_sure 25 = .ok (.aload_n 0, 1) := by decide +kernel
theorem dX5_sure_26 : decode cX5_sure 26 = .ok (.getfield 12, 3) := by decide +kernel
theorem dX5_sure_29 : decode cX5_sure 29 = .ok (.iload_n 3, 1) := by decide +kernel
theorem dX5_sure_30 : decode cX5_sure 30 = .ok (.invokevirtual 148, 3) := by decide +kernel
theorem dX5_sure_33 : decode cX5_sure 33 = .ok (.iconst 0, 1) := by decide +kernel
theorem dX5_sure_34 : decode cX5_sure 34 = .ok (.istore 5, 2) := by decide +kernel
theorem dX5_sure_36 : decode cX5_sure 36 = .ok (.iload 5, 2) := by decide +kernel
theorem dX5_sure_38 : decode cX5_sure 38 = .ok (.bipush 60, 2) := by decide +kernel
theorem dX5_sure_40 : decode cX5_sure 40 = .ok (.if_icmp .ge 34, 3) := by decide +kernel
theorem dX5_sure_43 : decode cX5_sure 43 = .ok (.aload_n 0, 1) := by decide +kernel
theorem dX5_sure_44 : decode cX5_sure 44 = .ok (.getfield 43, 3) := by decide +kernel
theorem dX5_sure_47 : decode cX5_sure 47 = .ok (.aload_n 0, 1) := by decide +kernel
theorem dX5_sure_48 : decode cX5_sure 48 = .ok (.getfield 53, 3) := by decide +kernel
theorem dX5_sure_51 : decode cX5_sure 51 = .ok (.invokevirtual 236, 3) := by decide +kernel
theorem dX5_sure_54 : decode cX5_sure 54 = .ok (.iconst 1, 1) := by decide +kernel
theorem dX5_sure_55 : decode cX5_sure 55 = .ok (.if_icmp .eq 6, 3) := by decide +kernel
theorem dX5_sure_58 : decode cX5_sure 58 = .ok (.iload 5, 2) := by decide +kernel
theorem dX5_sure_60 : decode cX5_sure 60 = .ok (.ireturn, 1) := by decide +kernel
theorem dX5_sure_61 : decode cX5_sure 61 = .ok (.aload_n 0, 1) := by decide +kernel
theorem dX5_sure_62 : decode cX5_sure 62 = .ok (.getfield 43, 3) := by decide +kernel
theorem dX5_sure_65 : decode cX5_sure 65 = .ok (.invokevirtual 240, 3) := by decide +kernel
theorem dX5_sure_68 : decode cX5_sure 68 = .ok (.iinc 5 1, 3) := by decide +kernel
theorem dX5_sure_71 : decode cX5_sure 71 = .ok (.goto (-35), 3) := by decide +kernel
theorem dX5_sure_74 : decode cX5_sure 74 = .ok (.bipush 60, 2) := by decide +kernel
theorem dX5_sure_76 : decode cX5_sure 76 = .ok (.ireturn, 1) := by decide +kernel
theorem dX5_yeses_0 : decode cX5_yeses 0 = .ok (.aload_n 0, 1) := by decide +kernel
theorem dX5_yeses_1 : decode cX5_yeses 1 = .ok (.iload_n 1, 1) := by decide +kernel
theorem dX5_yeses_2 : decode cX5_yeses 2 = .ok (.iload_n 2, 1) := by decide +kernel
theorem dX5_yeses_3 : decode cX5_yeses 3 = .ok (.aload_n 0, 1) := by decide +kernel
theorem dX5_yeses_4 : decode cX5_yeses 4 = .ok (.iload_n 3, 1) := by decide +kernel
theorem dX5_yeses_5 : decode cX5_yeses 5 = .ok (.invokevirtual 122, 3) := by decide +kernel
theorem dX5_yeses_8 : decode cX5_yeses 8 = .ok (.ifCond .eq 17, 3) := by decide +kernel
theorem dX5_yeses_11 : decode cX5_yeses 11 = .ok (.iload 4, 2) := by decide +kernel
theorem dX5_yeses_13 : decode cX5_yeses 13 = .ok (.iconst 0, 1) := by decide +kernel
theorem dX5_yeses_14 : decode cX5_yeses 14 = .ok (.iconst 1, 1) := by decide +kernel
theorem dX5_yeses_15 : decode cX5_yeses 15 = .ok (.invokestatic 82, 3) := by decide +kernel
theorem dX5_yeses_18 : decode cX5_yeses 18 = .ok (.ifCond .eq 7, 3) := by decide +kernel
theorem dX5_yeses_21 : decode cX5_yeses 21 = .ok (.iconst 1, 1) := by decide +kernel
theorem dX5_yeses_22 : decode cX5_yeses 22 = .ok (.goto 4, 3) := by decide +kernel
theorem dX5_yeses_25 : decode cX5_yeses 25 = .ok (.iconst 0, 1) := by decide +kernel
theorem dX5_yeses_26 : decode cX5_yeses 26 = .ok (.invokevirtual 226, 3) := by decide +kernel
theorem dX5_yeses_29 : decode cX5_yeses 29 = .ok (.istore 5, 2) := by decide +kernel
theorem dX5_yeses_31 : decode cX5_yeses 31 = .ok (.iload 5, 2) := by decide +kernel
theorem dX5_yeses_33 : decode cX5_yeses 33 = .ok (.ifCond .eq 6, 3) := by decide +kernel
theorem dX5_yeses_36 : decode cX5_yeses 36 = .ok (.iload 5, 2) := by decide +kernel
theorem dX5_yeses_38 : decode cX5_yeses 38 = .ok (.ireturn, 1) := by decide +kernel
theorem dX5_yeses_39 : decode cX5_yeses 39 = .ok (.aload_n 0, 1) := by decide +kernel
theorem dX5_yeses_40 : decode cX5_yeses 40 = .ok (.iload_n 3, 1) := by decide +kernel
theorem dX5_yeses_41 : decode cX5_yeses 41 = .ok (.invokevirtual 243, 3) := by decide +kernel
theorem dX5_yeses_44 : decode cX5_yeses 44 = .ok (.iload 4, 2) := by decide +kernel
theorem dX5_yeses_46 : decode cX5_yeses 46 = .ok (.invokestatic 247, 3) := by decide +kernel
theorem dX5_yeses_49 : decode cX5_yeses 49 = .ok (.ireturn, 1) := by decide +kernel
theorem dX5_tuned_0 : decode cX5_tuned 0 = .ok (.aload_n 0, 1) := by decide +kernel
theorem dX5_tuned_1 : decode cX5_tuned 1 = .ok (.iload_n 1, 1) := by decide +kernel
theorem dX5_tuned_2 : decode cX5_tuned 2 = .ok (.iload_n 2, 1) := by decide +kernel
theorem dX5_tuned_3 : decode cX5_tuned 3 = .ok (.aload_n 0, 1) := by decide +kernel
theorem dX5_tuned_4 : decode cX5_tuned 4 = .ok (.iload_n 3, 1) := by decide +kernel
theorem dX5_tuned_5 : decode cX5_tuned 5 = .ok (.invokevirtual 122, 3) := by decide +kernel
theorem dX5_tuned_8 : decode cX5_tuned 8 = .ok (.invokevirtual 226, 3) := by decide +kernel
theorem dX5_tuned_11 : decode cX5_tuned 11 = .ok (.istore 4, 2) := by decide +kernel
theorem dX5_tuned_13 : decode cX5_tuned 13 = .ok (.iload 4, 2) := by decide +kernel
theorem dX5_tuned_15 : decode cX5_tuned 15 = .ok (.ifCond .eq 6, 3) := by decide +kernel
theorem dX5_tuned_18 : decode cX5_tuned 18 = .ok (.iload 4, 2) := by decide +kernel
theorem dX5_tuned_20 : decode cX5_tuned 20 = .ok (.ireturn, 1) := by decide +kernel
theorem dX5_tuned_21 : decode cX5_tuned 21 = .ok (.aload_n 0, 1) := by decide +kernel
theorem dX5_tuned_22 : decode cX5_tuned 22 = .ok (.getfield 43, 3) := by decide +kernel
theorem dX5_tuned_25 : decode cX5_tuned 25 = .ok (.aload_n 0, 1) := by decide +kernel
theorem dX5_tuned_26 : decode cX5_tuned 26 = .ok (.getfield 12, 3) := by decide +kernel
theorem dX5_tuned_29 : decode cX5_tuned 29 = .ok (.iload_n 3, 1) := by decide +kernel
theorem dX5_tuned_30 : decode cX5_tuned 30 = .ok (.invokevirtual 148, 3) := by decide +kernel
theorem dX5_tuned_33 : decode cX5_tuned 33 = .ok (.iconst 0, 1) := by decide +kernel
theorem dX5_tuned_34 : decode cX5_tuned 34 = .ok (.istore 5, 2) := by decide +kernel
theorem dX5_tuned_36 : decode cX5_tuned 36 = .ok (.iconst 0, 1) := by decide +kernel
theorem dX5_tuned_37 : decode cX5_tuned 37 = .ok (.istore 6, 2) := by decide +kernel
theorem dX5_tuned_39 : decode cX5_tuned 39 = .ok (.iload 6, 2) := by decide +kernel
theorem dX5_tuned_41 : decode cX5_tuned 41 = .ok (.bipush 20, 2) := by decide +kernel
theorem dX5_tuned_43 : decode cX5_tuned 43 = .ok (.if_icmp .gt 42, 3) := by decide +kernel
theorem dX5_tuned_46 : decode cX5_tuned 46 = .ok (.aload_n 0, 1) := by decide +kernel
theorem dX5_tuned_47 : decode cX5_tuned 47 = .ok (.getfield 43, 3) := by decide +kernel
theorem dX5_tuned_50 : decode cX5_tuned 50 = .ok (.iload 6, 2) := by decide +kernel
theorem dX5_tuned_52 : decode cX5_tuned 52 = .ok (.putfield 251, 3) := by decide +kernel
theorem dX5_tuned_55 : decode cX5_tuned 55 = .ok (.aload_n 0, 1) := by decide +kernel
theorem dX5_tuned_56 : decode cX5_tuned 56 = .ok (.getfield 43, 3) := by decide +kernel
theorem dX5_tuned_59 : decode cX5_tuned 59 = .ok (.aload_n 0, 1) := by decide +kernel
theorem dX5_tuned_60 : decode cX5_tuned 60 = .ok (.getfield 53, 3) := by decide +kernel
theorem dX5_tuned_63 : decode cX5_tuned 63 = .ok (.invokevirtual 236, 3) := by decide +kernel
theorem dX5_tuned_66 : decode cX5_tuned 66 = .ok (.iconst 1, 1) := by decide +kernel
theorem dX5_tuned_67 : decode cX5_tuned 67 = .ok (.if_icmp .ne 12, 3) := by decide +kernel
theorem dX5_tuned_70 : decode cX5_tuned 70 = .ok (.iload 5, 2) := by decide +kernel
theorem dX5_tuned_72 : decode cX5_tuned 72 = .ok (.iconst 1, 1) := by decide +kernel
theorem dX5_tuned_73 : decode cX5_tuned 73 = .ok (.iload 6, 2) := by decide +kernel
theorem dX5_tuned_75 : decode cX5_tuned 75 = .ok (.ishl, 1) := by decide +kernel
theorem dX5_tuned_76 : decode cX5_tuned 76 = .ok (.ior, 1) := by decide +kernel
theorem dX5_tuned_77 : decode cX5_tuned 77 = .ok (.istore 5, 2) := by decide +kernel
theorem dX5_tuned_79 : decode cX5_tuned 79 = .ok (.iinc 6 1, 3) := by decide +kernel
theorem dX5_tuned_82 : decode cX5_tuned 82 = .ok (.goto (-43), 3) := by decide +kernel
theorem dX5_tuned_85 : decode cX5_tuned 85 = .ok (.iload 5, 2) := by decide +kernel
theorem dX5_tuned_87 : decode cX5_tuned 87 = .ok (.ireturn, 1) := by decide +kernel
theorem dX5_ends_0 : decode cX5_ends 0 = .ok (.aload_n 0, 1) := by decide +kernel
theorem dX5_ends_1 : decode cX5_ends 1 = .ok (.iload_n 1, 1) := by decide +kernel
theorem dX5_ends_2 : decode cX5_ends 2 = .ok (.iload_n 2, 1) := by decide +kernel
theorem dX5_ends_3 : decode cX5_ends 3 = .ok (.aload_n 0, 1) := by decide +kernel
theorem dX5_ends_4 : decode cX5_ends 4 = .ok (.iload_n 3, 1) := by decide +kernel
theorem dX5_ends_5 : decode cX5_ends 5 = .ok (.invokevirtual 122, 3) := by decide +kernel
theorem dX5_ends_8 : decode cX5_ends 8 = .ok (.ifCond .eq 13, 3) := by decide +kernel
theorem dX5_ends_11 : decode cX5_ends 11 = .ok (.iload_n 2, 1) := by decide +kernel
theorem dX5_ends_12 : decode cX5_ends 12 = .ok (.bipush 12, 2) := by decide +kernel
theorem dX5_ends_14 : decode cX5_ends 14 = .ok (.if_icmp .ge 7, 3) := by decide +kernel
theorem dX5_ends_17 : decode cX5_ends 17 = .ok (.iconst 1, 1) := by decide +kernel
theorem dX5_ends_18 : decode cX5_ends 18 = .ok (.goto 4, 3) := by decide +kernel
theorem dX5_ends_21 : decode cX5_ends 21 = .ok (.iconst 0, 1) := by decide +kernel
theorem dX5_ends_22 : decode cX5_ends 22 = .ok (.invokevirtual 226, 3) := by decide +kernel
theorem dX5_ends_25 : decode cX5_ends 25 = .ok (.istore 4, 2) := by decide +kernel
theorem dX5_ends_27 : decode cX5_ends 27 = .ok (.iload 4, 2) := by decide +kernel
theorem dX5_ends_29 : decode cX5_ends 29 = .ok (.ifCond .eq 6, 3) := by decide +kernel
theorem dX5_ends_32 : decode cX5_ends 32 = .ok (.iload 4, 2) := by decide +kernel
theorem dX5_ends_34 : decode cX5_ends 34 = .ok (.ireturn, 1) := by decide +kernel
theorem dX5_ends_35 : decode cX5_ends 35 = .ok (.aload_n 0, 1) := by decide +kernel
theorem dX5_ends_36 : decode cX5_ends 36 = .ok (.getfield 43, 3) := by decide +kernel
theorem dX5_ends_39 : decode cX5_ends 39 = .ok (.aload_n 0, 1) := by decide +kernel
theorem dX5_ends_40 : decode cX5_ends 40 = .ok (.getfield 12, 3) := by decide +kernel
theorem dX5_ends_43 : decode cX5_ends 43 = .ok (.iload_n 3, 1) := by decide +kernel
theorem dX5_ends_44 : decode cX5_ends 44 = .ok (.invokevirtual 148, 3) := by decide +kernel
theorem dX5_ends_47 : decode cX5_ends 47 = .ok (.iconst 0, 1) := by decide +kernel
theorem dX5_ends_48 : decode cX5_ends 48 = .ok (.istore 5, 2) := by decide +kernel
theorem dX5_ends_50 : decode cX5_ends 50 = .ok (.iload 5, 2) := by decide +kernel
theorem dX5_ends_52 : decode cX5_ends 52 = .ok (.bipush 40, 2) := by decide +kernel
theorem dX5_ends_54 : decode cX5_ends 54 = .ok (.if_icmp .ge 48, 3) := by decide +kernel
theorem dX5_ends_57 : decode cX5_ends 57 = .ok (.aload_n 0, 1) := by decide +kernel
theorem dX5_ends_58 : decode cX5_ends 58 = .ok (.getfield 57, 3) := by decide +kernel
theorem dX5_ends_61 : decode cX5_ends 61 = .ok (.aload_n 0, 1) := by decide +kernel
theorem dX5_ends_62 : decode cX5_ends 62 = .ok (.getfield 53, 3) := by decide +kernel
theorem dX5_ends_65 : decode cX5_ends 65 = .ok (.iconst (-1), 1) := by decide +kernel
theorem dX5_ends_66 : decode cX5_ends 66 = .ok (.invokevirtual 254, 3) := by decide +kernel
theorem dX5_ends_69 : decode cX5_ends 69 = .ok (.aload_n 0, 1) := by decide +kernel
theorem dX5_ends_70 : decode cX5_ends 70 = .ok (.getfield 57, 3) := by decide +kernel
theorem dX5_ends_73 : decode cX5_ends 73 = .ok (.iload 5, 2) := by decide +kernel
theorem dX5_ends_75 : decode cX5_ends 75 = .ok (.invokevirtual 144, 3) := by decide +kernel
theorem dX5_ends_78 : decode cX5_ends 78 = .ok (.aload_n 0, 1) := by decide +kernel
theorem dX5_ends_79 : decode cX5_ends 79 = .ok (.getfield 43, 3) := by decide +kernel
theorem dX5_ends_82 : decode cX5_ends 82 = .ok (.aload_n 0, 1) := by decide +kernel
theorem dX5_ends_83 : decode cX5_ends 83 = .ok (.getfield 57, 3) := by decide +kernel
theorem dX5_ends_86 : decode cX5_ends 86 = .ok (.invokevirtual 236, 3) := by decide +kernel
theorem dX5_ends_89 : decode cX5_ends 89 = .ok (.iconst 1, 1) := by decide +kernel
theorem dX5_ends_90 : decode cX5_ends 90 = .ok (.if_icmp .ne 6, 3) := by decide +kernel
theorem dX5_ends_93 : decode cX5_ends 93 = .ok (.iload 5, 2) := by decide +kernel
theorem dX5_ends_95 : decode cX5_ends 95 = .ok (.ireturn, 1) := by decide +kernel
theorem dX5_ends_96 : decode cX5_ends 96 = .ok (.iinc 5 1, 3) := by decide +kernel
theorem dX5_ends_99 : decode cX5_ends 99 = .ok (.goto (-49), 3) := by decide +kernel
theorem dX5_ends_102 : decode cX5_ends 102 = .ok (.iconst (-1), 1) := by decide +kernel
theorem dX5_ends_103 : decode cX5_ends 103 = .ok (.ireturn, 1) := by decide +kernel
theorem dX5_less_0 : decode cX5_less 0 = .ok (.aload_n 0, 1) := by decide +kernel
theorem dX5_less_1 : decode cX5_less 1 = .ok (.iload_n 1, 1) := by decide +kernel
theorem dX5_less_2 : decode cX5_less 2 = .ok (.iload_n 2, 1) := by decide +kernel
theorem dX5_less_3 : decode cX5_less 3 = .ok (.aload_n 0, 1) := by decide +kernel
theorem dX5_less_4 : decode cX5_less 4 = .ok (.iload_n 3, 1) := by decide +kernel
theorem dX5_less_5 : decode cX5_less 5 = .ok (.invokevirtual 122, 3) := by decide +kernel
theorem dX5_less_8 : decode cX5_less 8 = .ok (.invokevirtual 226, 3) := by decide +kernel
theorem dX5_less_11 : decode cX5_less 11 = .ok (.istore 4, 2) := by decide +kernel
theorem dX5_less_13 : decode cX5_less 13 = .ok (.iload 4, 2) := by decide +kernel
theorem dX5_less_15 : decode cX5_less 15 = .ok (.ifCond .eq 6, 3) := by decide +kernel
theorem dX5_less_18 : decode cX5_less 18 = .ok (.iload 4, 2) := by decide +kernel
theorem dX5_less_20 : decode cX5_less 20 = .ok (.ireturn, 1) := by decide +kernel
theorem dX5_less_21 : decode cX5_less 21 = .ok (.aload_n 0, 1) := by decide +kernel
theorem dX5_less_22 : decode cX5_less 22 = .ok (.getfield 43, 3) := by decide +kernel
theorem dX5_less_25 : decode cX5_less 25 = .ok (.aload_n 0, 1) := by decide +kernel
theorem dX5_less_26 : decode cX5_less 26 = .ok (.getfield 12, 3) := by decide +kernel
theorem dX5_less_29 : decode cX5_less 29 = .ok (.iload_n 3, 1) := by decide +kernel
theorem dX5_less_30 : decode cX5_less 30 = .ok (.invokevirtual 148, 3) := by decide +kernel
theorem dX5_less_33 : decode cX5_less 33 = .ok (.iconst 0, 1) := by decide +kernel
theorem dX5_less_34 : decode cX5_less 34 = .ok (.istore 5, 2) := by decide +kernel
theorem dX5_less_36 : decode cX5_less 36 = .ok (.iload 5, 2) := by decide +kernel
theorem dX5_less_38 : decode cX5_less 38 = .ok (.iload_n 2, 1) := by decide +kernel
theorem dX5_less_39 : decode cX5_less 39 = .ok (.if_icmp .ge 40, 3) := by decide +kernel
theorem dX5_less_42 : decode cX5_less 42 = .ok (.aload_n 0, 1) := by decide +kernel
theorem dX5_less_43 : decode cX5_less 43 = .ok (.getfield 57, 3) := by decide +kernel
theorem dX5_less_46 : decode cX5_less 46 = .ok (.aload_n 0, 1) := by decide +kernel
theorem dX5_less_47 : decode cX5_less 47 = .ok (.getfield 53, 3) := by decide +kernel
theorem dX5_less_50 : decode cX5_less 50 = .ok (.iload 5, 2) := by decide +kernel
theorem dX5_less_52 : decode cX5_less 52 = .ok (.invokevirtual 254, 3) := by decide +kernel
theorem dX5_less_55 : decode cX5_less 55 = .ok (.aload_n 0, 1) := by decide +kernel
theorem dX5_less_56 : decode cX5_less 56 = .ok (.getfield 43, 3) := by decide +kernel
theorem dX5_less_59 : decode cX5_less 59 = .ok (.aload_n 0, 1) := by decide +kernel
theorem dX5_less_60 : decode cX5_less 60 = .ok (.getfield 57, 3) := by decide +kernel
theorem dX5_less_63 : decode cX5_less 63 = .ok (.invokevirtual 236, 3) := by decide +kernel
theorem dX5_less_66 : decode cX5_less 66 = .ok (.iconst 1, 1) := by decide +kernel
theorem dX5_less_67 : decode cX5_less 67 = .ok (.if_icmp .ne 6, 3) := by decide +kernel
theorem dX5_less_70 : decode cX5_less 70 = .ok (.iload 5, 2) := by decide +kernel
theorem dX5_less_72 : decode cX5_less 72 = .ok (.ireturn, 1) := by decide +kernel
theorem dX5_less_73 : decode cX5_less 73 = .ok (.iinc 5 1, 3) := by decide +kernel
theorem dX5_less_76 : decode cX5_less 76 = .ok (.goto (-40), 3) := by decide +kernel
theorem dX5_less_79 : decode cX5_less 79 = .ok (.iconst (-1), 1) := by decide +kernel
theorem dX5_less_80 : decode cX5_less 80 = .ok (.ireturn, 1) := by decide +kernel
theorem dX5_rains_0 : decode cX5_rains 0 = .ok (.aload_n 0, 1) := by decide +kernel
theorem dX5_rains_1 : decode cX5_rains 1 = .ok (.iload_n 1, 1) := by decide +kernel
theorem dX5_rains_2 : decode cX5_rains 2 = .ok (.iload_n 2, 1) := by decide +kernel
theorem dX5_rains_3 : decode cX5_rains 3 = .ok (.aload_n 0, 1) := by decide +kernel
theorem dX5_rains_4 : decode cX5_rains 4 = .ok (.iload_n 3, 1) := by decide +kernel
theorem dX5_rains_5 : decode cX5_rains 5 = .ok (.invokevirtual 122, 3) := by decide +kernel
theorem dX5_rains_8 : decode cX5_rains 8 = .ok (.ifCond .eq 18, 3) := by decide +kernel
theorem dX5_rains_11 : decode cX5_rains 11 = .ok (.iload 4, 2) := by decide +kernel
theorem dX5_rains_13 : decode cX5_rains 13 = .ok (.iconst 0, 1) := by decide +kernel
theorem dX5_rains_14 : decode cX5_rains 14 = .ok (.bipush 60, 2) := by decide +kernel
theorem dX5_rains_16 : decode cX5_rains 16 = .ok (.invokestatic 82, 3) := by decide +kernel
theorem dX5_rains_19 : decode cX5_rains 19 = .ok (.ifCond .eq 7, 3) := by decide +kernel
theorem dX5_rains_22 : decode cX5_rains 22 = .ok (.iconst 1, 1) := by decide +kernel
theorem dX5_rains_23 : decode cX5_rains 23 = .ok (.goto 4, 3) := by decide +kernel
theorem dX5_rains_26 : decode cX5_rains 26 = .ok (.iconst 0, 1) := by decide +kernel
theorem dX5_rains_27 : decode cX5_rains 27 = .ok (.invokevirtual 226, 3) := by decide +kernel
theorem dX5_rains_30 : decode cX5_rains 30 = .ok (.istore 5, 2) := by decide +kernel
theorem dX5_rains_32 : decode cX5_rains 32 = .ok (.iload 5, 2) := by decide +kernel
theorem dX5_rains_34 : decode cX5_rains 34 = .ok (.ifCond .eq 6, 3) := by decide +kernel
theorem dX5_rains_37 : decode cX5_rains 37 = .ok (.iload 5, 2) := by decide +kernel
theorem dX5_rains_39 : decode cX5_rains 39 = .ok (.ireturn, 1) := by decide +kernel
theorem dX5_rains_40 : decode cX5_rains 40 = .ok (.iconst 0, 1) := by decide +kernel
theorem dX5_rains_41 : decode cX5_rains 41 = .ok (.istore 6, 2) := by decide +kernel
theorem dX5_rains_43 : decode cX5_rains 43 = .ok (.iload 6, 2) := by decide +kernel
theorem dX5_rains_45 : decode cX5_rains 45 = .ok (.bipush 9, 2) := by decide +kernel
theorem dX5_rains_47 : decode cX5_rains 47 = .ok (.if_icmp .gt 57, 3) := by decide +kernel
theorem dX5_rains_50 : decode cX5_rains 50 = .ok (.aload_n 0, 1) := by decide +kernel
theorem dX5_rains_51 : decode cX5_rains 51 = .ok (.getfield 43, 3) := by decide +kernel
theorem dX5_rains_54 : decode cX5_rains 54 = .ok (.aload_n 0, 1) := by decide +kernel
theorem dX5_rains_55 : decode cX5_rains 55 = .ok (.getfield 12, 3) := by decide +kernel
theorem dX5_rains_58 : decode cX5_rains 58 = .ok (.iload_n 3, 1) := by decide +kernel
theorem dX5_rains_59 : decode cX5_rains 59 = .ok (.invokevirtual 148, 3) := by decide +kernel
theorem dX5_rains_62 : decode cX5_rains 62 = .ok (.aload_n 0, 1) := by decide +kernel
theorem dX5_rains_63 : decode cX5_rains 63 = .ok (.getfield 43, 3) := by decide +kernel
theorem dX5_rains_66 : decode cX5_rains 66 = .ok (.iload 6, 2) := by decide +kernel
theorem dX5_rains_68 : decode cX5_rains 68 = .ok (.putfield 258, 3) := by decide +kernel
theorem dX5_rains_71 : decode cX5_rains 71 = .ok (.aload_n 0, 1) := by decide +kernel
theorem dX5_rains_72 : decode cX5_rains 72 = .ok (.getfield 43, 3) := by decide +kernel
theorem dX5_rains_75 : decode cX5_rains 75 = .ok (.iload 4, 2) := by decide +kernel
theorem dX5_rains_77 : decode cX5_rains 77 = .ok (.invokevirtual 259, 3) := by decide +kernel
theorem dX5_rains_80 : decode cX5_rains 80 = .ok (.aload_n 0, 1) := by decide +kernel
theorem dX5_rains_81 : decode cX5_rains 81 = .ok (.getfield 43, 3) := by decide +kernel
theorem dX5_rains_84 : decode cX5_rains 84 = .ok (.aload_n 0, 1) := by decide +kernel
theorem dX5_rains_85 : decode cX5_rains 85 = .ok (.getfield 53, 3) := by decide +kernel
theorem dX5_rains_88 : decode cX5_rains 88 = .ok (.invokevirtual 236, 3) := by decide +kernel
theorem dX5_rains_91 : decode cX5_rains 91 = .ok (.iconst 1, 1) := by decide +kernel
theorem dX5_rains_92 : decode cX5_rains 92 = .ok (.if_icmp .ne 6, 3) := by decide +kernel
theorem dX5_rains_95 : decode cX5_rains 95 = .ok (.iload 6, 2) := by decide +kernel
theorem dX5_rains_97 : decode cX5_rains 97 = .ok (.ireturn, 1) := by decide +kernel
theorem dX5_rains_98 : decode cX5_rains 98 = .ok (.iinc 6 1, 3) := by decide +kernel
theorem dX5_rains_101 : decode cX5_rains 101 = .ok (.goto (-58), 3) := by decide +kernel
theorem dX5_rains_104 : decode cX5_rains 104 = .ok (.iconst (-1), 1) := by decide +kernel
theorem dX5_rains_105 : decode cX5_rains 105 = .ok (.ireturn, 1) := by decide +kernel
theorem dX5_alike_0 : decode cX5_alike 0 = .ok (.aload_n 0, 1) := by decide +kernel
theorem dX5_alike_1 : decode cX5_alike 1 = .ok (.iload_n 1, 1) := by decide +kernel
theorem dX5_alike_2 : decode cX5_alike 2 = .ok (.iload_n 2, 1) := by decide +kernel
theorem dX5_alike_3 : decode cX5_alike 3 = .ok (.aload_n 0, 1) := by decide +kernel
theorem dX5_alike_4 : decode cX5_alike 4 = .ok (.iload_n 3, 1) := by decide +kernel
theorem dX5_alike_5 : decode cX5_alike 5 = .ok (.invokevirtual 122, 3) := by decide +kernel
theorem dX5_alike_8 : decode cX5_alike 8 = .ok (.ifCond .eq 16, 3) := by decide +kernel
theorem dX5_alike_11 : decode cX5_alike 11 = .ok (.aload_n 0, 1) := by decide +kernel
theorem dX5_alike_12 : decode cX5_alike 12 = .ok (.iload 4, 2) := by decide +kernel
theorem dX5_alike_14 : decode cX5_alike 14 = .ok (.invokevirtual 122, 3) := by decide +kernel
theorem dX5_alike_17 : decode cX5_alike 17 = .ok (.ifCond .eq 7, 3) := by decide +kernel
theorem dX5_alike_20 : decode cX5_alike 20 = .ok (.iconst 1, 1) := by decide +kernel
theorem dX5_alike_21 : decode cX5_alike 21 = .ok (.goto 4, 3) := by decide +kernel
theorem dX5_alike_24 : decode cX5_alike 24 = .ok (.iconst 0, 1) := by decide +kernel
theorem dX5_alike_25 : decode cX5_alike 25 = .ok (.invokevirtual 226, 3) := by decide +kernel
theorem dX5_alike_28 : decode cX5_alike 28 = .ok (.istore 5, 2) := by decide +kernel
theorem dX5_alike_30 : decode cX5_alike 30 = .ok (.iload 5, 2) := by decide +kernel
theorem dX5_alike_32 : decode cX5_alike 32 = .ok (.ifCond .eq 6, 3) := by decide +kernel
theorem dX5_alike_35 : decode cX5_alike 35 = .ok (.iload 5, 2) := by decide +kernel
theorem dX5_alike_37 : decode cX5_alike 37 = .ok (.ireturn, 1) := by decide +kernel
theorem dX5_alike_38 : decode cX5_alike 38 = .ok (.aload_n 0, 1) := by decide +kernel
theorem dX5_alike_39 : decode cX5_alike 39 = .ok (.getfield 43, 3) := by decide +kernel
theorem dX5_alike_42 : decode cX5_alike 42 = .ok (.aload_n 0, 1) := by decide +kernel
theorem dX5_alike_43 : decode cX5_alike 43 = .ok (.getfield 12, 3) := by decide +kernel
theorem dX5_alike_46 : decode cX5_alike 46 = .ok (.iload_n 3, 1) := by decide +kernel
theorem dX5_alike_47 : decode cX5_alike 47 = .ok (.invokevirtual 148, 3) := by decide +kernel
theorem dX5_alike_50 : decode cX5_alike 50 = .ok (.aload_n 0, 1) := by decide +kernel
theorem dX5_alike_51 : decode cX5_alike 51 = .ok (.getfield 43, 3) := by decide +kernel
theorem dX5_alike_54 : decode cX5_alike 54 = .ok (.aload_n 0, 1) := by decide +kernel
theorem dX5_alike_55 : decode cX5_alike 55 = .ok (.getfield 53, 3) := by decide +kernel
theorem dX5_alike_58 : decode cX5_alike 58 = .ok (.invokevirtual 152, 3) := by decide +kernel
theorem dX5_alike_61 : decode cX5_alike 61 = .ok (.aload_n 0, 1) := by decide +kernel
theorem dX5_alike_62 : decode cX5_alike 62 = .ok (.getfield 47, 3) := by decide +kernel
theorem dX5_alike_65 : decode cX5_alike 65 = .ok (.aload_n 0, 1) := by decide +kernel
theorem dX5_alike_66 : decode cX5_alike 66 = .ok (.getfield 12, 3) := by decide +kernel
theorem dX5_alike_69 : decode cX5_alike 69 = .ok (.iload 4, 2) := by decide +kernel
theorem dX5_alike_71 : decode cX5_alike 71 = .ok (.invokevirtual 148, 3) := by decide +kernel
theorem dX5_alike_74 : decode cX5_alike 74 = .ok (.aload_n 0, 1) := by decide +kernel
theorem dX5_alike_75 : decode cX5_alike 75 = .ok (.getfield 47, 3) := by decide +kernel
theorem dX5_alike_78 : decode cX5_alike 78 = .ok (.aload_n 0, 1) := by decide +kernel
theorem dX5_alike_79 : decode cX5_alike 79 = .ok (.getfield 53, 3) := by decide +kernel
theorem dX5_alike_82 : decode cX5_alike 82 = .ok (.invokevirtual 152, 3) := by decide +kernel
theorem dX5_alike_85 : decode cX5_alike 85 = .ok (.aload_n 0, 1) := by decide +kernel
theorem dX5_alike_86 : decode cX5_alike 86 = .ok (.getfield 43, 3) := by decide +kernel
theorem dX5_alike_89 : decode cX5_alike 89 = .ok (.aload_n 0, 1) := by decide +kernel
theorem dX5_alike_90 : decode cX5_alike 90 = .ok (.getfield 47, 3) := by decide +kernel
theorem dX5_alike_93 : decode cX5_alike 93 = .ok (.invokevirtual 262, 3) := by decide +kernel
theorem dX5_alike_96 : decode cX5_alike 96 = .ok (.ifCond .eq 7, 3) := by decide +kernel
theorem dX5_alike_99 : decode cX5_alike 99 = .ok (.iconst 1, 1) := by decide +kernel
theorem dX5_alike_100 : decode cX5_alike 100 = .ok (.goto 4, 3) := by decide +kernel
theorem dX5_alike_103 : decode cX5_alike 103 = .ok (.iconst 0, 1) := by decide +kernel
theorem dX5_alike_104 : decode cX5_alike 104 = .ok (.ireturn, 1) := by decide +kernel
theorem dX5_like_0 : decode cX5_like 0 = .ok (.aload_n 0, 1) := by decide +kernel
theorem dX5_like_1 : decode cX5_like 1 = .ok (.iload_n 1, 1) := by decide +kernel
theorem dX5_like_2 : decode cX5_like 2 = .ok (.iload_n 2, 1) := by decide +kernel
theorem dX5_like_3 : decode cX5_like 3 = .ok (.aload_n 0, 1) := by decide +kernel
theorem dX5_like_4 : decode cX5_like 4 = .ok (.iload_n 3, 1) := by decide +kernel
theorem dX5_like_5 : decode cX5_like 5 = .ok (.invokevirtual 122, 3) := by decide +kernel
theorem dX5_like_8 : decode cX5_like 8 = .ok (.invokevirtual 226, 3) := by decide +kernel
theorem dX5_like_11 : decode cX5_like 11 = .ok (.istore 4, 2) := by decide +kernel
theorem dX5_like_13 : decode cX5_like 13 = .ok (.iload 4, 2) := by decide +kernel
theorem dX5_like_15 : decode cX5_like 15 = .ok (.ifCond .eq 6, 3) := by decide +kernel
theorem dX5_like_18 : decode cX5_like 18 = .ok (.iload 4, 2) := by decide +kernel
theorem dX5_like_20 : decode cX5_like 20 = .ok (.ireturn, 1) := by decide +kernel
theorem dX5_like_21 : decode cX5_like 21 = .ok (.aload_n 0, 1) := by decide +kernel
theorem dX5_like_22 : decode cX5_like 22 = .ok (.getfield 43, 3) := by decide +kernel
theorem dX5_like_25 : decode cX5_like 25 = .ok (.aload_n 0, 1) := by decide +kernel
theorem dX5_like_26 : decode cX5_like 26 = .ok (.getfield 12, 3) := by decide +kernel
theorem dX5_like_29 : decode cX5_like 29 = .ok (.iload_n 3, 1) := by decide +kernel
theorem dX5_like_30 : decode cX5_like 30 = .ok (.invokevirtual 148, 3) := by decide +kernel
theorem dX5_like_33 : decode cX5_like 33 = .ok (.aload_n 0, 1) := by decide +kernel
theorem dX5_like_34 : decode cX5_like 34 = .ok (.getfield 43, 3) := by decide +kernel
theorem dX5_like_37 : decode cX5_like 37 = .ok (.aload_n 0, 1) := by decide +kernel
theorem dX5_like_38 : decode cX5_like 38 = .ok (.getfield 53, 3) := by decide +kernel
theorem dX5_like_41 : decode cX5_like 41 = .ok (.invokevirtual 236, 3) := by decide +kernel
theorem dX5_like_44 : decode cX5_like 44 = .ok (.istore 5, 2) := by decide +kernel
theorem dX5_like_46 : decode cX5_like 46 = .ok (.iconst 0, 1) := by decide +kernel
theorem dX5_like_47 : decode cX5_like 47 = .ok (.istore 6, 2) := by decide +kernel
theorem dX5_like_49 : decode cX5_like 49 = .ok (.iconst 0, 1) := by decide +kernel
theorem dX5_like_50 : decode cX5_like 50 = .ok (.istore 7, 2) := by decide +kernel
theorem dX5_like_52 : decode cX5_like 52 = .ok (.iload 7, 2) := by decide +kernel
theorem dX5_like_54 : decode cX5_like 54 = .ok (.aload_n 0, 1) := by decide +kernel
theorem dX5_like_55 : decode cX5_like 55 = .ok (.getfield 12, 3) := by decide +kernel
theorem dX5_like_58 : decode cX5_like 58 = .ok (.getfield 167, 3) := by decide +kernel
theorem dX5_like_61 : decode cX5_like 61 = .ok (.if_icmp .ge 47, 3) := by decide +kernel
theorem dX5_like_64 : decode cX5_like 64 = .ok (.aload_n 0, 1) := by decide +kernel
theorem dX5_like_65 : decode cX5_like 65 = .ok (.getfield 43, 3) := by decide +kernel
theorem dX5_like_68 : decode cX5_like 68 = .ok (.aload_n 0, 1) := by decide +kernel
theorem dX5_like_69 : decode cX5_like 69 = .ok (.getfield 12, 3) := by decide +kernel
theorem dX5_like_72 : decode cX5_like 72 = .ok (.iload 7, 2) := by decide +kernel
theorem dX5_like_74 : decode cX5_like 74 = .ok (.invokevirtual 148, 3) := by decide +kernel
theorem dX5_like_77 : decode cX5_like 77 = .ok (.aload_n 0, 1) := by decide +kernel
theorem dX5_like_78 : decode cX5_like 78 = .ok (.getfield 43, 3) := by decide +kernel
theorem dX5_like_81 : decode cX5_like 81 = .ok (.aload_n 0, 1) := by decide +kernel
theorem dX5_like_82 : decode cX5_like 82 = .ok (.getfield 53, 3) := by decide +kernel
theorem dX5_like_85 : decode cX5_like 85 = .ok (.invokevirtual 236, 3) := by decide +kernel
theorem dX5_like_88 : decode cX5_like 88 = .ok (.iload 5, 2) := by decide +kernel
theorem dX5_like_90 : decode cX5_like 90 = .ok (.if_icmp .ne 12, 3) := by decide +kernel
theorem dX5_like_93 : decode cX5_like 93 = .ok (.iload 6, 2) := by decide +kernel
theorem dX5_like_95 : decode cX5_like 95 = .ok (.iconst 1, 1) := by decide +kernel
theorem dX5_like_96 : decode cX5_like 96 = .ok (.iload 7, 2) := by decide +kernel
theorem dX5_like_98 : decode cX5_like 98 = .ok (.ishl, 1) := by decide +kernel
theorem dX5_like_99 : decode cX5_like 99 = .ok (.ior, 1) := by decide +kernel
theorem dX5_like_100 : decode cX5_like 100 = .ok (.istore 6, 2) := by decide +kernel
theorem dX5_like_102 : decode cX5_like 102 = .ok (.iinc 7 1, 3) := by decide +kernel
theorem dX5_like_105 : decode cX5_like 105 = .ok (.goto (-53), 3) := by decide +kernel
theorem dX5_like_108 : decode cX5_like 108 = .ok (.iload 6, 2) := by decide +kernel
theorem dX5_like_110 : decode cX5_like 110 = .ok (.ireturn, 1) := by decide +kernel
theorem dX5_buckets_0 : decode cX5_buckets 0 = .ok (.aload_n 0, 1) := by decide +kernel
theorem dX5_buckets_1 : decode cX5_buckets 1 = .ok (.iload_n 1, 1) := by decide +kernel
theorem dX5_buckets_2 : decode cX5_buckets 2 = .ok (.iload_n 2, 1) := by decide +kernel
theorem dX5_buckets_3 : decode cX5_buckets 3 = .ok (.aload_n 0, 1) := by decide +kernel
theorem dX5_buckets_4 : decode cX5_buckets 4 = .ok (.iload_n 3, 1) := by decide +kernel
theorem dX5_buckets_5 : decode cX5_buckets 5 = .ok (.invokevirtual 122, 3) := by decide +kernel
theorem dX5_buckets_8 : decode cX5_buckets 8 = .ok (.ifCond .eq 28, 3) := by decide +kernel
theorem dX5_buckets_11 : decode cX5_buckets 11 = .ok (.iload 4, 2) := by decide +kernel
theorem dX5_buckets_13 : decode cX5_buckets 13 = .ok (.iconst 0, 1) := by decide +kernel
theorem dX5_buckets_14 : decode cX5_buckets 14 = .ok (.bipush 8, 2) := by decide +kernel
theorem dX5_buckets_16 : decode cX5_buckets 16 = .ok (.invokestatic 82, 3) := by decide +kernel
theorem dX5_buckets_19 : decode cX5_buckets 19 = .ok (.ifCond .eq 17, 3) := by decide +kernel
theorem dX5_buckets_22 : decode cX5_buckets 22 = .ok (.iload 5, 2) := by decide +kernel
theorem dX5_buckets_24 : decode cX5_buckets 24 = .ok (.iconst 0, 1) := by decide +kernel
theorem dX5_buckets_25 : decode cX5_buckets 25 = .ok (.iconst 1, 1) := by decide +kernel
theorem dX5_buckets_26 : decode cX5_buckets 26 = .ok (.invokestatic 82, 3) := by decide +kernel
theorem dX5_buckets_29 : decode cX5_buckets 29 = .ok (.ifCond .eq 7, 3) := by decide +kernel
theorem dX5_buckets_32 : decode cX5_buckets 32 = .ok (.iconst 1, 1) := by decide +kernel
theorem dX5_buckets_33 : decode cX5_buckets 33 = .ok (.goto 4, 3) := by decide +kernel
theorem dX5_buckets_36 : decode cX5_buckets 36 = .ok (.iconst 0, 1) := by decide +kernel
theorem dX5_buckets_37 : decode cX5_buckets 37 = .ok (.invokevirtual 226, 3) := by decide +kernel
theorem dX5_buckets_40 : decode cX5_buckets 40 = .ok (.istore 6, 2) := by decide +kernel
theorem dX5_buckets_42 : decode cX5_buckets 42 = .ok (.iload 6, 2) := by decide +kernel
theorem dX5_buckets_44 : decode cX5_buckets 44 = .ok (.ifCond .eq 6, 3) := by decide +kernel
theorem dX5_buckets_47 : decode cX5_buckets 47 = .ok (.iload 6, 2) := by decide +kernel
theorem dX5_buckets_49 : decode cX5_buckets 49 = .ok (.ireturn, 1) := by decide +kernel
theorem dX5_buckets_50 : decode cX5_buckets 50 = .ok (.aload_n 0, 1) := by decide +kernel
theorem dX5_buckets_51 : decode cX5_buckets 51 = .ok (.iload_n 3, 1) := by decide +kernel
theorem dX5_buckets_52 : decode cX5_buckets 52 = .ok (.invokevirtual 243, 3) := by decide +kernel
theorem dX5_buckets_55 : decode cX5_buckets 55 = .ok (.lstore 7, 2) := by decide +kernel
theorem dX5_buckets_57 : decode cX5_buckets 57 = .ok (.lconst 0, 1) := by decide +kernel
theorem dX5_buckets_58 : decode cX5_buckets 58 = .ok (.lstore 9, 2) := by decide +kernel
theorem dX5_buckets_60 : decode cX5_buckets 60 = .ok (.iload 4, 2) := by decide +kernel
theorem dX5_buckets_62 : decode cX5_buckets 62 = .ok (.iconst 1, 1) := by decide +kernel
theorem dX5_buckets_63 : decode cX5_buckets 63 = .ok (.isub, 1) := by decide +kernel
theorem dX5_buckets_64 : decode cX5_buckets 64 = .ok (.istore 11, 2) := by decide +kernel
theorem dX5_buckets_66 : decode cX5_buckets 66 = .ok (.iload 11, 2) := by decide +kernel
theorem dX5_buckets_68 : decode cX5_buckets 68 = .ok (.ifCond .lt 32, 3) := by decide +kernel
theorem dX5_buckets_71 : decode cX5_buckets 71 = .ok (.lload 7, 2) := by decide +kernel
theorem dX5_buckets_73 : decode cX5_buckets 73 = .ok (.lstore 9, 2) := by decide +kernel
theorem dX5_buckets_75 : decode cX5_buckets 75 = .ok (.lload 7, 2) := by decide +kernel
theorem dX5_buckets_77 : decode cX5_buckets 77 = .ok (.iload 11, 2) := by decide +kernel
theorem dX5_buckets_79 : decode cX5_buckets 79 = .ok (.iconst 2, 1) := by decide +kernel
theorem dX5_buckets_80 : decode cX5_buckets 80 = .ok (.irem, 1) := by decide +kernel
theorem dX5_buckets_81 : decode cX5_buckets 81 = .ok (.ifCond .ne 7, 3) := by decide +kernel
theorem dX5_buckets_84 : decode cX5_buckets 84 = .ok (.iconst 1, 1) := by decide +kernel
theorem dX5_buckets_85 : decode cX5_buckets 85 = .ok (.goto 4, 3) := by decide +kernel
theorem dX5_buckets_88 : decode cX5_buckets 88 = .ok (.iconst 0, 1) := by decide +kernel
theorem dX5_buckets_89 : decode cX5_buckets 89 = .ok (.invokestatic 266, 3) := by decide +kernel
theorem dX5_buckets_92 : decode cX5_buckets 92 = .ok (.lstore 7, 2) := by decide +kernel
theorem dX5_buckets_94 : decode cX5_buckets 94 = .ok (.iinc 11 (-1), 3) := by decide +kernel
theorem dX5_buckets_97 : decode cX5_buckets 97 = .ok (.goto (-31), 3) := by decide +kernel
theorem dX5_buckets_100 : decode cX5_buckets 100 = .ok (.iload 5, 2) := by decide +kernel
theorem dX5_buckets_102 : decode cX5_buckets 102 = .ok (.ifCond .ne 24, 3) := by decide +kernel
theorem dX5_buckets_105 : decode cX5_buckets 105 = .ok (.lload 7, 2) := by decide +kernel
theorem dX5_buckets_107 : decode cX5_buckets 107 = .ok (.aload_n 0, 1) := by decide +kernel
theorem dX5_buckets_108 : decode cX5_buckets 108 = .ok (.getfield 12, 3) := by decide +kernel
theorem dX5_buckets_111 : decode cX5_buckets 111 = .ok (.getfield 174, 3) := by decide +kernel
theorem dX5_buckets_114 : decode cX5_buckets 114 = .ok (.invokestatic 270, 3) := by decide +kernel
theorem dX5_buckets_117 : decode cX5_buckets 117 = .ok (.ifCond .eq 7, 3) := by decide +kernel
theorem dX5_buckets_120 : decode cX5_buckets 120 = .ok (.iconst 1, 1) := by decide +kernel
theorem dX5_buckets_121 : decode cX5_buckets 121 = .ok (.goto 4, 3) := by decide +kernel
theorem dX5_buckets_124 : decode cX5_buckets 124 = .ok (.iconst 0, 1) := by decide +kernel
theorem dX5_buckets_125 : decode cX5_buckets 125 = .ok (.ireturn, 1) := by decide +kernel
theorem dX5_buckets_126 : decode cX5_buckets 126 = .ok (.aload_n 0, 1) := by decide +kernel
theorem dX5_buckets_127 : decode cX5_buckets 127 = .ok (.lload 9, 2) := by decide +kernel
theorem dX5_buckets_129 : decode cX5_buckets 129 = .ok (.invokevirtual 274, 3) := by decide +kernel
theorem dX5_buckets_132 : decode cX5_buckets 132 = .ok (.ireturn, 1) := by decide +kernel
theorem dX5_odds_0 : decode cX5_odds 0 = .ok (.aload_n 0, 1) := by decide +kernel
theorem dX5_odds_1 : decode cX5_odds 1 = .ok (.iload_n 1, 1) := by decide +kernel
theorem dX5_odds_2 : decode cX5_odds 2 = .ok (.iload_n 2, 1) := by decide +kernel
theorem dX5_odds_3 : decode cX5_odds 3 = .ok (.aload_n 0, 1) := by decide +kernel
theorem dX5_odds_4 : decode cX5_odds 4 = .ok (.iload_n 3, 1) := by decide +kernel
theorem dX5_odds_5 : decode cX5_odds 5 = .ok (.invokevirtual 122, 3) := by decide +kernel
theorem dX5_odds_8 : decode cX5_odds 8 = .ok (.ifCond .eq 27, 3) := by decide +kernel
theorem dX5_odds_11 : decode cX5_odds 11 = .ok (.iload 4, 2) := by decide +kernel
theorem dX5_odds_13 : decode cX5_odds 13 = .ok (.iconst 0, 1) := by decide +kernel
theorem dX5_odds_14 : decode cX5_odds 14 = .ok (.iconst 3, 1) := by decide +kernel
theorem dX5_odds_15 : decode cX5_odds 15 = .ok (.invokestatic 82, 3) := by decide +kernel
theorem dX5_odds_18 : decode cX5_odds 18 = .ok (.ifCond .eq 17, 3) := by decide +kernel
theorem dX5_odds_21 : decode cX5_odds 21 = .ok (.iload 5, 2) := by decide +kernel
theorem dX5_odds_23 : decode cX5_odds 23 = .ok (.iconst 0, 1) := by decide +kernel
theorem dX5_odds_24 : decode cX5_odds 24 = .ok (.iconst 1, 1) := by decide +kernel
theorem dX5_odds_25 : decode cX5_odds 25 = .ok (.invokestatic 82, 3) := by decide +kernel
theorem dX5_odds_28 : decode cX5_odds 28 = .ok (.ifCond .eq 7, 3) := by decide +kernel
theorem dX5_odds_31 : decode cX5_odds 31 = .ok (.iconst 1, 1) := by decide +kernel
theorem dX5_odds_32 : decode cX5_odds 32 = .ok (.goto 4, 3) := by decide +kernel
theorem dX5_odds_35 : decode cX5_odds 35 = .ok (.iconst 0, 1) := by decide +kernel
theorem dX5_odds_36 : decode cX5_odds 36 = .ok (.invokevirtual 226, 3) := by decide +kernel
theorem dX5_odds_39 : decode cX5_odds 39 = .ok (.istore 6, 2) := by decide +kernel
theorem dX5_odds_41 : decode cX5_odds 41 = .ok (.iload 6, 2) := by decide +kernel
theorem dX5_odds_43 : decode cX5_odds 43 = .ok (.ifCond .eq 6, 3) := by decide +kernel
theorem dX5_odds_46 : decode cX5_odds 46 = .ok (.iload 6, 2) := by decide +kernel
theorem dX5_odds_48 : decode cX5_odds 48 = .ok (.ireturn, 1) := by decide +kernel
theorem dX5_odds_49 : decode cX5_odds 49 = .ok (.aload_n 0, 1) := by decide +kernel
theorem dX5_odds_50 : decode cX5_odds 50 = .ok (.getfield 43, 3) := by decide +kernel
theorem dX5_odds_53 : decode cX5_odds 53 = .ok (.aload_n 0, 1) := by decide +kernel
theorem dX5_odds_54 : decode cX5_odds 54 = .ok (.getfield 12, 3) := by decide +kernel
theorem dX5_odds_57 : decode cX5_odds 57 = .ok (.iload_n 3, 1) := by decide +kernel
theorem dX5_odds_58 : decode cX5_odds 58 = .ok (.invokevirtual 148, 3) := by decide +kernel
theorem dX5_odds_61 : decode cX5_odds 61 = .ok (.iload 5, 2) := by decide +kernel
theorem dX5_odds_63 : decode cX5_odds 63 = .ok (.ifCond .ne 9, 3) := by decide +kernel
theorem dX5_odds_66 : decode cX5_odds 66 = .ok (.ldc_w 278, 3) := by decide +kernel
theorem dX5_odds_69 : decode cX5_odds 69 = .ok (.goto 6, 3) := by decide +kernel
theorem dX5_odds_72 : decode cX5_odds 72 = .ok (.sipush 1000, 3) := by decide +kernel
theorem dX5_odds_75 : decode cX5_odds 75 = .ok (.istore 7, 2) := by decide +kernel
theorem dX5_odds_77 : decode cX5_odds 77 = .ok (.iconst 0, 1) := by decide +kernel
theorem dX5_odds_78 : decode cX5_odds 78 = .ok (.istore 8, 2) := by decide +kernel
theorem dX5_odds_80 : decode cX5_odds 80 = .ok (.iload 8, 2) := by decide +kernel
theorem dX5_odds_82 : decode cX5_odds 82 = .ok (.bipush 40, 2) := by decide +kernel
theorem dX5_odds_84 : decode cX5_odds 84 = .ok (.if_icmp .gt 33, 3) := by decide +kernel
theorem dX5_odds_87 : decode cX5_odds 87 = .ok (.aload_n 0, 1) := by decide +kernel
theorem dX5_odds_88 : decode cX5_odds 88 = .ok (.getfield 69, 3) := by decide +kernel
theorem dX5_odds_91 : decode cX5_odds 91 = .ok (.iload 8, 2) := by decide +kernel
theorem dX5_odds_93 : decode cX5_odds 93 = .ok (.iload 8, 2) := by decide +kernel
theorem dX5_odds_95 : decode cX5_odds 95 = .ok (.aload_n 0, 1) := by decide +kernel
theorem dX5_odds_96 : decode cX5_odds 96 = .ok (.getfield 12, 3) := by decide +kernel
theorem dX5_odds_99 : decode cX5_odds 99 = .ok (.getfield 174, 3) := by decide +kernel
theorem dX5_odds_102 : decode cX5_odds 102 = .ok (.if_icmp .ne 7, 3) := by decide +kernel
theorem dX5_odds_105 : decode cX5_odds 105 = .ok (.iconst 1, 1) := by decide +kernel
theorem dX5_odds_106 : decode cX5_odds 106 = .ok (.goto 4, 3) := by decide +kernel
theorem dX5_odds_109 : decode cX5_odds 109 = .ok (.iconst 0, 1) := by decide +kernel
theorem dX5_odds_110 : decode cX5_odds 110 = .ok (.iastore, 1) := by decide +kernel
theorem dX5_odds_111 : decode cX5_odds 111 = .ok (.iinc 8 1, 3) := by decide +kernel
theorem dX5_odds_114 : decode cX5_odds 114 = .ok (.goto (-34), 3) := by decide +kernel
theorem dX5_odds_117 : decode cX5_odds 117 = .ok (.iconst 0, 1) := by decide +kernel
theorem dX5_odds_118 : decode cX5_odds 118 = .ok (.istore 8, 2) := by decide +kernel
theorem dX5_odds_120 : decode cX5_odds 120 = .ok (.iload 8, 2) := by decide +kernel
theorem dX5_odds_122 : decode cX5_odds 122 = .ok (.iload 4, 2) := by decide +kernel
theorem dX5_odds_124 : decode cX5_odds 124 = .ok (.if_icmp .ge 27, 3) := by decide +kernel
theorem dX5_odds_127 : decode cX5_odds 127 = .ok (.aload_n 0, 1) := by decide +kernel
theorem dX5_odds_128 : decode cX5_odds 128 = .ok (.invokevirtual 279, 3) := by decide +kernel
theorem dX5_odds_131 : decode cX5_odds 131 = .ok (.aload_n 0, 1) := by decide +kernel
theorem dX5_odds_132 : decode cX5_odds 132 = .ok (.getfield 43, 3) := by decide +kernel
theorem dX5_odds_135 : decode cX5_odds 135 = .ok (.invokevirtual 240, 3) := by decide +kernel
theorem dX5_odds_138 : decode cX5_odds 138 = .ok (.iload 7, 2) := by decide +kernel
theorem dX5_odds_140 : decode cX5_odds 140 = .ok (.bipush 10, 2) := by decide +kernel
theorem dX5_odds_142 : decode cX5_odds 142 = .ok (.idiv, 1) := by decide +kernel
theorem dX5_odds_143 : decode cX5_odds 143 = .ok (.istore 7, 2) := by decide +kernel
theorem dX5_odds_145 : decode cX5_odds 145 = .ok (.iinc 8 1, 3) := by decide +kernel
theorem dX5_odds_148 : decode cX5_odds 148 = .ok (.goto (-28), 3) := by decide +kernel
theorem dX5_odds_151 : decode cX5_odds 151 = .ok (.iload 7, 2) := by decide +kernel
theorem dX5_odds_153 : decode cX5_odds 153 = .ok (.iload 5, 2) := by decide +kernel
theorem dX5_odds_155 : decode cX5_odds 155 = .ok (.ifCond .ne 10, 3) := by decide +kernel
theorem dX5_odds_158 : decode cX5_odds 158 = .ok (.aload_n 0, 1) := by decide +kernel
theorem dX5_odds_159 : decode cX5_odds 159 = .ok (.invokevirtual 282, 3) := by decide +kernel
theorem dX5_odds_162 : decode cX5_odds 162 = .ok (.goto 7, 3) := by decide +kernel
theorem dX5_odds_165 : decode cX5_odds 165 = .ok (.aload_n 0, 1) := by decide +kernel
theorem dX5_odds_166 : decode cX5_odds 166 = .ok (.invokevirtual 285, 3) := by decide +kernel
theorem dX5_odds_169 : decode cX5_odds 169 = .ok (.imul, 1) := by decide +kernel
theorem dX5_odds_170 : decode cX5_odds 170 = .ok (.ireturn, 1) := by decide +kernel
theorem dX5_heard_0 : decode cX5_heard 0 = .ok (.aload_n 0, 1) := by decide +kernel
theorem dX5_heard_1 : decode cX5_heard 1 = .ok (.iload_n 1, 1) := by decide +kernel
theorem dX5_heard_2 : decode cX5_heard 2 = .ok (.iload_n 2, 1) := by decide +kernel
theorem dX5_heard_3 : decode cX5_heard 3 = .ok (.iconst 1, 1) := by decide +kernel
theorem dX5_heard_4 : decode cX5_heard 4 = .ok (.invokevirtual 226, 3) := by decide +kernel
theorem dX5_heard_7 : decode cX5_heard 7 = .ok (.istore_n 3, 1) := by decide +kernel
theorem dX5_heard_8 : decode cX5_heard 8 = .ok (.iload_n 3, 1) := by decide +kernel
theorem dX5_heard_9 : decode cX5_heard 9 = .ok (.ifCond .eq 5, 3) := by decide +kernel
theorem dX5_heard_12 : decode cX5_heard 12 = .ok (.iload_n 3, 1) := by decide +kernel
theorem dX5_heard_13 : decode cX5_heard 13 = .ok (.ireturn, 1) := by decide +kernel
theorem dX5_heard_14 : decode cX5_heard 14 = .ok (.aload_n 0, 1) := by decide +kernel
theorem dX5_heard_15 : decode cX5_heard 15 = .ok (.aload_n 0, 1) := by decide +kernel
theorem dX5_heard_16 : decode cX5_heard 16 = .ok (.getfield 12, 3) := by decide +kernel
theorem dX5_heard_19 : decode cX5_heard 19 = .ok (.getfield 174, 3) := by decide +kernel
theorem dX5_heard_22 : decode cX5_heard 22 = .ok (.aload_n 0, 1) := by decide +kernel
theorem dX5_heard_23 : decode cX5_heard 23 = .ok (.getfield 12, 3) := by decide +kernel
theorem dX5_heard_26 : decode cX5_heard 26 = .ok (.getfield 183, 3) := by decide +kernel
theorem dX5_heard_29 : decode cX5_heard 29 = .ok (.invokevirtual 288, 3) := by decide +kernel
theorem dX5_heard_32 : decode cX5_heard 32 = .ok (.ireturn, 1) := by decide +kernel
theorem dX5_mute_0 : decode cX5_mute 0 = .ok (.aload_n 0, 1) := by decide +kernel
theorem dX5_mute_1 : decode cX5_mute 1 = .ok (.iload_n 1, 1) := by decide +kernel
theorem dX5_mute_2 : decode cX5_mute 2 = .ok (.iload_n 2, 1) := by decide +kernel
theorem dX5_mute_3 : decode cX5_mute 3 = .ok (.iconst 1, 1) := by decide +kernel
theorem dX5_mute_4 : decode cX5_mute 4 = .ok (.invokevirtual 226, 3) := by decide +kernel
theorem dX5_mute_7 : decode cX5_mute 7 = .ok (.istore_n 3, 1) := by decide +kernel
theorem dX5_mute_8 : decode cX5_mute 8 = .ok (.iload_n 3, 1) := by decide +kernel
theorem dX5_mute_9 : decode cX5_mute 9 = .ok (.ifCond .eq 5, 3) := by decide +kernel
theorem dX5_mute_12 : decode cX5_mute 12 = .ok (.iload_n 3, 1) := by decide +kernel
theorem dX5_mute_13 : decode cX5_mute 13 = .ok (.ireturn, 1) := by decide +kernel
theorem dX5_mute_14 : decode cX5_mute 14 = .ok (.iconst 0, 1) := by decide +kernel
theorem dX5_mute_15 : decode cX5_mute 15 = .ok (.istore 4, 2) := by decide +kernel
theorem dX5_mute_17 : decode cX5_mute 17 = .ok (.iconst 0, 1) := by decide +kernel
theorem dX5_mute_18 : decode cX5_mute 18 = .ok (.istore 5, 2) := by decide +kernel
theorem dX5_mute_20 : decode cX5_mute 20 = .ok (.iload 5, 2) := by decide +kernel
theorem dX5_mute_22 : decode cX5_mute 22 = .ok (.aload_n 0, 1) := by decide +kernel
theorem dX5_mute_23 : decode cX5_mute 23 = .ok (.getfield 12, 3) := by decide +kernel
theorem dX5_mute_26 : decode cX5_mute 26 = .ok (.getfield 167, 3) := by decide +kernel
theorem dX5_mute_29 : decode cX5_mute 29 = .ok (.if_icmp .ge 46, 3) := by decide +kernel
theorem dX5_mute_32 : decode cX5_mute 32 = .ok (.aload_n 0, 1) := by decide +kernel
theorem dX5_mute_33 : decode cX5_mute 33 = .ok (.getfield 43, 3) := by decide +kernel
theorem dX5_mute_36 : decode cX5_mute 36 = .ok (.aload_n 0, 1) := by decide +kernel
theorem dX5_mute_37 : decode cX5_mute 37 = .ok (.getfield 12, 3) := by decide +kernel
theorem dX5_mute_40 : decode cX5_mute 40 = .ok (.iload 5, 2) := by decide +kernel
theorem dX5_mute_42 : decode cX5_mute 42 = .ok (.invokevirtual 148, 3) := by decide +kernel
theorem dX5_mute_45 : decode cX5_mute 45 = .ok (.aload_n 0, 1) := by decide +kernel
theorem dX5_mute_46 : decode cX5_mute 46 = .ok (.getfield 43, 3) := by decide +kernel
theorem dX5_mute_49 : decode cX5_mute 49 = .ok (.aload_n 0, 1) := by decide +kernel
theorem dX5_mute_50 : decode cX5_mute 50 = .ok (.getfield 53, 3) := by decide +kernel
theorem dX5_mute_53 : decode cX5_mute 53 = .ok (.invokevirtual 236, 3) := by decide +kernel
theorem dX5_mute_56 : decode cX5_mute 56 = .ok (.iconst (-1), 1) := by decide +kernel
theorem dX5_mute_57 : decode cX5_mute 57 = .ok (.if_icmp .ne 12, 3) := by decide +kernel
theorem dX5_mute_60 : decode cX5_mute 60 = .ok (.iload 4, 2) := by decide +kernel
theorem dX5_mute_62 : decode cX5_mute 62 = .ok (.iconst 1, 1) := by decide +kernel
theorem dX5_mute_63 : decode cX5_mute 63 = .ok (.iload 5, 2) := by decide +kernel
theorem dX5_mute_65 : decode cX5_mute 65 = .ok (.ishl, 1) := by decide +kernel
theorem dX5_mute_66 : decode cX5_mute 66 = .ok (.ior, 1) := by decide +kernel
theorem dX5_mute_67 : decode cX5_mute 67 = .ok (.istore 4, 2) := by decide +kernel
theorem dX5_mute_69 : decode cX5_mute 69 = .ok (.iinc 5 1, 3) := by decide +kernel
theorem dX5_mute_72 : decode cX5_mute 72 = .ok (.goto (-52), 3) := by decide +kernel
theorem dX5_mute_75 : decode cX5_mute 75 = .ok (.iload 4, 2) := by decide +kernel
theorem dX5_mute_77 : decode cX5_mute 77 = .ok (.ireturn, 1) := by decide +kernel
theorem dX5_suits_0 : decode cX5_suits 0 = .ok (.aload_n 0, 1) := by decide +kernel
theorem dX5_suits_1 : decode cX5_suits 1 = .ok (.iload_n 1, 1) := by decide +kernel
theorem dX5_suits_2 : decode cX5_suits 2 = .ok (.iload_n 2, 1) := by decide +kernel
theorem dX5_suits_3 : decode cX5_suits 3 = .ok (.iload_n 3, 1) := by decide +kernel
theorem dX5_suits_4 : decode cX5_suits 4 = .ok (.iconst (-1), 1) := by decide +kernel
theorem dX5_suits_5 : decode cX5_suits 5 = .ok (.if_icmp .lt 7, 3) := by decide +kernel
theorem dX5_suits_8 : decode cX5_suits 8 = .ok (.iconst 1, 1) := by decide +kernel
theorem dX5_suits_9 : decode cX5_suits 9 = .ok (.goto 4, 3) := by decide +kernel
theorem dX5_suits_12 : decode cX5_suits 12 = .ok (.iconst 0, 1) := by decide +kernel
theorem dX5_suits_13 : decode cX5_suits 13 = .ok (.invokevirtual 226, 3) := by decide +kernel
theorem dX5_suits_16 : decode cX5_suits 16 = .ok (.istore 4, 2) := by decide +kernel
theorem dX5_suits_18 : decode cX5_suits 18 = .ok (.iload 4, 2) := by decide +kernel
theorem dX5_suits_20 : decode cX5_suits 20 = .ok (.ifCond .eq 6, 3) := by decide +kernel
theorem dX5_suits_23 : decode cX5_suits 23 = .ok (.iload 4, 2) := by decide +kernel
theorem dX5_suits_25 : decode cX5_suits 25 = .ok (.ireturn, 1) := by decide +kernel
theorem dX5_suits_26 : decode cX5_suits 26 = .ok (.iload_n 3, 1) := by decide +kernel
theorem dX5_suits_27 : decode cX5_suits 27 = .ok (.aload_n 0, 1) := by decide +kernel
theorem dX5_suits_28 : decode cX5_suits 28 = .ok (.getfield 12, 3) := by decide +kernel
theorem dX5_suits_31 : decode cX5_suits 31 = .ok (.getfield 167, 3) := by decide +kernel
theorem dX5_suits_34 : decode cX5_suits 34 = .ok (.if_icmp .lt 10, 3) := by decide +kernel
theorem dX5_suits_37 : decode cX5_suits 37 = .ok (.aload_n 0, 1) := by decide +kernel
theorem dX5_suits_38 : decode cX5_suits 38 = .ok (.bipush (-5), 2) := by decide +kernel
theorem dX5_suits_40 : decode cX5_suits 40 = .ok (.invokevirtual 86, 3) := by decide +kernel
theorem dX5_suits_43 : decode cX5_suits 43 = .ok (.ireturn, 1) := by decide +kernel
theorem dX5_suits_44 : decode cX5_suits 44 = .ok (.iconst 0, 1) := by decide +kernel
theorem dX5_suits_45 : decode cX5_suits 45 = .ok (.istore 5, 2) := by decide +kernel
theorem dX5_suits_47 : decode cX5_suits 47 = .ok (.iload 5, 2) := by decide +kernel
theorem dX5_suits_49 : decode cX5_suits 49 = .ok (.bipush 8, 2) := by decide +kernel
theorem dX5_suits_51 : decode cX5_suits 51 = .ok (.if_icmp .ge 42, 3) := by decide +kernel
theorem dX5_suits_54 : decode cX5_suits 54 = .ok (.aload_n 0, 1) := by decide +kernel
theorem dX5_suits_55 : decode cX5_suits 55 = .ok (.getfield 60, 3) := by decide +kernel
theorem dX5_suits_58 : decode cX5_suits 58 = .ok (.iload 5, 2) := by decide +kernel
theorem dX5_suits_60 : decode cX5_suits 60 = .ok (.aload_n 0, 1) := by decide +kernel
theorem dX5_suits_61 : decode cX5_suits 61 = .ok (.bipush 40, 2) := by decide +kernel
theorem dX5_suits_63 : decode cX5_suits 63 = .ok (.aload_n 0, 1) := by decide +kernel
theorem dX5_suits_64 : decode cX5_suits 64 = .ok (.getfield 12, 3) := by decide +kernel
theorem dX5_suits_67 : decode cX5_suits 67 = .ok (.getfield 174, 3) := by decide +kernel
theorem dX5_suits_70 : decode cX5_suits 70 = .ok (.iload 5, 2) := by decide +kernel
theorem dX5_suits_72 : decode cX5_suits 72 = .ok (.iadd, 1) := by decide +kernel
theorem dX5_suits_73 : decode cX5_suits 73 = .ok (.invokestatic 292, 3) := by decide +kernel
theorem dX5_suits_76 : decode cX5_suits 76 = .ok (.aload_n 0, 1) := by decide +kernel
theorem dX5_suits_77 : decode cX5_suits 77 = .ok (.getfield 12, 3) := by decide +kernel
theorem dX5_suits_80 : decode cX5_suits 80 = .ok (.getfield 183, 3) := by decide +kernel
theorem dX5_suits_83 : decode cX5_suits 83 = .ok (.invokevirtual 288, 3) := by decide +kernel
theorem dX5_suits_86 : decode cX5_suits 86 = .ok (.iastore, 1) := by decide +kernel
theorem dX5_suits_87 : decode cX5_suits 87 = .ok (.iinc 5 1, 3) := by decide +kernel
theorem dX5_suits_90 : decode cX5_suits 90 = .ok (.goto (-43), 3) := by decide +kernel
theorem dX5_suits_93 : decode cX5_suits 93 = .ok (.aload_n 0, 1) := by decide +kernel
theorem dX5_suits_94 : decode cX5_suits 94 = .ok (.invokevirtual 297, 3) := by decide +kernel
theorem dX5_suits_97 : decode cX5_suits 97 = .ok (.iload_n 3, 1) := by decide +kernel
theorem dX5_suits_98 : decode cX5_suits 98 = .ok (.iconst (-1), 1) := by decide +kernel
theorem dX5_suits_99 : decode cX5_suits 99 = .ok (.if_icmp .ne 12, 3) := by decide +kernel
theorem dX5_suits_102 : decode cX5_suits 102 = .ok (.aload_n 0, 1) := by decide +kernel
theorem dX5_suits_103 : decode cX5_suits 103 = .ok (.getfield 63, 3) := by decide +kernel
theorem dX5_suits_106 : decode cX5_suits 106 = .ok (.iconst 0, 1) := by decide +kernel
theorem dX5_suits_107 : decode cX5_suits 107 = .ok (.iaload, 1) := by decide +kernel
theorem dX5_suits_108 : decode cX5_suits 108 = .ok (.goto 8, 3) := by decide +kernel
theorem dX5_suits_111 : decode cX5_suits 111 = .ok (.aload_n 0, 1) := by decide +kernel
theorem dX5_suits_112 : decode cX5_suits 112 = .ok (.iload_n 3, 1) := by decide +kernel
theorem dX5_suits_113 : decode cX5_suits 113 = .ok (.invokevirtual 300, 3) := by decide +kernel
theorem dX5_suits_116 : decode cX5_suits 116 = .ok (.ireturn, 1) := by decide +kernel
theorem dX5_fairest_0 : decode cX5_fairest 0 = .ok (.aload_n 0, 1) := by decide +kernel
theorem dX5_fairest_1 : decode cX5_fairest 1 = .ok (.iload_n 1, 1) := by decide +kernel
theorem dX5_fairest_2 : decode cX5_fairest 2 = .ok (.iload_n 2, 1) := by decide +kernel
theorem dX5_fairest_3 : decode cX5_fairest 3 = .ok (.iconst 1, 1) := by decide +kernel
theorem dX5_fairest_4 : decode cX5_fairest 4 = .ok (.invokevirtual 226, 3) := by decide +kernel
theorem dX5_fairest_7 : decode cX5_fairest 7 = .ok (.istore_n 3, 1) := by decide +kernel
theorem dX5_fairest_8 : decode cX5_fairest 8 = .ok (.iload_n 3, 1) := by decide +kernel
theorem dX5_fairest_9 : decode cX5_fairest 9 = .ok (.ifCond .eq 5, 3) := by decide +kernel
theorem dX5_fairest_12 : decode cX5_fairest 12 = .ok (.iload_n 3, 1) := by decide +kernel
theorem dX5_fairest_13 : decode cX5_fairest 13 = .ok (.ireturn, 1) := by decide +kernel
theorem dX5_fairest_14 : decode cX5_fairest 14 = .ok (.iconst (-1), 1) := by decide +kernel
theorem dX5_fairest_15 : decode cX5_fairest 15 = .ok (.istore 4, 2) := by decide +kernel
theorem dX5_fairest_17 : decode cX5_fairest 17 = .ok (.iconst (-1), 1) := by decide +kernel
theorem dX5_fairest_18 : decode cX5_fairest 18 = .ok (.istore 5, 2) := by decide +kernel
theorem dX5_fairest_20 : decode cX5_fairest 20 = .ok (.iconst 2, 1) := by decide +kernel
theorem dX5_fairest_21 : decode cX5_fairest 21 = .ok (.aload_n 0, 1) := by decide +kernel
theorem dX5_fairest_22 : decode cX5_fairest 22 = .ok (.getfield 12, 3) := by decide +kernel
theorem dX5_fairest_25 : decode cX5_fairest 25 = .ok (.getfield 186, 3) := by decide +kernel
theorem dX5_fairest_28 : decode cX5_fairest 28 = .ok (.iconst 1, 1) := by decide +kernel
theorem dX5_fairest_29 : decode cX5_fairest 29 = .ok (.iadd, 1) := by decide +kernel
theorem dX5_fairest_30 : decode cX5_fairest 30 = .ok (.invokestatic 303, 3) := by decide +kernel
theorem dX5_fairest_33 : decode cX5_fairest 33 = .ok (.istore 6, 2) := by decide +kernel
theorem dX5_fairest_35 : decode cX5_fairest 35 = .ok (.iload 6, 2) := by decide +kernel
theorem dX5_fairest_37 : decode cX5_fairest 37 = .ok (.bipush 9, 2) := by decide +kernel
theorem dX5_fairest_39 : decode cX5_fairest 39 = .ok (.if_icmp .gt 42, 3) := by decide +kernel
theorem dX5_fairest_42 : decode cX5_fairest 42 = .ok (.aload_n 0, 1) := by decide +kernel
theorem dX5_fairest_43 : decode cX5_fairest 43 = .ok (.aload_n 0, 1) := by decide +kernel
theorem dX5_fairest_44 : decode cX5_fairest 44 = .ok (.getfield 12, 3) := by decide +kernel
theorem dX5_fairest_47 : decode cX5_fairest 47 = .ok (.getfield 174, 3) := by decide +kernel
theorem dX5_fairest_50 : decode cX5_fairest 50 = .ok (.iload 6, 2) := by decide +kernel
theorem dX5_fairest_52 : decode cX5_fairest 52 = .ok (.invokevirtual 288, 3) := by decide +kernel
theorem dX5_fairest_55 : decode cX5_fairest 55 = .ok (.invokestatic 306, 3) := by decide +kernel
theorem dX5_fairest_58 : decode cX5_fairest 58 = .ok (.istore 7, 2) := by decide +kernel
theorem dX5_fairest_60 : decode cX5_fairest 60 = .ok (.iload 7, 2) := by decide +kernel
theorem dX5_fairest_62 : decode cX5_fairest 62 = .ok (.iload 5, 2) := by decide +kernel
theorem dX5_fairest_64 : decode cX5_fairest 64 = .ok (.if_icmp .le 11, 3) := by decide +kernel
theorem dX5_fairest_67 : decode cX5_fairest 67 = .ok (.iload 7, 2) := by decide +kernel
theorem dX5_fairest_69 : decode cX5_fairest 69 = .ok (.istore 5, 2) := by decide +kernel
theorem dX5_fairest_71 : decode cX5_fairest 71 = .ok (.iload 6, 2) := by decide +kernel
theorem dX5_fairest_73 : decode cX5_fairest 73 = .ok (.istore 4, 2) := by decide +kernel
theorem dX5_fairest_75 : decode cX5_fairest 75 = .ok (.iinc 6 1, 3) := by decide +kernel
theorem dX5_fairest_78 : decode cX5_fairest 78 = .ok (.goto (-43), 3) := by decide +kernel
theorem dX5_fairest_81 : decode cX5_fairest 81 = .ok (.iload 4, 2) := by decide +kernel
theorem dX5_fairest_83 : decode cX5_fairest 83 = .ok (.ireturn, 1) := by decide +kernel
theorem dX5_best_0 : decode cX5_best 0 = .ok (.aload_n 0, 1) := by decide +kernel
theorem dX5_best_1 : decode cX5_best 1 = .ok (.iload_n 1, 1) := by decide +kernel
theorem dX5_best_2 : decode cX5_best 2 = .ok (.iload_n 2, 1) := by decide +kernel
theorem dX5_best_3 : decode cX5_best 3 = .ok (.iload_n 3, 1) := by decide +kernel
theorem dX5_best_4 : decode cX5_best 4 = .ok (.iconst 0, 1) := by decide +kernel
theorem dX5_best_5 : decode cX5_best 5 = .ok (.iconst 1, 1) := by decide +kernel
theorem dX5_best_6 : decode cX5_best 6 = .ok (.invokestatic 82, 3) := by decide +kernel
theorem dX5_best_9 : decode cX5_best 9 = .ok (.invokevirtual 226, 3) := by decide +kernel
theorem dX5_best_12 : decode cX5_best 12 = .ok (.istore 4, 2) := by decide +kernel
theorem dX5_best_14 : decode cX5_best 14 = .ok (.iload 4, 2) := by decide +kernel
theorem dX5_best_16 : decode cX5_best 16 = .ok (.ifCond .eq 6, 3) := by decide +kernel
theorem dX5_best_19 : decode cX5_best 19 = .ok (.iload 4, 2) := by decide +kernel
theorem dX5_best_21 : decode cX5_best 21 = .ok (.ireturn, 1) := by decide +kernel
theorem dX5_best_22 : decode cX5_best 22 = .ok (.iconst (-1), 1) := by decide +kernel
theorem dX5_best_23 : decode cX5_best 23 = .ok (.istore 5, 2) := by decide +kernel
theorem dX5_best_25 : decode cX5_best 25 = .ok (.iconst (-1), 1) := by decide +kernel
theorem dX5_best_26 : decode cX5_best 26 = .ok (.istore 6, 2) := by decide +kernel
theorem dX5_best_28 : decode cX5_best 28 = .ok (.iconst 0, 1) := by decide +kernel
theorem dX5_best_29 : decode cX5_best 29 = .ok (.istore 7, 2) := by decide +kernel
theorem dX5_best_31 : decode cX5_best 31 = .ok (.iload 7, 2) := by decide +kernel
theorem dX5_best_33 : decode cX5_best 33 = .ok (.bipush 40, 2) := by decide +kernel
theorem dX5_best_35 : decode cX5_best 35 = .ok (.if_icmp .gt 42, 3) := by decide +kernel
theorem dX5_best_38 : decode cX5_best 38 = .ok (.aload_n 0, 1) := by decide +kernel
theorem dX5_best_39 : decode cX5_best 39 = .ok (.iload 7, 2) := by decide +kernel
theorem dX5_best_41 : decode cX5_best 41 = .ok (.aload_n 0, 1) := by decide +kernel
theorem dX5_best_42 : decode cX5_best 42 = .ok (.getfield 12, 3) := by decide +kernel
theorem dX5_best_45 : decode cX5_best 45 = .ok (.getfield 183, 3) := by decide +kernel
theorem dX5_best_48 : decode cX5_best 48 = .ok (.invokevirtual 288, 3) := by decide +kernel
theorem dX5_best_51 : decode cX5_best 51 = .ok (.invokestatic 306, 3) := by decide +kernel
theorem dX5_best_54 : decode cX5_best 54 = .ok (.istore 8, 2) := by decide +kernel
theorem dX5_best_56 : decode cX5_best 56 = .ok (.iload 8, 2) := by decide +kernel
theorem dX5_best_58 : decode cX5_best 58 = .ok (.iload 6, 2) := by decide +kernel
theorem dX5_best_60 : decode cX5_best 60 = .ok (.if_icmp .le 11, 3) := by decide +kernel
theorem dX5_best_63 : decode cX5_best 63 = .ok (.iload 8, 2) := by decide +kernel
theorem dX5_best_65 : decode cX5_best 65 = .ok (.istore 6, 2) := by decide +kernel
theorem dX5_best_67 : decode cX5_best 67 = .ok (.iload 7, 2) := by decide +kernel
theorem dX5_best_69 : decode cX5_best 69 = .ok (.istore 5, 2) := by decide +kernel
theorem dX5_best_71 : decode cX5_best 71 = .ok (.iinc 7 1, 3) := by decide +kernel
theorem dX5_best_74 : decode cX5_best 74 = .ok (.goto (-43), 3) := by decide +kernel
theorem dX5_best_77 : decode cX5_best 77 = .ok (.iload_n 3, 1) := by decide +kernel
theorem dX5_best_78 : decode cX5_best 78 = .ok (.ifCond .ne 8, 3) := by decide +kernel
theorem dX5_best_81 : decode cX5_best 81 = .ok (.iload 5, 2) := by decide +kernel
theorem dX5_best_83 : decode cX5_best 83 = .ok (.goto 5, 3) := by decide +kernel
theorem dX5_best_86 : decode cX5_best 86 = .ok (.iload 6, 2) := by decide +kernel
theorem dX5_best_88 : decode cX5_best 88 = .ok (.ireturn, 1) := by decide +kernel
theorem dX5_depths_0 : decode cX5_depths 0 = .ok (.aload_n 0, 1) := by decide +kernel
theorem dX5_depths_1 : decode cX5_depths 1 = .ok (.iload_n 1, 1) := by decide +kernel
theorem dX5_depths_2 : decode cX5_depths 2 = .ok (.iload_n 2, 1) := by decide +kernel
theorem dX5_depths_3 : decode cX5_depths 3 = .ok (.iload_n 3, 1) := by decide +kernel
theorem dX5_depths_4 : decode cX5_depths 4 = .ok (.iload 4, 2) := by decide +kernel
theorem dX5_depths_6 : decode cX5_depths 6 = .ok (.aload_n 0, 1) := by decide +kernel
theorem dX5_depths_7 : decode cX5_depths 7 = .ok (.iload 5, 2) := by decide +kernel
theorem dX5_depths_9 : decode cX5_depths 9 = .ok (.invokevirtual 122, 3) := by decide +kernel
theorem dX5_depths_12 : decode cX5_depths 12 = .ok (.ifCond .eq 25, 3) := by decide +kernel
theorem dX5_depths_15 : decode cX5_depths 15 = .ok (.iload 4, 2) := by decide +kernel
theorem dX5_depths_17 : decode cX5_depths 17 = .ok (.invokestatic 311, 3) := by decide +kernel
theorem dX5_depths_20 : decode cX5_depths 20 = .ok (.ifCond .eq 17, 3) := by decide +kernel
theorem dX5_depths_23 : decode cX5_depths 23 = .ok (.iload 6, 2) := by decide +kernel
theorem dX5_depths_25 : decode cX5_depths 25 = .ok (.iconst 0, 1) := by decide +kernel
theorem dX5_depths_26 : decode cX5_depths 26 = .ok (.iconst 2, 1) := by decide +kernel
theorem dX5_depths_27 : decode cX5_depths 27 = .ok (.invokestatic 82, 3) := by decide +kernel
theorem dX5_depths_30 : decode cX5_depths 30 = .ok (.ifCond .eq 7, 3) := by decide +kernel
theorem dX5_depths_33 : decode cX5_depths 33 = .ok (.iconst 1, 1) := by decide +kernel
theorem dX5_depths_34 : decode cX5_depths 34 = .ok (.goto 4, 3) := by decide +kernel
theorem dX5_depths_37 : decode cX5_depths 37 = .ok (.iconst 0, 1) := by decide +kernel
theorem dX5_depths_38 : decode cX5_depths 38 = .ok (.invokevirtual 314, 3) := by decide +kernel
theorem dX5_depths_41 : decode cX5_depths 41 = .ok (.istore 7, 2) := by decide +kernel
theorem dX5_depths_43 : decode cX5_depths 43 = .ok (.iload 7, 2) := by decide +kernel
theorem dX5_depths_45 : decode cX5_depths 45 = .ok (.ifCond .eq 6, 3) := by decide +kernel
theorem dX5_depths_48 : decode cX5_depths 48 = .ok (.iload 7, 2) := by decide +kernel
theorem dX5_depths_50 : decode cX5_depths 50 = .ok (.ireturn, 1) := by decide +kernel
theorem dX5_depths_51 : decode cX5_depths 51 = .ok (.aload_n 0, 1) := by decide +kernel
theorem dX5_depths_52 : decode cX5_depths 52 = .ok (.iload 5, 2) := by decide +kernel
theorem dX5_depths_54 : decode cX5_depths 54 = .ok (.iload_n 3, 1) := by decide +kernel
theorem dX5_depths_55 : decode cX5_depths 55 = .ok (.iload 4, 2) := by decide +kernel
theorem dX5_depths_57 : decode cX5_depths 57 = .ok (.invokevirtual 318, 3) := by decide +kernel
theorem dX5_depths_60 : decode cX5_depths 60 = .ok (.iload 6, 2) := by decide +kernel
theorem dX5_depths_62 : decode cX5_depths 62 = .ok (.invokestatic 247, 3) := by decide +kernel
theorem dX5_depths_65 : decode cX5_depths 65 = .ok (.ireturn, 1) := by decide +kernel
theorem dX5_fits_0 : decode cX5_fits 0 = .ok (.aload_n 0, 1) := by decide +kernel
theorem dX5_fits_1 : decode cX5_fits 1 = .ok (.iload_n 1, 1) := by decide +kernel
theorem dX5_fits_2 : decode cX5_fits 2 = .ok (.iload_n 2, 1) := by decide +kernel
theorem dX5_fits_3 : decode cX5_fits 3 = .ok (.iload_n 3, 1) := by decide +kernel
theorem dX5_fits_4 : decode cX5_fits 4 = .ok (.iload 4, 2) := by decide +kernel
theorem dX5_fits_6 : decode cX5_fits 6 = .ok (.aload_n 0, 1) := by decide +kernel
theorem dX5_fits_7 : decode cX5_fits 7 = .ok (.iload 5, 2) := by decide +kernel
theorem dX5_fits_9 : decode cX5_fits 9 = .ok (.invokevirtual 122, 3) := by decide +kernel
theorem dX5_fits_12 : decode cX5_fits 12 = .ok (.ifCond .eq 25, 3) := by decide +kernel
theorem dX5_fits_15 : decode cX5_fits 15 = .ok (.iload 4, 2) := by decide +kernel
theorem dX5_fits_17 : decode cX5_fits 17 = .ok (.invokestatic 311, 3) := by decide +kernel
theorem dX5_fits_20 : decode cX5_fits 20 = .ok (.ifCond .eq 17, 3) := by decide +kernel
theorem dX5_fits_23 : decode cX5_fits 23 = .ok (.iload 6, 2) := by decide +kernel
theorem dX5_fits_25 : decode cX5_fits 25 = .ok (.iconst 0, 1) := by decide +kernel
theorem dX5_fits_26 : decode cX5_fits 26 = .ok (.iconst 1, 1) := by decide +kernel
theorem dX5_fits_27 : decode cX5_fits 27 = .ok (.invokestatic 82, 3) := by decide +kernel
theorem dX5_fits_30 : decode cX5_fits 30 = .ok (.ifCond .eq 7, 3) := by decide +kernel
theorem dX5_fits_33 : decode cX5_fits 33 = .ok (.iconst 1, 1) := by decide +kernel
theorem dX5_fits_34 : decode cX5_fits 34 = .ok (.goto 4, 3) := by decide +kernel
theorem dX5_fits_37 : decode cX5_fits 37 = .ok (.iconst 0, 1) := by decide +kernel
theorem dX5_fits_38 : decode cX5_fits 38 = .ok (.invokevirtual 314, 3) := by decide +kernel
theorem dX5_fits_41 : decode cX5_fits 41 = .ok (.istore 7, 2) := by decide +kernel
theorem dX5_fits_43 : decode cX5_fits 43 = .ok (.iload 7, 2) := by decide +kernel
theorem dX5_fits_45 : decode cX5_fits 45 = .ok (.ifCond .eq 6, 3) := by decide +kernel
theorem dX5_fits_48 : decode cX5_fits 48 = .ok (.iload 7, 2) := by decide +kernel
theorem dX5_fits_50 : decode cX5_fits 50 = .ok (.ireturn, 1) := by decide +kernel
theorem dX5_fits_51 : decode cX5_fits 51 = .ok (.iload 6, 2) := by decide +kernel
theorem dX5_fits_53 : decode cX5_fits 53 = .ok (.ifCond .ne 15, 3) := by decide +kernel
theorem dX5_fits_56 : decode cX5_fits 56 = .ok (.aload_n 0, 1) := by decide +kernel
theorem dX5_fits_57 : decode cX5_fits 57 = .ok (.iload 5, 2) := by decide +kernel
theorem dX5_fits_59 : decode cX5_fits 59 = .ok (.iload_n 3, 1) := by decide +kernel
theorem dX5_fits_60 : decode cX5_fits 60 = .ok (.iload 4, 2) := by decide +kernel
theorem dX5_fits_62 : decode cX5_fits 62 = .ok (.invokevirtual 322, 3) := by decide +kernel
theorem dX5_fits_65 : decode cX5_fits 65 = .ok (.goto 12, 3) := by decide +kernel
theorem dX5_fits_68 : decode cX5_fits 68 = .ok (.aload_n 0, 1) := by decide +kernel
theorem dX5_fits_69 : decode cX5_fits 69 = .ok (.iload 5, 2) := by decide +kernel
theorem dX5_fits_71 : decode cX5_fits 71 = .ok (.iload_n 3, 1) := by decide +kernel
theorem dX5_fits_72 : decode cX5_fits 72 = .ok (.iload 4, 2) := by decide +kernel
theorem dX5_fits_74 : decode cX5_fits 74 = .ok (.invokevirtual 326, 3) := by decide +kernel
theorem dX5_fits_77 : decode cX5_fits 77 = .ok (.ireturn, 1) := by decide +kernel
theorem dX5_below_0 : decode cX5_below 0 = .ok (.aload_n 0, 1) := by decide +kernel
theorem dX5_below_1 : decode cX5_below 1 = .ok (.iload_n 1, 1) := by decide +kernel
theorem dX5_below_2 : decode cX5_below 2 = .ok (.iload_n 2, 1) := by decide +kernel
theorem dX5_below_3 : decode cX5_below 3 = .ok (.iload_n 3, 1) := by decide +kernel
theorem dX5_below_4 : decode cX5_below 4 = .ok (.iload 4, 2) := by decide +kernel
theorem dX5_below_6 : decode cX5_below 6 = .ok (.aload_n 0, 1) := by decide +kernel
theorem dX5_below_7 : decode cX5_below 7 = .ok (.iload 5, 2) := by decide +kernel
theorem dX5_below_9 : decode cX5_below 9 = .ok (.invokevirtual 122, 3) := by decide +kernel
theorem dX5_below_12 : decode cX5_below 12 = .ok (.ifCond .eq 15, 3) := by decide +kernel
theorem dX5_below_15 : decode cX5_below 15 = .ok (.iload 4, 2) := by decide +kernel
theorem dX5_below_17 : decode cX5_below 17 = .ok (.invokestatic 311, 3) := by decide +kernel
theorem dX5_below_20 : decode cX5_below 20 = .ok (.ifCond .eq 7, 3) := by decide +kernel
theorem dX5_below_23 : decode cX5_below 23 = .ok (.iconst 1, 1) := by decide +kernel
theorem dX5_below_24 : decode cX5_below 24 = .ok (.goto 4, 3) := by decide +kernel
theorem dX5_below_27 : decode cX5_below 27 = .ok (.iconst 0, 1) := by decide +kernel
theorem dX5_below_28 : decode cX5_below 28 = .ok (.invokevirtual 314, 3) := by decide +kernel
theorem dX5_below_31 : decode cX5_below 31 = .ok (.istore 6, 2) := by decide +kernel
theorem dX5_below_33 : decode cX5_below 33 = .ok (.iload 6, 2) := by decide +kernel
theorem dX5_below_35 : decode cX5_below 35 = .ok (.ifCond .eq 6, 3) := by decide +kernel
theorem dX5_below_38 : decode cX5_below 38 = .ok (.iload 6, 2) := by decide +kernel
theorem dX5_below_40 : decode cX5_below 40 = .ok (.ireturn, 1) := by decide +kernel
theorem dX5_below_41 : decode cX5_below 41 = .ok (.aload_n 0, 1) := by decide +kernel
theorem dX5_below_42 : decode cX5_below 42 = .ok (.iload 5, 2) := by decide +kernel
theorem dX5_below_44 : decode cX5_below 44 = .ok (.iload_n 3, 1) := by decide +kernel
theorem dX5_below_45 : decode cX5_below 45 = .ok (.iload 4, 2) := by decide +kernel
theorem dX5_below_47 : decode cX5_below 47 = .ok (.invokevirtual 318, 3) := by decide +kernel
theorem dX5_below_50 : decode cX5_below 50 = .ok (.lconst 0, 1) := by decide +kernel
theorem dX5_below_51 : decode cX5_below 51 = .ok (.lcmp, 1) := by decide +kernel
theorem dX5_below_52 : decode cX5_below 52 = .ok (.ifCond .ne 7, 3) := by decide +kernel
theorem dX5_below_55 : decode cX5_below 55 = .ok (.iconst 1, 1) := by decide +kernel
theorem dX5_below_56 : decode cX5_below 56 = .ok (.goto 4, 3) := by decide +kernel
theorem dX5_below_59 : decode cX5_below 59 = .ok (.iconst 0, 1) := by decide +kernel
theorem dX5_below_60 : decode cX5_below 60 = .ok (.ireturn, 1) := by decide +kernel
theorem dX5_next_0 : decode cX5_next 0 = .ok (.aload_n 0, 1) := by decide +kernel
theorem dX5_next_1 : decode cX5_next 1 = .ok (.iload_n 1, 1) := by decide +kernel
theorem dX5_next_2 : decode cX5_next 2 = .ok (.iload_n 2, 1) := by decide +kernel
theorem dX5_next_3 : decode cX5_next 3 = .ok (.iload_n 3, 1) := by decide +kernel
theorem dX5_next_4 : decode cX5_next 4 = .ok (.iload 4, 2) := by decide +kernel
theorem dX5_next_6 : decode cX5_next 6 = .ok (.aload_n 0, 1) := by decide +kernel
theorem dX5_next_7 : decode cX5_next 7 = .ok (.iload 5, 2) := by decide +kernel
theorem dX5_next_9 : decode cX5_next 9 = .ok (.invokevirtual 122, 3) := by decide +kernel
theorem dX5_next_12 : decode cX5_next 12 = .ok (.ifCond .eq 15, 3) := by decide +kernel
theorem dX5_next_15 : decode cX5_next 15 = .ok (.iload 4, 2) := by decide +kernel
theorem dX5_next_17 : decode cX5_next 17 = .ok (.invokestatic 311, 3) := by decide +kernel
theorem dX5_next_20 : decode cX5_next 20 = .ok (.ifCond .eq 7, 3) := by decide +kernel
theorem dX5_next_23 : decode cX5_next 23 = .ok (.iconst 1, 1) := by decide +kernel
theorem dX5_next_24 : decode cX5_next 24 = .ok (.goto 4, 3) := by decide +kernel
theorem dX5_next_27 : decode cX5_next 27 = .ok (.iconst 0, 1) := by decide +kernel
theorem dX5_next_28 : decode cX5_next 28 = .ok (.invokevirtual 314, 3) := by decide +kernel
theorem dX5_next_31 : decode cX5_next 31 = .ok (.istore 6, 2) := by decide +kernel
theorem dX5_next_33 : decode cX5_next 33 = .ok (.iload 6, 2) := by decide +kernel
theorem dX5_next_35 : decode cX5_next 35 = .ok (.ifCond .eq 6, 3) := by decide +kernel
theorem dX5_next_38 : decode cX5_next 38 = .ok (.iload 6, 2) := by decide +kernel
theorem dX5_next_40 : decode cX5_next 40 = .ok (.ireturn, 1) := by decide +kernel
theorem dX5_next_41 : decode cX5_next 41 = .ok (.aload_n 0, 1) := by decide +kernel
theorem dX5_next_42 : decode cX5_next 42 = .ok (.iload 5, 2) := by decide +kernel
theorem dX5_next_44 : decode cX5_next 44 = .ok (.iload_n 3, 1) := by decide +kernel
theorem dX5_next_45 : decode cX5_next 45 = .ok (.iload 4, 2) := by decide +kernel
theorem dX5_next_47 : decode cX5_next 47 = .ok (.invokevirtual 318, 3) := by decide +kernel
theorem dX5_next_50 : decode cX5_next 50 = .ok (.lstore 7, 2) := by decide +kernel
theorem dX5_next_52 : decode cX5_next 52 = .ok (.lload 7, 2) := by decide +kernel
theorem dX5_next_54 : decode cX5_next 54 = .ok (.invokestatic 329, 3) := by decide +kernel
theorem dX5_next_57 : decode cX5_next 57 = .ok (.iconst 2, 1) := by decide +kernel
theorem dX5_next_58 : decode cX5_next 58 = .ok (.if_icmp .ge 5, 3) := by decide +kernel
theorem dX5_next_61 : decode cX5_next 61 = .ok (.iconst (-1), 1) := by decide +kernel
theorem dX5_next_62 : decode cX5_next 62 = .ok (.ireturn, 1) := by decide +kernel
theorem dX5_next_63 : decode cX5_next 63 = .ok (.iconst (-1), 1) := by decide +kernel
theorem dX5_next_64 : decode cX5_next 64 = .ok (.istore 9, 2) := by decide +kernel
theorem dX5_next_66 : decode cX5_next 66 = .ok (.bipush 42, 2) := by decide +kernel
theorem dX5_next_68 : decode cX5_next 68 = .ok (.istore 10, 2) := by decide +kernel
theorem dX5_next_70 : decode cX5_next 70 = .ok (.iconst 0, 1) := by decide +kernel
theorem dX5_next_71 : decode cX5_next 71 = .ok (.istore 11, 2) := by decide +kernel
theorem dX5_next_73 : decode cX5_next 73 = .ok (.iload 11, 2) := by decide +kernel
theorem dX5_next_75 : decode cX5_next 75 = .ok (.bipush 40, 2) := by decide +kernel
theorem dX5_next_77 : decode cX5_next 77 = .ok (.if_icmp .ge 34, 3) := by decide +kernel
theorem dX5_next_80 : decode cX5_next 80 = .ok (.aload_n 0, 1) := by decide +kernel
theorem dX5_next_81 : decode cX5_next 81 = .ok (.iload 11, 2) := by decide +kernel
theorem dX5_next_83 : decode cX5_next 83 = .ok (.lload 7, 2) := by decide +kernel
theorem dX5_next_85 : decode cX5_next 85 = .ok (.invokevirtual 333, 3) := by decide +kernel
theorem dX5_next_88 : decode cX5_next 88 = .ok (.istore 12, 2) := by decide +kernel
theorem dX5_next_90 : decode cX5_next 90 = .ok (.iload 12, 2) := by decide +kernel
theorem dX5_next_92 : decode cX5_next 92 = .ok (.iload 10, 2) := by decide +kernel
theorem dX5_next_94 : decode cX5_next 94 = .ok (.if_icmp .ge 11, 3) := by decide +kernel
theorem dX5_next_97 : decode cX5_next 97 = .ok (.iload 12, 2) := by decide +kernel
theorem dX5_next_99 : decode cX5_next 99 = .ok (.istore 10, 2) := by decide +kernel
theorem dX5_next_101 : decode cX5_next 101 = .ok (.iload 11, 2) := by decide +kernel
theorem dX5_next_103 : decode cX5_next 103 = .ok (.istore 9, 2) := by decide +kernel
theorem dX5_next_105 : decode cX5_next 105 = .ok (.iinc 11 1, 3) := by decide +kernel
theorem dX5_next_108 : decode cX5_next 108 = .ok (.goto (-35), 3) := by decide +kernel
theorem dX5_next_111 : decode cX5_next 111 = .ok (.iload 9, 2) := by decide +kernel
theorem dX5_next_113 : decode cX5_next 113 = .ok (.ireturn, 1) := by decide +kernel
theorem dX5_judge_0 : decode cX5_judge 0 = .ok (.aload_n 0, 1) := by decide +kernel
theorem dX5_judge_1 : decode cX5_judge 1 = .ok (.iload_n 1, 1) := by decide +kernel
theorem dX5_judge_2 : decode cX5_judge 2 = .ok (.iload_n 2, 1) := by decide +kernel
theorem dX5_judge_3 : decode cX5_judge 3 = .ok (.iload_n 3, 1) := by decide +kernel
theorem dX5_judge_4 : decode cX5_judge 4 = .ok (.iconst 2, 1) := by decide +kernel
theorem dX5_judge_5 : decode cX5_judge 5 = .ok (.iload 4, 2) := by decide +kernel
theorem dX5_judge_7 : decode cX5_judge 7 = .ok (.imul, 1) := by decide +kernel
theorem dX5_judge_8 : decode cX5_judge 8 = .ok (.iload 4, 2) := by decide +kernel
theorem dX5_judge_10 : decode cX5_judge 10 = .ok (.iconst 0, 1) := by decide +kernel
theorem dX5_judge_11 : decode cX5_judge 11 = .ok (.bipush 20, 2) := by decide +kernel
theorem dX5_judge_13 : decode cX5_judge 13 = .ok (.invokestatic 82, 3) := by decide +kernel
theorem dX5_judge_16 : decode cX5_judge 16 = .ok (.invokevirtual 314, 3) := by decide +kernel
theorem dX5_judge_19 : decode cX5_judge 19 = .ok (.istore 5, 2) := by decide +kernel
theorem dX5_judge_21 : decode cX5_judge 21 = .ok (.iload 5, 2) := by decide +kernel
theorem dX5_judge_23 : decode cX5_judge 23 = .ok (.ifCond .eq 6, 3) := by decide +kernel
theorem dX5_judge_26 : decode cX5_judge 26 = .ok (.iload 5, 2) := by decide +kernel
theorem dX5_judge_28 : decode cX5_judge 28 = .ok (.ireturn, 1) := by decide +kernel
theorem dX5_judge_29 : decode cX5_judge 29 = .ok (.iconst 0, 1) := by decide +kernel
theorem dX5_judge_30 : decode cX5_judge 30 = .ok (.istore 6, 2) := by decide +kernel
theorem dX5_judge_32 : decode cX5_judge 32 = .ok (.iload 6, 2) := by decide +kernel
theorem dX5_judge_34 : decode cX5_judge 34 = .ok (.iload 4, 2) := by decide +kernel
theorem dX5_judge_36 : decode cX5_judge 36 = .ok (.if_icmp .ge 22, 3) := by decide +kernel
theorem dX5_judge_39 : decode cX5_judge 39 = .ok (.aload_n 0, 1) := by decide +kernel
theorem dX5_judge_40 : decode cX5_judge 40 = .ok (.iload_n 3, 1) := by decide +kernel
theorem dX5_judge_41 : decode cX5_judge 41 = .ok (.iload 6, 2) := by decide +kernel
theorem dX5_judge_43 : decode cX5_judge 43 = .ok (.invokevirtual 337, 3) := by decide +kernel
theorem dX5_judge_46 : decode cX5_judge 46 = .ok (.ifCond .ne 6, 3) := by decide +kernel
theorem dX5_judge_49 : decode cX5_judge 49 = .ok (.iload 6, 2) := by decide +kernel
theorem dX5_judge_51 : decode cX5_judge 51 = .ok (.ireturn, 1) := by decide +kernel
theorem dX5_judge_52 : decode cX5_judge 52 = .ok (.iinc 6 1, 3) := by decide +kernel
theorem dX5_judge_55 : decode cX5_judge 55 = .ok (.goto (-23), 3) := by decide +kernel
theorem dX5_judge_58 : decode cX5_judge 58 = .ok (.iconst (-1), 1) := by decide +kernel
theorem dX5_judge_59 : decode cX5_judge 59 = .ok (.ireturn, 1) := by decide +kernel
theorem dX5_ahead_0 : decode cX5_ahead 0 = .ok (.iload_n 1, 1) := by decide +kernel
theorem dX5_ahead_1 : decode cX5_ahead 1 = .ok (.iconst 0, 1) := by decide +kernel
theorem dX5_ahead_2 : decode cX5_ahead 2 = .ok (.sipush 200, 3) := by decide +kernel
theorem dX5_ahead_5 : decode cX5_ahead 5 = .ok (.invokestatic 82, 3) := by decide +kernel
theorem dX5_ahead_8 : decode cX5_ahead 8 = .ok (.ifCond .ne 10, 3) := by decide +kernel
theorem dX5_ahead_11 : decode cX5_ahead 11 = .ok (.aload_n 0, 1) := by decide +kernel
theorem dX5_ahead_12 : decode cX5_ahead 12 = .ok (.bipush (-2), 2) := by decide +kernel
theorem dX5_ahead_14 : decode cX5_ahead 14 = .ok (.invokevirtual 86, 3) := by decide +kernel
theorem dX5_ahead_17 : decode cX5_ahead 17 = .ok (.ireturn, 1) := by decide +kernel
theorem dX5_ahead_18 : decode cX5_ahead 18 = .ok (.aload_n 0, 1) := by decide +kernel
theorem dX5_ahead_19 : decode cX5_ahead 19 = .ok (.getfield 12, 3) := by decide +kernel
theorem dX5_ahead_22 : decode cX5_ahead 22 = .ok (.getfield 174, 3) := by decide +kernel
theorem dX5_ahead_25 : decode cX5_ahead 25 = .ok (.istore_n 2, 1) := by decide +kernel
theorem dX5_ahead_26 : decode cX5_ahead 26 = .ok (.iconst 0, 1) := by decide +kernel
theorem dX5_ahead_27 : decode cX5_ahead 27 = .ok (.istore_n 3, 1) := by decide +kernel
theorem dX5_ahead_28 : decode cX5_ahead 28 = .ok (.iload_n 3, 1) := by decide +kernel
theorem dX5_ahead_29 : decode cX5_ahead 29 = .ok (.iload_n 1, 1) := by decide +kernel
theorem dX5_ahead_30 : decode cX5_ahead 30 = .ok (.if_icmp .ge 21, 3) := by decide +kernel
theorem dX5_ahead_33 : decode cX5_ahead 33 = .ok (.iload_n 2, 1) := by decide +kernel
theorem dX5_ahead_34 : decode cX5_ahead 34 = .ok (.aload_n 0, 1) := by decide +kernel
theorem dX5_ahead_35 : decode cX5_ahead 35 = .ok (.getfield 12, 3) := by decide +kernel
theorem dX5_ahead_38 : decode cX5_ahead 38 = .ok (.getfield 177, 3) := by decide +kernel
theorem dX5_ahead_41 : decode cX5_ahead 41 = .ok (.invokestatic 340, 3) := by decide +kernel
theorem dX5_ahead_44 : decode cX5_ahead 44 = .ok (.istore_n 2, 1) := by decide +kernel
theorem dX5_ahead_45 : decode cX5_ahead 45 = .ok (.iinc 3 1, 3) := by decide +kernel
theorem dX5_ahead_48 : decode cX5_ahead 48 = .ok (.goto (-20), 3) := by decide +kernel
theorem dX5_ahead_51 : decode cX5_ahead 51 = .ok (.iload_n 2, 1) := by decide +kernel
theorem dX5_ahead_52 : decode cX5_ahead 52 = .ok (.ireturn, 1) := by decide +kernel
theorem dX5_sinks_0 : decode cX5_sinks 0 = .ok (.iload_n 1, 1) := by decide +kernel
theorem dX5_sinks_1 : decode cX5_sinks 1 = .ok (.iconst 0, 1) := by decide +kernel
theorem dX5_sinks_2 : decode cX5_sinks 2 = .ok (.bipush 40, 2) := by decide +kernel
theorem dX5_sinks_4 : decode cX5_sinks 4 = .ok (.invokestatic 82, 3) := by decide +kernel
theorem dX5_sinks_7 : decode cX5_sinks 7 = .ok (.ifCond .ne 10, 3) := by decide +kernel
theorem dX5_sinks_10 : decode cX5_sinks 10 = .ok (.aload_n 0, 1) := by decide +kernel
theorem dX5_sinks_11 : decode cX5_sinks 11 = .ok (.bipush (-2), 2) := by decide +kernel
theorem dX5_sinks_13 : decode cX5_sinks 13 = .ok (.invokevirtual 86, 3) := by decide +kernel
theorem dX5_sinks_16 : decode cX5_sinks 16 = .ok (.ireturn, 1) := by decide +kernel
theorem dX5_sinks_17 : decode cX5_sinks 17 = .ok (.aload_n 0, 1) := by decide +kernel
theorem dX5_sinks_18 : decode cX5_sinks 18 = .ok (.getfield 12, 3) := by decide +kernel
theorem dX5_sinks_21 : decode cX5_sinks 21 = .ok (.getfield 174, 3) := by decide +kernel
theorem dX5_sinks_24 : decode cX5_sinks 24 = .ok (.istore_n 2, 1) := by decide +kernel
theorem dX5_sinks_25 : decode cX5_sinks 25 = .ok (.iconst 0, 1) := by decide +kernel
theorem dX5_sinks_26 : decode cX5_sinks 26 = .ok (.istore_n 3, 1) := by decide +kernel
theorem dX5_sinks_27 : decode cX5_sinks 27 = .ok (.iload_n 3, 1) := by decide +kernel
theorem dX5_sinks_28 : decode cX5_sinks 28 = .ok (.sipush 200, 3) := by decide +kernel
theorem dX5_sinks_31 : decode cX5_sinks 31 = .ok (.if_icmp .gt 28, 3) := by decide +kernel
theorem dX5_sinks_34 : decode cX5_sinks 34 = .ok (.iload_n 2, 1) := by decide +kernel
theorem dX5_sinks_35 : decode cX5_sinks 35 = .ok (.iload_n 1, 1) := by decide +kernel
theorem dX5_sinks_36 : decode cX5_sinks 36 = .ok (.if_icmp .lt 5, 3) := by decide +kernel
theorem dX5_sinks_39 : decode cX5_sinks 39 = .ok (.iload_n 3, 1) := by decide +kernel
theorem dX5_sinks_40 : decode cX5_sinks 40 = .ok (.ireturn, 1) := by decide +kernel
theorem dX5_sinks_41 : decode cX5_sinks 41 = .ok (.iload_n 2, 1) := by decide +kernel
theorem dX5_sinks_42 : decode cX5_sinks 42 = .ok (.aload_n 0, 1) := by decide +kernel
theorem dX5_sinks_43 : decode cX5_sinks 43 = .ok (.getfield 12, 3) := by decide +kernel
theorem dX5_sinks_46 : decode cX5_sinks 46 = .ok (.getfield 177, 3) := by decide +kernel
theorem dX5_sinks_49 : decode cX5_sinks 49 = .ok (.invokestatic 340, 3) := by decide +kernel
theorem dX5_sinks_52 : decode cX5_sinks 52 = .ok (.istore_n 2, 1) := by decide +kernel
theorem dX5_sinks_53 : decode cX5_sinks 53 = .ok (.iinc 3 1, 3) := by decide +kernel
theorem dX5_sinks_56 : decode cX5_sinks 56 = .ok (.goto (-29), 3) := by decide +kernel
theorem dX5_sinks_59 : decode cX5_sinks 59 = .ok (.iconst (-1), 1) := by decide +kernel
theorem dX5_sinks_60 : decode cX5_sinks 60 = .ok (.ireturn, 1) := by decide +kernel
theorem dX5_shout_0 : decode cX5_shout 0 = .ok (.aload_n 0, 1) := by decide +kernel
theorem dX5_shout_1 : decode cX5_shout 1 = .ok (.iload_n 1, 1) := by decide +kernel
theorem dX5_shout_2 : decode cX5_shout 2 = .ok (.iload_n 2, 1) := by decide +kernel
theorem dX5_shout_3 : decode cX5_shout 3 = .ok (.aload_n 0, 1) := by decide +kernel
theorem dX5_shout_4 : decode cX5_shout 4 = .ok (.iload_n 3, 1) := by decide +kernel
theorem dX5_shout_5 : decode cX5_shout 5 = .ok (.invokevirtual 122, 3) := by decide +kernel
theorem dX5_shout_8 : decode cX5_shout 8 = .ok (.invokevirtual 226, 3) := by decide +kernel
theorem dX5_shout_11 : decode cX5_shout 11 = .ok (.istore 4, 2) := by decide +kernel
theorem dX5_shout_13 : decode cX5_shout 13 = .ok (.iload 4, 2) := by decide +kernel
theorem dX5_shout_15 : decode cX5_shout 15 = .ok (.ifCond .eq 6, 3) := by decide +kernel
theorem dX5_shout_18 : decode cX5_shout 18 = .ok (.iload 4, 2) := by decide +kernel
theorem dX5_shout_20 : decode cX5_shout 20 = .ok (.ireturn, 1) := by decide +kernel
theorem dX5_shout_21 : decode cX5_shout 21 = .ok (.aload_n 0, 1) := by decide +kernel
theorem dX5_shout_22 : decode cX5_shout 22 = .ok (.iload_n 3, 1) := by decide +kernel
theorem dX5_shout_23 : decode cX5_shout 23 = .ok (.invokevirtual 343, 3) := by decide +kernel
theorem dX5_shout_26 : decode cX5_shout 26 = .ok (.ireturn, 1) := by decide +kernel
theorem dX5_days_0 : decode cX5_days 0 = .ok (.iload_n 1, 1) := by decide +kernel
theorem dX5_days_1 : decode cX5_days 1 = .ok (.iconst 1, 1) := by decide +kernel
theorem dX5_days_2 : decode cX5_days 2 = .ok (.bipush 60, 2) := by decide +kernel
theorem dX5_days_4 : decode cX5_days 4 = .ok (.invokestatic 82, 3) := by decide +kernel
theorem dX5_days_7 : decode cX5_days 7 = .ok (.ifCond .ne 10, 3) := by decide +kernel
theorem dX5_days_10 : decode cX5_days 10 = .ok (.aload_n 0, 1) := by decide +kernel
theorem dX5_days_11 : decode cX5_days 11 = .ok (.bipush (-2), 2) := by decide +kernel
theorem dX5_days_13 : decode cX5_days 13 = .ok (.invokevirtual 86, 3) := by decide +kernel
theorem dX5_days_16 : decode cX5_days 16 = .ok (.ireturn, 1) := by decide +kernel
theorem dX5_days_17 : decode cX5_days 17 = .ok (.iconst 0, 1) := by decide +kernel
theorem dX5_days_18 : decode cX5_days 18 = .ok (.istore_n 2, 1) := by decide +kernel
theorem dX5_days_19 : decode cX5_days 19 = .ok (.iload_n 2, 1) := by decide +kernel
theorem dX5_days_20 : decode cX5_days 20 = .ok (.iload_n 1, 1) := by decide +kernel
theorem dX5_days_21 : decode cX5_days 21 = .ok (.if_icmp .ge 16, 3) := by decide +kernel
theorem dX5_days_24 : decode cX5_days 24 = .ok (.aload_n 0, 1) := by decide +kernel
theorem dX5_days_25 : decode cX5_days 25 = .ok (.getfield 12, 3) := by decide +kernel
theorem dX5_days_28 : decode cX5_days 28 = .ok (.invokevirtual 346, 3) := by decide +kernel
theorem dX5_days_31 : decode cX5_days 31 = .ok (.iinc 2 1, 3) := by decide +kernel
theorem dX5_days_34 : decode cX5_days 34 = .ok (.goto (-15), 3) := by decide +kernel
theorem dX5_days_37 : decode cX5_days 37 = .ok (.aload_n 0, 1) := by decide +kernel
theorem dX5_days_38 : decode cX5_days 38 = .ok (.getfield 12, 3) := by decide +kernel
theorem dX5_days_41 : decode cX5_days 41 = .ok (.getfield 174, 3) := by decide +kernel
theorem dX5_days_44 : decode cX5_days 44 = .ok (.ireturn, 1) := by decide +kernel
theorem dX5_drawn_0 : decode cX5_drawn 0 = .ok (.aload_n 0, 1) := by decide +kernel
theorem dX5_drawn_1 : decode cX5_drawn 1 = .ok (.iload_n 1, 1) := by decide +kernel
theorem dX5_drawn_2 : decode cX5_drawn 2 = .ok (.iload_n 2, 1) := by decide +kernel
theorem dX5_drawn_3 : decode cX5_drawn 3 = .ok (.iload_n 3, 1) := by decide +kernel
theorem dX5_drawn_4 : decode cX5_drawn 4 = .ok (.iconst 1, 1) := by decide +kernel
theorem dX5_drawn_5 : decode cX5_drawn 5 = .ok (.bipush 40, 2) := by decide +kernel
theorem dX5_drawn_7 : decode cX5_drawn 7 = .ok (.invokestatic 82, 3) := by decide +kernel
theorem dX5_drawn_10 : decode cX5_drawn 10 = .ok (.invokevirtual 226, 3) := by decide +kernel
theorem dX5_drawn_13 : decode cX5_drawn 13 = .ok (.istore 4, 2) := by decide +kernel
theorem dX5_drawn_15 : decode cX5_drawn 15 = .ok (.iload 4, 2) := by decide +kernel
theorem dX5_drawn_17 : decode cX5_drawn 17 = .ok (.ifCond .eq 6, 3) := by decide +kernel
theorem dX5_drawn_20 : decode cX5_drawn 20 = .ok (.iload 4, 2) := by decide +kernel
theorem dX5_drawn_22 : decode cX5_drawn 22 = .ok (.ireturn, 1) := by decide +kernel
theorem dX5_drawn_23 : decode cX5_drawn 23 = .ok (.aload_n 0, 1) := by decide +kernel
theorem dX5_drawn_24 : decode cX5_drawn 24 = .ok (.getfield 12, 3) := by decide +kernel
theorem dX5_drawn_27 : decode cX5_drawn 27 = .ok (.getfield 167, 3) := by decide +kernel
theorem dX5_drawn_30 : decode cX5_drawn 30 = .ok (.ifCond .ne 10, 3) := by decide +kernel
theorem dX5_drawn_33 : decode cX5_drawn 33 = .ok (.aload_n 0, 1) := by decide +kernel
theorem dX5_drawn_34 : decode cX5_drawn 34 = .ok (.bipush (-5), 2) := by decide +kernel
theorem dX5_drawn_36 : decode cX5_drawn 36 = .ok (.invokevirtual 86, 3) := by decide +kernel
theorem dX5_drawn_39 : decode cX5_drawn 39 = .ok (.ireturn, 1) := by decide +kernel
theorem dX5_drawn_40 : decode cX5_drawn 40 = .ok (.iconst 0, 1) := by decide +kernel
theorem dX5_drawn_41 : decode cX5_drawn 41 = .ok (.istore 5, 2) := by decide +kernel
theorem dX5_drawn_43 : decode cX5_drawn 43 = .ok (.iconst 0, 1) := by decide +kernel
theorem dX5_drawn_44 : decode cX5_drawn 44 = .ok (.istore 6, 2) := by decide +kernel
theorem dX5_drawn_46 : decode cX5_drawn 46 = .ok (.iload 6, 2) := by decide +kernel
theorem dX5_drawn_48 : decode cX5_drawn 48 = .ok (.iload_n 3, 1) := by decide +kernel
theorem dX5_drawn_49 : decode cX5_drawn 49 = .ok (.if_icmp .ge 57, 3) := by decide +kernel
theorem dX5_drawn_52 : decode cX5_drawn 52 = .ok (.aload_n 0, 1) := by decide +kernel
theorem dX5_drawn_53 : decode cX5_drawn 53 = .ok (.getfield 12, 3) := by decide +kernel
theorem dX5_drawn_56 : decode cX5_drawn 56 = .ok (.aload_n 0, 1) := by decide +kernel
theorem dX5_drawn_57 : decode cX5_drawn 57 = .ok (.getfield 12, 3) := by decide +kernel
theorem dX5_drawn_60 : decode cX5_drawn 60 = .ok (.bipush 10, 2) := by decide +kernel
theorem dX5_drawn_62 : decode cX5_drawn 62 = .ok (.invokevirtual 347, 3) := by decide +kernel
theorem dX5_drawn_65 : decode cX5_drawn 65 = .ok (.putfield 177, 3) := by decide +kernel
theorem dX5_drawn_68 : decode cX5_drawn 68 = .ok (.aload_n 0, 1) := by decide +kernel
theorem dX5_drawn_69 : decode cX5_drawn 69 = .ok (.aload_n 0, 1) := by decide +kernel
theorem dX5_drawn_70 : decode cX5_drawn 70 = .ok (.getfield 12, 3) := by decide +kernel
theorem dX5_drawn_73 : decode cX5_drawn 73 = .ok (.aload_n 0, 1) := by decide +kernel
theorem dX5_drawn_74 : decode cX5_drawn 74 = .ok (.getfield 12, 3) := by decide +kernel
theorem dX5_drawn_77 : decode cX5_drawn 77 = .ok (.getfield 167, 3) := by decide +kernel
theorem dX5_drawn_80 : decode cX5_drawn 80 = .ok (.invokevirtual 347, 3) := by decide +kernel
theorem dX5_drawn_83 : decode cX5_drawn 83 = .ok (.invokevirtual 343, 3) := by decide +kernel
theorem dX5_drawn_86 : decode cX5_drawn 86 = .ok (.iconst 1, 1) := by decide +kernel
theorem dX5_drawn_87 : decode cX5_drawn 87 = .ok (.if_icmp .ne 6, 3) := by decide +kernel
theorem dX5_drawn_90 : decode cX5_drawn 90 = .ok (.iinc 5 1, 3) := by decide +kernel
theorem dX5_drawn_93 : decode cX5_drawn 93 = .ok (.aload_n 0, 1) := by decide +kernel
theorem dX5_drawn_94 : decode cX5_drawn 94 = .ok (.getfield 12, 3) := by decide +kernel
theorem dX5_drawn_97 : decode cX5_drawn 97 = .ok (.invokevirtual 346, 3) := by decide +kernel
theorem dX5_drawn_100 : decode cX5_drawn 100 = .ok (.iinc 6 1, 3) := by decide +kernel
theorem dX5_drawn_103 : decode cX5_drawn 103 = .ok (.goto (-57), 3) := by decide +kernel
theorem dX5_drawn_106 : decode cX5_drawn 106 = .ok (.iload 5, 2) := by decide +kernel
theorem dX5_drawn_108 : decode cX5_drawn 108 = .ok (.ireturn, 1) := by decide +kernel
theorem dX5_seed_0 : decode cX5_seed 0 = .ok (.aload_n 0, 1) := by decide +kernel
theorem dX5_seed_1 : decode cX5_seed 1 = .ok (.getfield 12, 3) := by decide +kernel
theorem dX5_seed_4 : decode cX5_seed 4 = .ok (.getfield 350, 3) := by decide +kernel
theorem dX5_seed_7 : decode cX5_seed 7 = .ok (.istore_n 2, 1) := by decide +kernel
theorem dX5_seed_8 : decode cX5_seed 8 = .ok (.aload_n 0, 1) := by decide +kernel
theorem dX5_seed_9 : decode cX5_seed 9 = .ok (.getfield 12, 3) := by decide +kernel
theorem dX5_seed_12 : decode cX5_seed 12 = .ok (.iload_n 1, 1) := by decide +kernel
theorem dX5_seed_13 : decode cX5_seed 13 = .ok (.putfield 350, 3) := by decide +kernel
theorem dX5_seed_16 : decode cX5_seed 16 = .ok (.iload_n 2, 1) := by decide +kernel
theorem dX5_seed_17 : decode cX5_seed 17 = .ok (.ireturn, 1) := by decide +kernel
theorem dX5_image_0 : decode cX5_image 0 = .ok (.aload_n 0, 1) := by decide +kernel
theorem dX5_image_1 : decode cX5_image 1 = .ok (.getfield 16, 3) := by decide +kernel
theorem dX5_image_4 : decode cX5_image 4 = .ok (.aload_n 0, 1) := by decide +kernel
theorem dX5_image_5 : decode cX5_image 5 = .ok (.getfield 12, 3) := by decide +kernel
theorem dX5_image_8 : decode cX5_image 8 = .ok (.invokevirtual 196, 3) := by decide +kernel
theorem dX5_image_11 : decode cX5_image 11 = .ok (.aload_n 0, 1) := by decide +kernel
theorem dX5_image_12 : decode cX5_image 12 = .ok (.iconst 1, 1) := by decide +kernel
theorem dX5_image_13 : decode cX5_image 13 = .ok (.putfield 353, 3) := by decide +kernel
theorem dX5_image_16 : decode cX5_image 16 = .ok (.iconst 1, 1) := by decide +kernel
theorem dX5_image_17 : decode cX5_image 17 = .ok (.ireturn, 1) := by decide +kernel
theorem dX5_again_0 : decode cX5_again 0 = .ok (.aload_n 0, 1) := by decide +kernel
theorem dX5_again_1 : decode cX5_again 1 = .ok (.getfield 353, 3) := by decide +kernel
theorem dX5_again_4 : decode cX5_again 4 = .ok (.ifCond .ne 10, 3) := by decide +kernel
theorem dX5_again_7 : decode cX5_again 7 = .ok (.aload_n 0, 1) := by decide +kernel
theorem dX5_again_8 : decode cX5_again 8 = .ok (.bipush (-5), 2) := by decide +kernel
theorem dX5_again_10 : decode cX5_again 10 = .ok (.invokevirtual 86, 3) := by decide +kernel
theorem dX5_again_13 : decode cX5_again 13 = .ok (.ireturn, 1) := by decide +kernel
theorem dX5_again_14 : decode cX5_again 14 = .ok (.aload_n 0, 1) := by decide +kernel
theorem dX5_again_15 : decode cX5_again 15 = .ok (.getfield 12, 3) := by decide +kernel
theorem dX5_again_18 : decode cX5_again 18 = .ok (.aload_n 0, 1) := by decide +kernel
theorem dX5_again_19 : decode cX5_again 19 = .ok (.getfield 16, 3) := by decide +kernel
theorem dX5_again_22 : decode cX5_again 22 = .ok (.invokevirtual 196, 3) := by decide +kernel
theorem dX5_again_25 : decode cX5_again 25 = .ok (.aload_n 0, 1) := by decide +kernel
theorem dX5_again_26 : decode cX5_again 26 = .ok (.getfield 25, 3) := by decide +kernel
theorem dX5_again_29 : decode cX5_again 29 = .ok (.aload_n 0, 1) := by decide +kernel
theorem dX5_again_30 : decode cX5_again 30 = .ok (.getfield 12, 3) := by decide +kernel
theorem dX5_again_33 : decode cX5_again 33 = .ok (.getfield 167, 3) := by decide +kernel
theorem dX5_again_36 : decode cX5_again 36 = .ok (.invokevirtual 357, 3) := by decide +kernel
theorem dX5_again_39 : decode cX5_again 39 = .ok (.iconst 1, 1) := by decide +kernel
theorem dX5_again_40 : decode cX5_again 40 = .ok (.ireturn, 1) := by decide +kernel
theorem dX5_status_0 : decode cX5_status 0 = .ok (.iload_n 1, 1) := by decide +kernel
theorem dX5_status_1 : decode cX5_status 1 = .ok (.bipush 12, 2) := by decide +kernel
theorem dX5_status_3 : decode cX5_status 3 = .ok (.bipush 16, 2) := by decide +kernel
theorem dX5_status_5 : decode cX5_status 5 = .ok (.invokestatic 82, 3) := by decide +kernel
theorem dX5_status_8 : decode cX5_status 8 = .ok (.ifCond .eq 13, 3) := by decide +kernel
theorem dX5_status_11 : decode cX5_status 11 = .ok (.aload_n 0, 1) := by decide +kernel
theorem dX5_status_12 : decode cX5_status 12 = .ok (.getfield 36, 3) := by decide +kernel
theorem dX5_status_15 : decode cX5_status 15 = .ok (.iload_n 1, 1) := by decide +kernel
theorem dX5_status_16 : decode cX5_status 16 = .ok (.bipush 12, 2) := by decide +kernel
theorem dX5_status_18 : decode cX5_status 18 = .ok (.isub, 1) := by decide +kernel
theorem dX5_status_19 : decode cX5_status 19 = .ok (.iaload, 1) := by decide +kernel
theorem dX5_status_20 : decode cX5_status 20 = .ok (.ireturn, 1) := by decide +kernel
theorem dX5_status_21 : decode cX5_status 21 = .ok (.iload_n 1, 1) := by decide +kernel
theorem dX5_status_22 : decode cX5_status 22 = .ok (.tableswitch 146 0 10 #[58, 66, 74, 82, 90, 98, 106, 114, 122, 130, 138], 58) := by decide +kernel
theorem dX5_status_80 : decode cX5_status 80 = .ok (.aload_n 0, 1) := by decide +kernel
theorem dX5_status_81 : decode cX5_status 81 = .ok (.getfield 12, 3) := by decide +kernel
theorem dX5_status_84 : decode cX5_status 84 = .ok (.getfield 167, 3) := by decide +kernel
theorem dX5_status_87 : decode cX5_status 87 = .ok (.ireturn, 1) := by decide +kernel
theorem dX5_status_88 : decode cX5_status 88 = .ok (.aload_n 0, 1) := by decide +kernel
theorem dX5_status_89 : decode cX5_status 89 = .ok (.getfield 12, 3) := by decide +kernel
theorem dX5_status_92 : decode cX5_status 92 = .ok (.getfield 174, 3) := by decide +kernel
theorem dX5_status_95 : decode cX5_status 95 = .ok (.ireturn, 1) := by decide +kernel
theorem dX5_status_96 : decode cX5_status 96 = .ok (.aload_n 0, 1) := by decide +kernel
theorem dX5_status_97 : decode cX5_status 97 = .ok (.getfield 12, 3) := by decide +kernel
theorem dX5_status_100 : decode cX5_status 100 = .ok (.getfield 177, 3) := by decide +kernel
theorem dX5_status_103 : decode cX5_status 103 = .ok (.ireturn, 1) := by decide +kernel
theorem dX5_status_104 : decode cX5_status 104 = .ok (.aload_n 0, 1) := by decide +kernel
theorem dX5_status_105 : decode cX5_status 105 = .ok (.getfield 12, 3) := by decide +kernel
theorem dX5_status_108 : decode cX5_status 108 = .ok (.getfield 180, 3) := by decide +kernel
theorem dX5_status_111 : decode cX5_status 111 = .ok (.ireturn, 1) := by decide +kernel
theorem dX5_status_112 : decode cX5_status 112 = .ok (.aload_n 0, 1) := by decide +kernel
theorem dX5_status_113 : decode cX5_status 113 = .ok (.getfield 12, 3) := by decide +kernel
theorem dX5_status_116 : decode cX5_status 116 = .ok (.getfield 183, 3) := by decide +kernel
theorem dX5_status_119 : decode cX5_status 119 = .ok (.ireturn, 1) := by decide +kernel
theorem dX5_status_120 : decode cX5_status 120 = .ok (.aload_n 0, 1) := by decide +kernel
theorem dX5_status_121 : decode cX5_status 121 = .ok (.getfield 12, 3) := by decide +kernel
theorem dX5_status_124 : decode cX5_status 124 = .ok (.getfield 186, 3) := by decide +kernel
theorem dX5_status_127 : decode cX5_status 127 = .ok (.ireturn, 1) := by decide +kernel
theorem dX5_status_128 : decode cX5_status 128 = .ok (.aload_n 0, 1) := by decide +kernel
theorem dX5_status_129 : decode cX5_status 129 = .ok (.getfield 12, 3) := by decide +kernel
theorem dX5_status_132 : decode cX5_status 132 = .ok (.getfield 360, 3) := by decide +kernel
theorem dX5_status_135 : decode cX5_status 135 = .ok (.ireturn, 1) := by decide +kernel
theorem dX5_status_136 : decode cX5_status 136 = .ok (.aload_n 0, 1) := by decide +kernel
theorem dX5_status_137 : decode cX5_status 137 = .ok (.getfield 12, 3) := by decide +kernel
theorem dX5_status_140 : decode cX5_status 140 = .ok (.getfield 363, 3) := by decide +kernel
theorem dX5_status_143 : decode cX5_status 143 = .ok (.ireturn, 1) := by decide +kernel
theorem dX5_status_144 : decode cX5_status 144 = .ok (.aload_n 0, 1) := by decide +kernel
theorem dX5_status_145 : decode cX5_status 145 = .ok (.getfield 32, 3) := by decide +kernel
theorem dX5_status_148 : decode cX5_status 148 = .ok (.getfield 193, 3) := by decide +kernel
theorem dX5_status_151 : decode cX5_status 151 = .ok (.ireturn, 1) := by decide +kernel
theorem dX5_status_152 : decode cX5_status 152 = .ok (.aload_n 0, 1) := by decide +kernel
theorem dX5_status_153 : decode cX5_status 153 = .ok (.getfield 12, 3) := by decide +kernel
theorem dX5_status_156 : decode cX5_status 156 = .ok (.getfield 350, 3) := by decide +kernel
theorem dX5_status_159 : decode cX5_status 159 = .ok (.ireturn, 1) := by decide +kernel
theorem dX5_status_160 : decode cX5_status 160 = .ok (.aload_n 0, 1) := by decide +kernel
theorem dX5_status_161 : decode cX5_status 161 = .ok (.getfield 25, 3) := by decide +kernel
theorem dX5_status_164 : decode cX5_status 164 = .ok (.invokevirtual 366, 3) := by decide +kernel
theorem dX5_status_167 : decode cX5_status 167 = .ok (.ireturn, 1) := by decide +kernel
theorem dX5_status_168 : decode cX5_status 168 = .ok (.iconst (-1), 1) := by decide +kernel
theorem dX5_status_169 : decode cX5_status 169 = .ok (.ireturn, 1) := by decide +kernel
theorem dX5_isWithin_0 : decode cX5_isWithin 0 = .ok (.iload_n 0, 1) := by decide +kernel
theorem dX5_isWithin_1 : decode cX5_isWithin 1 = .ok (.iload_n 1, 1) := by decide +kernel
theorem dX5_isWithin_2 : decode cX5_isWithin 2 = .ok (.if_icmp .lt 12, 3) := by decide +kernel
theorem dX5_isWithin_5 : decode cX5_isWithin 5 = .ok (.iload_n 0, 1) := by decide +kernel
theorem dX5_isWithin_6 : decode cX5_isWithin 6 = .ok (.iload_n 2, 1) := by decide +kernel
theorem dX5_isWithin_7 : decode cX5_isWithin 7 = .ok (.if_icmp .gt 7, 3) := by decide +kernel
theorem dX5_isWithin_10 : decode cX5_isWithin 10 = .ok (.iconst 1, 1) := by decide +kernel
theorem dX5_isWithin_11 : decode cX5_isWithin 11 = .ok (.goto 4, 3) := by decide +kernel
theorem dX5_isWithin_14 : decode cX5_isWithin 14 = .ok (.iconst 0, 1) := by decide +kernel
theorem dX5_isWithin_15 : decode cX5_isWithin 15 = .ok (.ireturn, 1) := by decide +kernel
theorem dX5_isShelf_0 : decode cX5_isShelf 0 = .ok (.iload_n 0, 1) := by decide +kernel
theorem dX5_isShelf_1 : decode cX5_isShelf 1 = .ok (.iconst 0, 1) := by decide +kernel
theorem dX5_isShelf_2 : decode cX5_isShelf 2 = .ok (.bipush 7, 2) := by decide +kernel
theorem dX5_isShelf_4 : decode cX5_isShelf 4 = .ok (.invokestatic 82, 3) := by decide +kernel
theorem dX5_isShelf_7 : decode cX5_isShelf 7 = .ok (.ireturn, 1) := by decide +kernel
theorem dX5_isKind_0 : decode cX5_isKind 0 = .ok (.iload_n 0, 1) := by decide +kernel
theorem dX5_isKind_1 : decode cX5_isKind 1 = .ok (.iconst 0, 1) := by decide +kernel
theorem dX5_isKind_2 : decode cX5_isKind 2 = .ok (.iconst 5, 1) := by decide +kernel
theorem dX5_isKind_3 : decode cX5_isKind 3 = .ok (.invokestatic 82, 3) := by decide +kernel
theorem dX5_isKind_6 : decode cX5_isKind 6 = .ok (.ireturn, 1) := by decide +kernel
theorem dX5_isEchoSize_0 : decode cX5_isEchoSize 0 = .ok (.iload_n 0, 1) := by decide +kernel
theorem dX5_isEchoSize_1 : decode cX5_isEchoSize 1 = .ok (.iconst 0, 1) := by decide +kernel
theorem dX5_isEchoSize_2 : decode cX5_isEchoSize 2 = .ok (.bipush 13, 2) := by decide +kernel
theorem dX5_isEchoSize_4 : decode cX5_isEchoSize 4 = .ok (.invokestatic 82, 3) := by decide +kernel
theorem dX5_isEchoSize_7 : decode cX5_isEchoSize 7 = .ok (.ireturn, 1) := by decide +kernel
theorem dX5_isVoice_0 : decode cX5_isVoice 0 = .ok (.iload_n 1, 1) := by decide +kernel
theorem dX5_isVoice_1 : decode cX5_isVoice 1 = .ok (.iconst 0, 1) := by decide +kernel
theorem dX5_isVoice_2 : decode cX5_isVoice 2 = .ok (.aload_n 0, 1) := by decide +kernel
theorem dX5_isVoice_3 : decode cX5_isVoice 3 = .ok (.getfield 12, 3) := by decide +kernel
theorem dX5_isVoice_6 : decode cX5_isVoice 6 = .ok (.getfield 167, 3) := by decide +kernel
theorem dX5_isVoice_9 : decode cX5_isVoice 9 = .ok (.iconst 1, 1) := by decide +kernel
theorem dX5_isVoice_10 : decode cX5_isVoice 10 = .ok (.isub, 1) := by decide +kernel
theorem dX5_isVoice_11 : decode cX5_isVoice 11 = .ok (.invokestatic 82, 3) := by decide +kernel
theorem dX5_isVoice_14 : decode cX5_isVoice 14 = .ok (.ireturn, 1) := by decide +kernel
theorem dX5_isUnder_0 : decode cX5_isUnder 0 = .ok (.iload_n 0, 1) := by decide +kernel
theorem dX5_isUnder_1 : decode cX5_isUnder 1 = .ok (.iload_n 1, 1) := by decide +kernel
theorem dX5_isUnder_2 : decode cX5_isUnder 2 = .ok (.if_icmp .eq 27, 3) := by decide +kernel
theorem dX5_isUnder_5 : decode cX5_isUnder 5 = .ok (.iload_n 1, 1) := by decide +kernel
theorem dX5_isUnder_6 : decode cX5_isUnder 6 = .ok (.ifCond .eq 23, 3) := by decide +kernel
theorem dX5_isUnder_9 : decode cX5_isUnder 9 = .ok (.iload_n 0, 1) := by decide +kernel
theorem dX5_isUnder_10 : decode cX5_isUnder 10 = .ok (.iconst 3, 1) := by decide +kernel
theorem dX5_isUnder_11 : decode cX5_isUnder 11 = .ok (.if_icmp .ne 8, 3) := by decide +kernel
theorem dX5_isUnder_14 : decode cX5_isUnder 14 = .ok (.iload_n 1, 1) := by decide +kernel
theorem dX5_isUnder_15 : decode cX5_isUnder 15 = .ok (.iconst 1, 1) := by decide +kernel
theorem dX5_isUnder_16 : decode cX5_isUnder 16 = .ok (.if_icmp .eq 13, 3) := by decide +kernel
theorem dX5_isUnder_19 : decode cX5_isUnder 19 = .ok (.iload_n 0, 1) := by decide +kernel
theorem dX5_isUnder_20 : decode cX5_isUnder 20 = .ok (.iconst 4, 1) := by decide +kernel
theorem dX5_isUnder_21 : decode cX5_isUnder 21 = .ok (.if_icmp .ne 12, 3) := by decide +kernel
theorem dX5_isUnder_24 : decode cX5_isUnder 24 = .ok (.iload_n 1, 1) := by decide +kernel
theorem dX5_isUnder_25 : decode cX5_isUnder 25 = .ok (.iconst 2, 1) := by decide +kernel
theorem dX5_isUnder_26 : decode cX5_isUnder 26 = .ok (.if_icmp .ne 7, 3) := by decide +kernel
theorem dX5_isUnder_29 : decode cX5_isUnder 29 = .ok (.iconst 1, 1) := by decide +kernel
theorem dX5_isUnder_30 : decode cX5_isUnder 30 = .ok (.goto 4, 3) := by decide +kernel
theorem dX5_isUnder_33 : decode cX5_isUnder 33 = .ok (.iconst 0, 1) := by decide +kernel
theorem dX5_isUnder_34 : decode cX5_isUnder 34 = .ok (.ireturn, 1) := by decide +kernel
theorem dX5_refuse_0 : decode cX5_refuse 0 = .ok (.bipush (-2), 2) := by decide +kernel
theorem dX5_refuse_2 : decode cX5_refuse 2 = .ok (.iload_n 1, 1) := by decide +kernel
theorem dX5_refuse_3 : decode cX5_refuse 3 = .ok (.isub, 1) := by decide +kernel
theorem dX5_refuse_4 : decode cX5_refuse 4 = .ok (.istore_n 2, 1) := by decide +kernel
theorem dX5_refuse_5 : decode cX5_refuse 5 = .ok (.iload_n 2, 1) := by decide +kernel
theorem dX5_refuse_6 : decode cX5_refuse 6 = .ok (.iconst 0, 1) := by decide +kernel
theorem dX5_refuse_7 : decode cX5_refuse 7 = .ok (.iconst 4, 1) := by decide +kernel
theorem dX5_refuse_8 : decode cX5_refuse 8 = .ok (.invokestatic 82, 3) := by decide +kernel
theorem dX5_refuse_11 : decode cX5_refuse 11 = .ok (.ifCond .eq 13, 3) := by decide +kernel
theorem dX5_refuse_14 : decode cX5_refuse 14 = .ok (.aload_n 0, 1) := by decide +kernel
theorem dX5_refuse_15 : decode cX5_refuse 15 = .ok (.getfield 36, 3) := by decide +kernel
theorem dX5_refuse_18 : decode cX5_refuse 18 = .ok (.iload_n 2, 1) := by decide +kernel
theorem dX5_refuse_19 : decode cX5_refuse 19 = .ok (.dup2, 1) := by decide +kernel
theorem dX5_refuse_20 : decode cX5_refuse 20 = .ok (.iaload, 1) := by decide +kernel
theorem dX5_refuse_21 : decode cX5_refuse 21 = .ok (.iconst 1, 1) := by decide +kernel
theorem dX5_refuse_22 : decode cX5_refuse 22 = .ok (.iadd, 1) := by decide +kernel
theorem dX5_refuse_23 : decode cX5_refuse 23 = .ok (.iastore, 1) := by decide +kernel
theorem dX5_refuse_24 : decode cX5_refuse 24 = .ok (.iload_n 1, 1) := by decide +kernel
theorem dX5_refuse_25 : decode cX5_refuse 25 = .ok (.ireturn, 1) := by decide +kernel
theorem dX5_takeWord_0 : decode cX5_takeWord 0 = .ok (.aload_n 0, 1) := by decide +kernel
theorem dX5_takeWord_1 : decode cX5_takeWord 1 = .ok (.iload_n 1, 1) := by decide +kernel
theorem dX5_takeWord_2 : decode cX5_takeWord 2 = .ok (.iload_n 2, 1) := by decide +kernel
theorem dX5_takeWord_3 : decode cX5_takeWord 3 = .ok (.iload_n 1, 1) := by decide +kernel
theorem dX5_takeWord_4 : decode cX5_takeWord 4 = .ok (.iconst 0, 1) := by decide +kernel
theorem dX5_takeWord_5 : decode cX5_takeWord 5 = .ok (.iload_n 3, 1) := by decide +kernel
theorem dX5_takeWord_6 : decode cX5_takeWord 6 = .ok (.invokevirtual 314, 3) := by decide +kernel
theorem dX5_takeWord_9 : decode cX5_takeWord 9 = .ok (.ireturn, 1) := by decide +kernel
theorem dX5_takeWordAndRow_0 : decode cX5_takeWordAndRow 0 = .ok (.iload_n 1, 1) := by decide +kernel
theorem dX5_takeWordAndRow_1 : decode cX5_takeWordAndRow 1 = .ok (.invokestatic 78, 3) := by decide +kernel
theorem dX5_takeWordAndRow_4 : decode cX5_takeWordAndRow 4 = .ok (.ifCond .eq 25, 3) := by decide +kernel
theorem dX5_takeWordAndRow_7 : decode cX5_takeWordAndRow 7 = .ok (.iload_n 2, 1) := by decide +kernel
theorem dX5_takeWordAndRow_8 : decode cX5_takeWordAndRow 8 = .ok (.iconst 0, 1) := by decide +kernel
theorem dX5_takeWordAndRow_9 : decode cX5_takeWordAndRow 9 = .ok (.bipush 12, 2) := by decide +kernel
theorem dX5_takeWordAndRow_11 : decode cX5_takeWordAndRow 11 = .ok (.invokestatic 82, 3) := by decide +kernel
theorem dX5_takeWordAndRow_14 : decode cX5_takeWordAndRow 14 = .ok (.ifCond .eq 15, 3) := by decide +kernel
theorem dX5_takeWordAndRow_17 : decode cX5_takeWordAndRow 17 = .ok (.iload_n 3, 1) := by decide +kernel
theorem dX5_takeWordAndRow_18 : decode cX5_takeWordAndRow 18 = .ok (.invokestatic 78, 3) := by decide +kernel
theorem dX5_takeWordAndRow_21 : decode cX5_takeWordAndRow 21 = .ok (.ifCond .eq 8, 3) := by decide +kernel
theorem dX5_takeWordAndRow_24 : decode cX5_takeWordAndRow 24 = .ok (.iload 5, 2) := by decide +kernel
theorem dX5_takeWordAndRow_26 : decode cX5_takeWordAndRow 26 = .ok (.ifCond .ne 10, 3) := by decide +kernel
theorem dX5_takeWordAndRow_29 : decode cX5_takeWordAndRow 29 = .ok (.aload_n 0, 1) := by decide +kernel
theorem dX5_takeWordAndRow_30 : decode cX5_takeWordAndRow 30 = .ok (.bipush (-2), 2) := by decide +kernel
theorem dX5_takeWordAndRow_32 : decode cX5_takeWordAndRow 32 = .ok (.invokevirtual 86, 3) := by decide +kernel
theorem dX5_takeWordAndRow_35 : decode cX5_takeWordAndRow 35 = .ok (.ireturn, 1) := by decide +kernel
theorem dX5_takeWordAndRow_36 : decode cX5_takeWordAndRow 36 = .ok (.aload_n 0, 1) := by decide +kernel
theorem dX5_takeWordAndRow_37 : decode cX5_takeWordAndRow 37 = .ok (.getfield 25, 3) := by decide +kernel
theorem dX5_takeWordAndRow_40 : decode cX5_takeWordAndRow 40 = .ok (.iload_n 1, 1) := by decide +kernel
theorem dX5_takeWordAndRow_41 : decode cX5_takeWordAndRow 41 = .ok (.invokevirtual 94, 3) := by decide +kernel
theorem dX5_takeWordAndRow_44 : decode cX5_takeWordAndRow 44 = .ok (.ifCond .ne 14, 3) := by decide +kernel
theorem dX5_takeWordAndRow_47 : decode cX5_takeWordAndRow 47 = .ok (.aload_n 0, 1) := by decide +kernel
theorem dX5_takeWordAndRow_48 : decode cX5_takeWordAndRow 48 = .ok (.getfield 25, 3) := by decide +kernel
theorem dX5_takeWordAndRow_51 : decode cX5_takeWordAndRow 51 = .ok (.iload_n 3, 1) := by decide +kernel
theorem dX5_takeWordAndRow_52 : decode cX5_takeWordAndRow 52 = .ok (.invokevirtual 94, 3) := by decide +kernel
theorem dX5_takeWordAndRow_55 : decode cX5_takeWordAndRow 55 = .ok (.ifCond .eq 10, 3) := by decide +kernel
theorem dX5_takeWordAndRow_58 : decode cX5_takeWordAndRow 58 = .ok (.aload_n 0, 1) := by decide +kernel
theorem dX5_takeWordAndRow_59 : decode cX5_takeWordAndRow 59 = .ok (.bipush (-3), 2) := by decide +kernel
theorem dX5_takeWordAndRow_61 : decode cX5_takeWordAndRow 61 = .ok (.invokevirtual 86, 3) := by decide +kernel
theorem dX5_takeWordAndRow_64 : decode cX5_takeWordAndRow 64 = .ok (.ireturn, 1) := by decide +kernel
theorem dX5_takeWordAndRow_65 : decode cX5_takeWordAndRow 65 = .ok (.aload_n 0, 1) := by decide +kernel
theorem dX5_takeWordAndRow_66 : decode cX5_takeWordAndRow 66 = .ok (.getfield 25, 3) := by decide +kernel
theorem dX5_takeWordAndRow_69 : decode cX5_takeWordAndRow 69 = .ok (.iload_n 1, 1) := by decide +kernel
theorem dX5_takeWordAndRow_70 : decode cX5_takeWordAndRow 70 = .ok (.invokevirtual 97, 3) := by decide +kernel
theorem dX5_takeWordAndRow_73 : decode cX5_takeWordAndRow 73 = .ok (.ifCond .ne 14, 3) := by decide +kernel
theorem dX5_takeWordAndRow_76 : decode cX5_takeWordAndRow 76 = .ok (.aload_n 0, 1) := by decide +kernel
theorem dX5_takeWordAndRow_77 : decode cX5_takeWordAndRow 77 = .ok (.getfield 25, 3) := by decide +kernel
theorem dX5_takeWordAndRow_80 : decode cX5_takeWordAndRow 80 = .ok (.iload_n 3, 1) := by decide +kernel
theorem dX5_takeWordAndRow_81 : decode cX5_takeWordAndRow 81 = .ok (.invokevirtual 97, 3) := by decide +kernel
theorem dX5_takeWordAndRow_84 : decode cX5_takeWordAndRow 84 = .ok (.ifCond .eq 10, 3) := by decide +kernel
theorem dX5_takeWordAndRow_87 : decode cX5_takeWordAndRow 87 = .ok (.aload_n 0, 1) := by decide +kernel
theorem dX5_takeWordAndRow_88 : decode cX5_takeWordAndRow 88 = .ok (.bipush (-4), 2) := by decide +kernel
theorem dX5_takeWordAndRow_90 : decode cX5_takeWordAndRow 90 = .ok (.invokevirtual 86, 3) := by decide +kernel
theorem dX5_takeWordAndRow_93 : decode cX5_takeWordAndRow 93 = .ok (.ireturn, 1) := by decide +kernel
theorem dX5_takeWordAndRow_94 : decode cX5_takeWordAndRow 94 = .ok (.aload_n 0, 1) := by decide +kernel
theorem dX5_takeWordAndRow_95 : decode cX5_takeWordAndRow 95 = .ok (.getfield 25, 3) := by decide +kernel
theorem dX5_takeWordAndRow_98 : decode cX5_takeWordAndRow 98 = .ok (.iload_n 1, 1) := by decide +kernel
theorem dX5_takeWordAndRow_99 : decode cX5_takeWordAndRow 99 = .ok (.iconst 0, 1) := by decide +kernel
theorem dX5_takeWordAndRow_100 : decode cX5_takeWordAndRow 100 = .ok (.iload_n 2, 1) := by decide +kernel
theorem dX5_takeWordAndRow_101 : decode cX5_takeWordAndRow 101 = .ok (.invokevirtual 100, 3) := by decide +kernel
theorem dX5_takeWordAndRow_104 : decode cX5_takeWordAndRow 104 = .ok (.ifCond .eq 17, 3) := by decide +kernel
theorem dX5_takeWordAndRow_107 : decode cX5_takeWordAndRow 107 = .ok (.aload_n 0, 1) := by decide +kernel
theorem dX5_takeWordAndRow_108 : decode cX5_takeWordAndRow 108 = .ok (.getfield 25, 3) := by decide +kernel
theorem dX5_takeWordAndRow_111 : decode cX5_takeWordAndRow 111 = .ok (.iload_n 3, 1) := by decide +kernel
theorem dX5_takeWordAndRow_112 : decode cX5_takeWordAndRow 112 = .ok (.iconst 0, 1) := by decide +kernel
theorem dX5_takeWordAndRow_113 : decode cX5_takeWordAndRow 113 = .ok (.iload 4, 2) := by decide +kernel
theorem dX5_takeWordAndRow_115 : decode cX5_takeWordAndRow 115 = .ok (.invokevirtual 100, 3) := by decide +kernel
theorem dX5_takeWordAndRow_118 : decode cX5_takeWordAndRow 118 = .ok (.ifCond .ne 10, 3) := by decide +kernel
theorem dX5_takeWordAndRow_121 : decode cX5_takeWordAndRow 121 = .ok (.aload_n 0, 1) := by decide +kernel
theorem dX5_takeWordAndRow_122 : decode cX5_takeWordAndRow 122 = .ok (.bipush (-2), 2) := by decide +kernel
theorem dX5_takeWordAndRow_124 : decode cX5_takeWordAndRow 124 = .ok (.invokevirtual 86, 3) := by decide +kernel
theorem dX5_takeWordAndRow_127 : decode cX5_takeWordAndRow 127 = .ok (.ireturn, 1) := by decide +kernel
theorem dX5_takeWordAndRow_128 : decode cX5_takeWordAndRow 128 = .ok (.aload_n 0, 1) := by decide +kernel
theorem dX5_takeWordAndRow_129 : decode cX5_takeWordAndRow 129 = .ok (.getfield 53, 3) := by decide +kernel
theorem dX5_takeWordAndRow_132 : decode cX5_takeWordAndRow 132 = .ok (.invokevirtual 141, 3) := by decide +kernel
theorem dX5_takeWordAndRow_135 : decode cX5_takeWordAndRow 135 = .ok (.iconst 0, 1) := by decide +kernel
theorem dX5_takeWordAndRow_136 : decode cX5_takeWordAndRow 136 = .ok (.istore 6, 2) := by decide +kernel
theorem dX5_takeWordAndRow_138 : decode cX5_takeWordAndRow 138 = .ok (.iload 6, 2) := by decide +kernel
theorem dX5_takeWordAndRow_140 : decode cX5_takeWordAndRow 140 = .ok (.iload_n 2, 1) := by decide +kernel
theorem dX5_takeWordAndRow_141 : decode cX5_takeWordAndRow 141 = .ok (.if_icmp .ge 54, 3) := by decide +kernel
theorem dX5_takeWordAndRow_144 : decode cX5_takeWordAndRow 144 = .ok (.aload_n 0, 1) := by decide +kernel
theorem dX5_takeWordAndRow_145 : decode cX5_takeWordAndRow 145 = .ok (.getfield 25, 3) := by decide +kernel
theorem dX5_takeWordAndRow_148 : decode cX5_takeWordAndRow 148 = .ok (.iload_n 1, 1) := by decide +kernel
theorem dX5_takeWordAndRow_149 : decode cX5_takeWordAndRow 149 = .ok (.iload 6, 2) := by decide +kernel
theorem dX5_takeWordAndRow_151 : decode cX5_takeWordAndRow 151 = .ok (.invokevirtual 115, 3) := by decide +kernel
theorem dX5_takeWordAndRow_154 : decode cX5_takeWordAndRow 154 = .ok (.lstore 7, 2) := by decide +kernel
theorem dX5_takeWordAndRow_156 : decode cX5_takeWordAndRow 156 = .ok (.lload 7, 2) := by decide +kernel
theorem dX5_takeWordAndRow_158 : decode cX5_takeWordAndRow 158 = .ok (.lconst 0, 1) := by decide +kernel
theorem dX5_takeWordAndRow_159 : decode cX5_takeWordAndRow 159 = .ok (.lcmp, 1) := by decide +kernel
theorem dX5_takeWordAndRow_160 : decode cX5_takeWordAndRow 160 = .ok (.ifCond .lt 12, 3) := by decide +kernel
theorem dX5_takeWordAndRow_163 : decode cX5_takeWordAndRow 163 = .ok (.lload 7, 2) := by decide +kernel
theorem dX5_takeWordAndRow_165 : decode cX5_takeWordAndRow 165 = .ok (.ldc2_w 369, 3) := by decide +kernel
theorem dX5_takeWordAndRow_168 : decode cX5_takeWordAndRow 168 = .ok (.lcmp, 1) := by decide +kernel
theorem dX5_takeWordAndRow_169 : decode cX5_takeWordAndRow 169 = .ok (.ifCond .lt 10, 3) := by decide +kernel
theorem dX5_takeWordAndRow_172 : decode cX5_takeWordAndRow 172 = .ok (.aload_n 0, 1) := by decide +kernel
theorem dX5_takeWordAndRow_173 : decode cX5_takeWordAndRow 173 = .ok (.bipush (-5), 2) := by decide +kernel
theorem dX5_takeWordAndRow_175 : decode cX5_takeWordAndRow 175 = .ok (.invokevirtual 86, 3) := by decide +kernel
theorem dX5_takeWordAndRow_178 : decode cX5_takeWordAndRow 178 = .ok (.ireturn, 1) := by decide +kernel
theorem dX5_takeWordAndRow_179 : decode cX5_takeWordAndRow 179 = .ok (.aload_n 0, 1) := by decide +kernel
theorem dX5_takeWordAndRow_180 : decode cX5_takeWordAndRow 180 = .ok (.getfield 53, 3) := by decide +kernel
theorem dX5_takeWordAndRow_183 : decode cX5_takeWordAndRow 183 = .ok (.lload 7, 2) := by decide +kernel
theorem dX5_takeWordAndRow_185 : decode cX5_takeWordAndRow 185 = .ok (.l2i, 1) := by decide +kernel
theorem dX5_takeWordAndRow_186 : decode cX5_takeWordAndRow 186 = .ok (.invokevirtual 144, 3) := by decide +kernel
theorem dX5_takeWordAndRow_189 : decode cX5_takeWordAndRow 189 = .ok (.iinc 6 1, 3) := by decide +kernel
theorem dX5_takeWordAndRow_192 : decode cX5_takeWordAndRow 192 = .ok (.goto (-54), 3) := by decide +kernel
theorem dX5_takeWordAndRow_195 : decode cX5_takeWordAndRow 195 = .ok (.iconst 0, 1) := by decide +kernel
theorem dX5_takeWordAndRow_196 : decode cX5_takeWordAndRow 196 = .ok (.ireturn, 1) := by decide +kernel
theorem dX5_depthBehind_0 : decode cX5_depthBehind 0 = .ok (.iconst 0, 1) := by decide +kernel
theorem dX5_depthBehind_1 : decode cX5_depthBehind 1 = .ok (.bipush 40, 2) := by decide +kernel
theorem dX5_depthBehind_3 : decode cX5_depthBehind 3 = .ok (.iload_n 0, 1) := by decide +kernel
theorem dX5_depthBehind_4 : decode cX5_depthBehind 4 = .ok (.iconst 1, 1) := by decide +kernel
theorem dX5_depthBehind_5 : decode cX5_depthBehind 5 = .ok (.iadd, 1) := by decide +kernel
theorem dX5_depthBehind_6 : decode cX5_depthBehind 6 = .ok (.iload_n 1, 1) := by decide +kernel
theorem dX5_depthBehind_7 : decode cX5_depthBehind 7 = .ok (.isub, 1) := by decide +kernel
theorem dX5_depthBehind_8 : decode cX5_depthBehind 8 = .ok (.invokestatic 292, 3) := by decide +kernel
theorem dX5_depthBehind_11 : decode cX5_depthBehind 11 = .ok (.invokestatic 303, 3) := by decide +kernel
theorem dX5_depthBehind_14 : decode cX5_depthBehind 14 = .ok (.ireturn, 1) := by decide +kernel
theorem dX5_dayBehind_0 : decode cX5_dayBehind 0 = .ok (.sipush 9999, 3) := by decide +kernel
theorem dX5_dayBehind_3 : decode cX5_dayBehind 3 = .ok (.iload_n 0, 1) := by decide +kernel
theorem dX5_dayBehind_4 : decode cX5_dayBehind 4 = .ok (.iconst 1, 1) := by decide +kernel
theorem dX5_dayBehind_5 : decode cX5_dayBehind 5 = .ok (.iadd, 1) := by decide +kernel
theorem dX5_dayBehind_6 : decode cX5_dayBehind 6 = .ok (.invokestatic 292, 3) := by decide +kernel
theorem dX5_dayBehind_9 : decode cX5_dayBehind 9 = .ok (.ireturn, 1) := by decide +kernel
theorem dX5_isIn_0 : decode cX5_isIn 0 = .ok (.lload_n 0, 1) := by decide +kernel
theorem dX5_isIn_1 : decode cX5_isIn 1 = .ok (.iload_n 2, 1) := by decide +kernel
theorem dX5_isIn_2 : decode cX5_isIn 2 = .ok (.lushr, 1) := by decide +kernel
theorem dX5_isIn_3 : decode cX5_isIn 3 = .ok (.lconst 1, 1) := by decide +kernel
theorem dX5_isIn_4 : decode cX5_isIn 4 = .ok (.land, 1) := by decide +kernel
theorem dX5_isIn_5 : decode cX5_isIn 5 = .ok (.lconst 1, 1) := by decide +kernel
theorem dX5_isIn_6 : decode cX5_isIn 6 = .ok (.lcmp, 1) := by decide +kernel
theorem dX5_isIn_7 : decode cX5_isIn 7 = .ok (.ifCond .ne 7, 3) := by decide +kernel
theorem dX5_isIn_10 : decode cX5_isIn 10 = .ok (.iconst 1, 1) := by decide +kernel
theorem dX5_isIn_11 : decode cX5_isIn 11 = .ok (.goto 4, 3) := by decide +kernel
theorem dX5_isIn_14 : decode cX5_isIn 14 = .ok (.iconst 0, 1) := by decide +kernel
theorem dX5_isIn_15 : decode cX5_isIn 15 = .ok (.ireturn, 1) := by decide +kernel
theorem dX5_tellOf_0 : decode cX5_tellOf 0 = .ok (.iload_n 2, 1) := by decide +kernel
theorem dX5_tellOf_1 : decode cX5_tellOf 1 = .ok (.ifCond .ne 8, 3) := by decide +kernel
theorem dX5_tellOf_4 : decode cX5_tellOf 4 = .ok (.lload_n 0, 1) := by decide +kernel
theorem dX5_tellOf_5 : decode cX5_tellOf 5 = .ok (.invokestatic 329, 3) := by decide +kernel
theorem dX5_tellOf_8 : decode cX5_tellOf 8 = .ok (.ireturn, 1) := by decide +kernel
theorem dX5_tellOf_9 : decode cX5_tellOf 9 = .ok (.iconst 0, 1) := by decide +kernel
theorem dX5_tellOf_10 : decode cX5_tellOf 10 = .ok (.istore_n 3, 1) := by decide +kernel
theorem dX5_tellOf_11 : decode cX5_tellOf 11 = .ok (.iload_n 3, 1) := by decide +kernel
theorem dX5_tellOf_12 : decode cX5_tellOf 12 = .ok (.bipush 40, 2) := by decide +kernel
theorem dX5_tellOf_14 : decode cX5_tellOf 14 = .ok (.if_icmp .gt 36, 3) := by decide +kernel
theorem dX5_tellOf_17 : decode cX5_tellOf 17 = .ok (.iload_n 2, 1) := by decide +kernel
theorem dX5_tellOf_18 : decode cX5_tellOf 18 = .ok (.iconst 1, 1) := by decide +kernel
theorem dX5_tellOf_19 : decode cX5_tellOf 19 = .ok (.if_icmp .ne 7, 3) := by decide +kernel
theorem dX5_tellOf_22 : decode cX5_tellOf 22 = .ok (.iload_n 3, 1) := by decide +kernel
theorem dX5_tellOf_23 : decode cX5_tellOf 23 = .ok (.goto 7, 3) := by decide +kernel
theorem dX5_tellOf_26 : decode cX5_tellOf 26 = .ok (.bipush 40, 2) := by decide +kernel
theorem dX5_tellOf_28 : decode cX5_tellOf 28 = .ok (.iload_n 3, 1) := by decide +kernel
theorem dX5_tellOf_29 : decode cX5_tellOf 29 = .ok (.isub, 1) := by decide +kernel
theorem dX5_tellOf_30 : decode cX5_tellOf 30 = .ok (.istore 4, 2) := by decide +kernel
theorem dX5_tellOf_32 : decode cX5_tellOf 32 = .ok (.lload_n 0, 1) := by decide +kernel
theorem dX5_tellOf_33 : decode cX5_tellOf 33 = .ok (.iload 4, 2) := by decide +kernel
theorem dX5_tellOf_35 : decode cX5_tellOf 35 = .ok (.invokestatic 270, 3) := by decide +kernel
theorem dX5_tellOf_38 : decode cX5_tellOf 38 = .ok (.ifCond .eq 6, 3) := by decide +kernel
theorem dX5_tellOf_41 : decode cX5_tellOf 41 = .ok (.iload 4, 2) := by decide +kernel
theorem dX5_tellOf_43 : decode cX5_tellOf 43 = .ok (.ireturn, 1) := by decide +kernel
theorem dX5_tellOf_44 : decode cX5_tellOf 44 = .ok (.iinc 3 1, 3) := by decide +kernel
theorem dX5_tellOf_47 : decode cX5_tellOf 47 = .ok (.goto (-36), 3) := by decide +kernel
theorem dX5_tellOf_50 : decode cX5_tellOf 50 = .ok (.iconst (-1), 1) := by decide +kernel
theorem dX5_tellOf_51 : decode cX5_tellOf 51 = .ok (.ireturn, 1) := by decide +kernel
theorem dX5_depthsOfYes_0 : decode cX5_depthsOfYes 0 = .ok (.aload_n 0, 1) := by decide +kernel
theorem dX5_depthsOfYes_1 : decode cX5_depthsOfYes 1 = .ok (.getfield 43, 3) := by decide +kernel
theorem dX5_depthsOfYes_4 : decode cX5_depthsOfYes 4 = .ok (.aload_n 0, 1) := by decide +kernel
theorem dX5_depthsOfYes_5 : decode cX5_depthsOfYes 5 = .ok (.getfield 12, 3) := by decide +kernel
theorem dX5_depthsOfYes_8 : decode cX5_depthsOfYes 8 = .ok (.iload_n 1, 1) := by decide +kernel
theorem dX5_depthsOfYes_9 : decode cX5_depthsOfYes 9 = .ok (.invokevirtual 148, 3) := by decide +kernel
theorem dX5_depthsOfYes_12 : decode cX5_depthsOfYes 12 = .ok (.lconst 0, 1) := by decide +kernel
theorem dX5_depthsOfYes_13 : decode cX5_depthsOfYes 13 = .ok (.lstore_n 2, 1) := by decide +kernel
theorem dX5_depthsOfYes_14 : decode cX5_depthsOfYes 14 = .ok (.iconst 0, 1) := by decide +kernel
theorem dX5_depthsOfYes_15 : decode cX5_depthsOfYes 15 = .ok (.istore 4, 2) := by decide +kernel
theorem dX5_depthsOfYes_17 : decode cX5_depthsOfYes 17 = .ok (.iload 4, 2) := by decide +kernel
theorem dX5_depthsOfYes_19 : decode cX5_depthsOfYes 19 = .ok (.bipush 40, 2) := by decide +kernel
theorem dX5_depthsOfYes_21 : decode cX5_depthsOfYes 21 = .ok (.if_icmp .gt 40, 3) := by decide +kernel
theorem dX5_depthsOfYes_24 : decode cX5_depthsOfYes 24 = .ok (.aload_n 0, 1) := by decide +kernel
theorem dX5_depthsOfYes_25 : decode cX5_depthsOfYes 25 = .ok (.getfield 43, 3) := by decide +kernel
theorem dX5_depthsOfYes_28 : decode cX5_depthsOfYes 28 = .ok (.iload 4, 2) := by decide +kernel
theorem dX5_depthsOfYes_30 : decode cX5_depthsOfYes 30 = .ok (.putfield 371, 3) := by decide +kernel
theorem dX5_depthsOfYes_33 : decode cX5_depthsOfYes 33 = .ok (.aload_n 0, 1) := by decide +kernel
theorem dX5_depthsOfYes_34 : decode cX5_depthsOfYes 34 = .ok (.getfield 43, 3) := by decide +kernel
theorem dX5_depthsOfYes_37 : decode cX5_depthsOfYes 37 = .ok (.aload_n 0, 1) := by decide +kernel
theorem dX5_depthsOfYes_38 : decode cX5_depthsOfYes 38 = .ok (.getfield 53, 3) := by decide +kernel
theorem dX5_depthsOfYes_41 : decode cX5_depthsOfYes 41 = .ok (.invokevirtual 236, 3) := by decide +kernel
theorem dX5_depthsOfYes_44 : decode cX5_depthsOfYes 44 = .ok (.iconst 1, 1) := by decide +kernel
theorem dX5_depthsOfYes_45 : decode cX5_depthsOfYes 45 = .ok (.if_icmp .ne 10, 3) := by decide +kernel
theorem dX5_depthsOfYes_48 : decode cX5_depthsOfYes 48 = .ok (.lload_n 2, 1) := by decide +kernel
theorem dX5_depthsOfYes_49 : decode cX5_depthsOfYes 49 = .ok (.lconst 1, 1) := by decide +kernel
theorem dX5_depthsOfYes_50 : decode cX5_depthsOfYes 50 = .ok (.iload 4, 2) := by decide +kernel
theorem dX5_depthsOfYes_52 : decode cX5_depthsOfYes 52 = .ok (.lshl, 1) := by decide +kernel
theorem dX5_depthsOfYes_53 : decode cX5_depthsOfYes 53 = .ok (.lor, 1) := by decide +kernel
theorem dX5_depthsOfYes_54 : decode cX5_depthsOfYes 54 = .ok (.lstore_n 2, 1) := by decide +kernel
theorem dX5_depthsOfYes_55 : decode cX5_depthsOfYes 55 = .ok (.iinc 4 1, 3) := by decide +kernel
theorem dX5_depthsOfYes_58 : decode cX5_depthsOfYes 58 = .ok (.goto (-41), 3) := by decide +kernel
theorem dX5_depthsOfYes_61 : decode cX5_depthsOfYes 61 = .ok (.lload_n 2, 1) := by decide +kernel
theorem dX5_depthsOfYes_62 : decode cX5_depthsOfYes 62 = .ok (.lreturn, 1) := by decide +kernel
theorem dX5_voicesOfYes_0 : decode cX5_voicesOfYes 0 = .ok (.iconst 0, 1) := by decide +kernel
theorem dX5_voicesOfYes_1 : decode cX5_voicesOfYes 1 = .ok (.istore_n 3, 1) := by decide +kernel
theorem dX5_voicesOfYes_2 : decode cX5_voicesOfYes 2 = .ok (.iconst 0, 1) := by decide +kernel
theorem dX5_voicesOfYes_3 : decode cX5_voicesOfYes 3 = .ok (.istore 4, 2) := by decide +kernel
theorem dX5_voicesOfYes_5 : decode cX5_voicesOfYes 5 = .ok (.iload 4, 2) := by decide +kernel
theorem dX5_voicesOfYes_7 : decode cX5_voicesOfYes 7 = .ok (.aload_n 0, 1) := by decide +kernel
theorem dX5_voicesOfYes_8 : decode cX5_voicesOfYes 8 = .ok (.getfield 12, 3) := by decide +kernel
theorem dX5_voicesOfYes_11 : decode cX5_voicesOfYes 11 = .ok (.getfield 167, 3) := by decide +kernel
theorem dX5_voicesOfYes_14 : decode cX5_voicesOfYes 14 = .ok (.if_icmp .ge 60, 3) := by decide +kernel
theorem dX5_voicesOfYes_17 : decode cX5_voicesOfYes 17 = .ok (.aload_n 0, 1) := by decide +kernel
theorem dX5_voicesOfYes_18 : decode cX5_voicesOfYes 18 = .ok (.getfield 43, 3) := by decide +kernel
theorem dX5_voicesOfYes_21 : decode cX5_voicesOfYes 21 = .ok (.aload_n 0, 1) := by decide +kernel
theorem dX5_voicesOfYes_22 : decode cX5_voicesOfYes 22 = .ok (.getfield 12, 3) := by decide +kernel
theorem dX5_voicesOfYes_25 : decode cX5_voicesOfYes 25 = .ok (.iload 4, 2) := by decide +kernel
theorem dX5_voicesOfYes_27 : decode cX5_voicesOfYes 27 = .ok (.invokevirtual 148, 3) := by decide +kernel
theorem dX5_voicesOfYes_30 : decode cX5_voicesOfYes 30 = .ok (.aload_n 0, 1) := by decide +kernel
theorem dX5_voicesOfYes_31 : decode cX5_voicesOfYes 31 = .ok (.getfield 43, 3) := by decide +kernel
theorem dX5_voicesOfYes_34 : decode cX5_voicesOfYes 34 = .ok (.iload_n 1, 1) := by decide +kernel
theorem dX5_voicesOfYes_35 : decode cX5_voicesOfYes 35 = .ok (.putfield 371, 3) := by decide +kernel
theorem dX5_voicesOfYes_38 : decode cX5_voicesOfYes 38 = .ok (.aload_n 0, 1) := by decide +kernel
theorem dX5_voicesOfYes_39 : decode cX5_voicesOfYes 39 = .ok (.getfield 43, 3) := by decide +kernel
theorem dX5_voicesOfYes_42 : decode cX5_voicesOfYes 42 = .ok (.iload_n 2, 1) := by decide +kernel
theorem dX5_voicesOfYes_43 : decode cX5_voicesOfYes 43 = .ok (.putfield 372, 3) := by decide +kernel
theorem dX5_voicesOfYes_46 : decode cX5_voicesOfYes 46 = .ok (.aload_n 0, 1) := by decide +kernel
theorem dX5_voicesOfYes_47 : decode cX5_voicesOfYes 47 = .ok (.getfield 43, 3) := by decide +kernel
theorem dX5_voicesOfYes_50 : decode cX5_voicesOfYes 50 = .ok (.aload_n 0, 1) := by decide +kernel
theorem dX5_voicesOfYes_51 : decode cX5_voicesOfYes 51 = .ok (.getfield 53, 3) := by decide +kernel
theorem dX5_voicesOfYes_54 : decode cX5_voicesOfYes 54 = .ok (.invokevirtual 236, 3) := by decide +kernel
theorem dX5_voicesOfYes_57 : decode cX5_voicesOfYes 57 = .ok (.iconst 1, 1) := by decide +kernel
theorem dX5_voicesOfYes_58 : decode cX5_voicesOfYes 58 = .ok (.if_icmp .ne 10, 3) := by decide +kernel
theorem dX5_voicesOfYes_61 : decode cX5_voicesOfYes 61 = .ok (.iload_n 3, 1) := by decide +kernel
theorem dX5_voicesOfYes_62 : decode cX5_voicesOfYes 62 = .ok (.iconst 1, 1) := by decide +kernel
theorem dX5_voicesOfYes_63 : decode cX5_voicesOfYes 63 = .ok (.iload 4, 2) := by decide +kernel
theorem dX5_voicesOfYes_65 : decode cX5_voicesOfYes 65 = .ok (.ishl, 1) := by decide +kernel
theorem dX5_voicesOfYes_66 : decode cX5_voicesOfYes 66 = .ok (.ior, 1) := by decide +kernel
theorem dX5_voicesOfYes_67 : decode cX5_voicesOfYes 67 = .ok (.istore_n 3, 1) := by decide +kernel
theorem dX5_voicesOfYes_68 : decode cX5_voicesOfYes 68 = .ok (.iinc 4 1, 3) := by decide +kernel
theorem dX5_voicesOfYes_71 : decode cX5_voicesOfYes 71 = .ok (.goto (-66), 3) := by decide +kernel
theorem dX5_voicesOfYes_74 : decode cX5_voicesOfYes 74 = .ok (.iload_n 3, 1) := by decide +kernel
theorem dX5_voicesOfYes_75 : decode cX5_voicesOfYes 75 = .ok (.ireturn, 1) := by decide +kernel
theorem dX5_areTwins_0 : decode cX5_areTwins 0 = .ok (.aload_n 0, 1) := by decide +kernel
theorem dX5_areTwins_1 : decode cX5_areTwins 1 = .ok (.getfield 43, 3) := by decide +kernel
theorem dX5_areTwins_4 : decode cX5_areTwins 4 = .ok (.aload_n 0, 1) := by decide +kernel
theorem dX5_areTwins_5 : decode cX5_areTwins 5 = .ok (.getfield 12, 3) := by decide +kernel
theorem dX5_areTwins_8 : decode cX5_areTwins 8 = .ok (.iload_n 1, 1) := by decide +kernel
theorem dX5_areTwins_9 : decode cX5_areTwins 9 = .ok (.invokevirtual 148, 3) := by decide +kernel
theorem dX5_areTwins_12 : decode cX5_areTwins 12 = .ok (.aload_n 0, 1) := by decide +kernel
theorem dX5_areTwins_13 : decode cX5_areTwins 13 = .ok (.getfield 47, 3) := by decide +kernel
theorem dX5_areTwins_16 : decode cX5_areTwins 16 = .ok (.aload_n 0, 1) := by decide +kernel
theorem dX5_areTwins_17 : decode cX5_areTwins 17 = .ok (.getfield 12, 3) := by decide +kernel
theorem dX5_areTwins_20 : decode cX5_areTwins 20 = .ok (.iload_n 2, 1) := by decide +kernel
theorem dX5_areTwins_21 : decode cX5_areTwins 21 = .ok (.invokevirtual 148, 3) := by decide +kernel
theorem dX5_areTwins_24 : decode cX5_areTwins 24 = .ok (.iconst 0, 1) := by decide +kernel
theorem dX5_areTwins_25 : decode cX5_areTwins 25 = .ok (.istore_n 3, 1) := by decide +kernel
theorem dX5_areTwins_26 : decode cX5_areTwins 26 = .ok (.iload_n 3, 1) := by decide +kernel
theorem dX5_areTwins_27 : decode cX5_areTwins 27 = .ok (.bipush 40, 2) := by decide +kernel
theorem dX5_areTwins_29 : decode cX5_areTwins 29 = .ok (.if_icmp .ge 30, 3) := by decide +kernel
theorem dX5_areTwins_32 : decode cX5_areTwins 32 = .ok (.aload_n 0, 1) := by decide +kernel
theorem dX5_areTwins_33 : decode cX5_areTwins 33 = .ok (.getfield 43, 3) := by decide +kernel
theorem dX5_areTwins_36 : decode cX5_areTwins 36 = .ok (.iload_n 3, 1) := by decide +kernel
theorem dX5_areTwins_37 : decode cX5_areTwins 37 = .ok (.invokevirtual 213, 3) := by decide +kernel
theorem dX5_areTwins_40 : decode cX5_areTwins 40 = .ok (.aload_n 0, 1) := by decide +kernel
theorem dX5_areTwins_41 : decode cX5_areTwins 41 = .ok (.getfield 47, 3) := by decide +kernel
theorem dX5_areTwins_44 : decode cX5_areTwins 44 = .ok (.iload_n 3, 1) := by decide +kernel
theorem dX5_areTwins_45 : decode cX5_areTwins 45 = .ok (.invokevirtual 213, 3) := by decide +kernel
theorem dX5_areTwins_48 : decode cX5_areTwins 48 = .ok (.if_icmp .eq 5, 3) := by decide +kernel
theorem dX5_areTwins_51 : decode cX5_areTwins 51 = .ok (.iconst 0, 1) := by decide +kernel
theorem dX5_areTwins_52 : decode cX5_areTwins 52 = .ok (.ireturn, 1) := by decide +kernel
theorem dX5_areTwins_53 : decode cX5_areTwins 53 = .ok (.iinc 3 1, 3) := by decide +kernel
theorem dX5_areTwins_56 : decode cX5_areTwins 56 = .ok (.goto (-30), 3) := by decide +kernel
theorem dX5_areTwins_59 : decode cX5_areTwins 59 = .ok (.iconst 1, 1) := by decide +kernel
theorem dX5_areTwins_60 : decode cX5_areTwins 60 = .ok (.ireturn, 1) := by decide +kernel
theorem dX5_findShortestYes_0 : decode cX5_findShortestYes 0 = .ok (.aload_n 0, 1) := by decide +kernel
theorem dX5_findShortestYes_1 : decode cX5_findShortestYes 1 = .ok (.getfield 43, 3) := by decide +kernel
theorem dX5_findShortestYes_4 : decode cX5_findShortestYes 4 = .ok (.aload_n 0, 1) := by decide +kernel
theorem dX5_findShortestYes_5 : decode cX5_findShortestYes 5 = .ok (.getfield 12, 3) := by decide +kernel
theorem dX5_findShortestYes_8 : decode cX5_findShortestYes 8 = .ok (.iload_n 1, 1) := by decide +kernel
theorem dX5_findShortestYes_9 : decode cX5_findShortestYes 9 = .ok (.invokevirtual 148, 3) := by decide +kernel
theorem dX5_findShortestYes_12 : decode cX5_findShortestYes 12 = .ok (.iconst 0, 1) := by decide +kernel
theorem dX5_findShortestYes_13 : decode cX5_findShortestYes 13 = .ok (.istore_n 2, 1) := by decide +kernel
theorem dX5_findShortestYes_14 : decode cX5_findShortestYes 14 = .ok (.iload_n 2, 1) := by decide +kernel
theorem dX5_findShortestYes_15 : decode cX5_findShortestYes 15 = .ok (.bipush 40, 2) := by decide +kernel
theorem dX5_findShortestYes_17 : decode cX5_findShortestYes 17 = .ok (.if_icmp .ge 40, 3) := by decide +kernel
theorem dX5_findShortestYes_20 : decode cX5_findShortestYes 20 = .ok (.aload_n 0, 1) := by decide +kernel
theorem dX5_findShortestYes_21 : decode cX5_findShortestYes 21 = .ok (.getfield 57, 3) := by decide +kernel
theorem dX5_findShortestYes_24 : decode cX5_findShortestYes 24 = .ok (.invokevirtual 141, 3) := by decide +kernel
theorem dX5_findShortestYes_27 : decode cX5_findShortestYes 27 = .ok (.aload_n 0, 1) := by decide +kernel
theorem dX5_findShortestYes_28 : decode cX5_findShortestYes 28 = .ok (.getfield 57, 3) := by decide +kernel
theorem dX5_findShortestYes_31 : decode cX5_findShortestYes 31 = .ok (.iload_n 2, 1) := by decide +kernel
theorem dX5_findShortestYes_32 : decode cX5_findShortestYes 32 = .ok (.invokevirtual 144, 3) := by decide +kernel
theorem dX5_findShortestYes_35 : decode cX5_findShortestYes 35 = .ok (.aload_n 0, 1) := by decide +kernel
theorem dX5_findShortestYes_36 : decode cX5_findShortestYes 36 = .ok (.getfield 43, 3) := by decide +kernel
theorem dX5_findShortestYes_39 : decode cX5_findShortestYes 39 = .ok (.aload_n 0, 1) := by decide +kernel
theorem dX5_findShortestYes_40 : decode cX5_findShortestYes 40 = .ok (.getfield 57, 3) := by decide +kernel
theorem dX5_findShortestYes_43 : decode cX5_findShortestYes 43 = .ok (.invokevirtual 236, 3) := by decide +kernel
theorem dX5_findShortestYes_46 : decode cX5_findShortestYes 46 = .ok (.iconst 1, 1) := by decide +kernel
theorem dX5_findShortestYes_47 : decode cX5_findShortestYes 47 = .ok (.if_icmp .ne 4, 3) := by decide +kernel
theorem dX5_findShortestYes_50 : decode cX5_findShortestYes 50 = .ok (.return_, 1) := by decide +kernel
theorem dX5_findShortestYes_51 : decode cX5_findShortestYes 51 = .ok (.iinc 2 1, 3) := by decide +kernel
theorem dX5_findShortestYes_54 : decode cX5_findShortestYes 54 = .ok (.goto (-40), 3) := by decide +kernel
theorem dX5_findShortestYes_57 : decode cX5_findShortestYes 57 = .ok (.iconst 0, 1) := by decide +kernel
theorem dX5_findShortestYes_58 : decode cX5_findShortestYes 58 = .ok (.istore_n 2, 1) := by decide +kernel
theorem dX5_findShortestYes_59 : decode cX5_findShortestYes 59 = .ok (.iload_n 2, 1) := by decide +kernel
theorem dX5_findShortestYes_60 : decode cX5_findShortestYes 60 = .ok (.bipush 40, 2) := by decide +kernel
theorem dX5_findShortestYes_62 : decode cX5_findShortestYes 62 = .ok (.if_icmp .ge 62, 3) := by decide +kernel
theorem dX5_findShortestYes_65 : decode cX5_findShortestYes 65 = .ok (.iconst 0, 1) := by decide +kernel
theorem dX5_findShortestYes_66 : decode cX5_findShortestYes 66 = .ok (.istore_n 3, 1) := by decide +kernel
theorem dX5_findShortestYes_67 : decode cX5_findShortestYes 67 = .ok (.iload_n 3, 1) := by decide +kernel
theorem dX5_findShortestYes_68 : decode cX5_findShortestYes 68 = .ok (.bipush 40, 2) := by decide +kernel
theorem dX5_findShortestYes_70 : decode cX5_findShortestYes 70 = .ok (.if_icmp .ge 48, 3) := by decide +kernel
theorem dX5_findShortestYes_73 : decode cX5_findShortestYes 73 = .ok (.aload_n 0, 1) := by decide +kernel
theorem dX5_findShortestYes_74 : decode cX5_findShortestYes 74 = .ok (.getfield 57, 3) := by decide +kernel
theorem dX5_findShortestYes_77 : decode cX5_findShortestYes 77 = .ok (.invokevirtual 141, 3) := by decide +kernel
theorem dX5_findShortestYes_80 : decode cX5_findShortestYes 80 = .ok (.aload_n 0, 1) := by decide +kernel
theorem dX5_findShortestYes_81 : decode cX5_findShortestYes 81 = .ok (.getfield 57, 3) := by decide +kernel
theorem dX5_findShortestYes_84 : decode cX5_findShortestYes 84 = .ok (.iload_n 2, 1) := by decide +kernel
theorem dX5_findShortestYes_85 : decode cX5_findShortestYes 85 = .ok (.invokevirtual 144, 3) := by decide +kernel
theorem dX5_findShortestYes_88 : decode cX5_findShortestYes 88 = .ok (.aload_n 0, 1) := by decide +kernel
theorem dX5_findShortestYes_89 : decode cX5_findShortestYes 89 = .ok (.getfield 57, 3) := by decide +kernel
theorem dX5_findShortestYes_92 : decode cX5_findShortestYes 92 = .ok (.iload_n 3, 1) := by decide +kernel
theorem dX5_findShortestYes_93 : decode cX5_findShortestYes 93 = .ok (.invokevirtual 144, 3) := by decide +kernel
theorem dX5_findShortestYes_96 : decode cX5_findShortestYes 96 = .ok (.aload_n 0, 1) := by decide +kernel
theorem dX5_findShortestYes_97 : decode cX5_findShortestYes 97 = .ok (.getfield 43, 3) := by decide +kernel
theorem dX5_findShortestYes_100 : decode cX5_findShortestYes 100 = .ok (.aload_n 0, 1) := by decide +kernel
theorem dX5_findShortestYes_101 : decode cX5_findShortestYes 101 = .ok (.getfield 57, 3) := by decide +kernel
theorem dX5_findShortestYes_104 : decode cX5_findShortestYes 104 = .ok (.invokevirtual 236, 3) := by decide +kernel
theorem dX5_findShortestYes_107 : decode cX5_findShortestYes 107 = .ok (.iconst 1, 1) := by decide +kernel
theorem dX5_findShortestYes_108 : decode cX5_findShortestYes 108 = .ok (.if_icmp .ne 4, 3) := by decide +kernel
theorem dX5_findShortestYes_111 : decode cX5_findShortestYes 111 = .ok (.return_, 1) := by decide +kernel
theorem dX5_findShortestYes_112 : decode cX5_findShortestYes 112 = .ok (.iinc 3 1, 3) := by decide +kernel
theorem dX5_findShortestYes_115 : decode cX5_findShortestYes 115 = .ok (.goto (-48), 3) := by decide +kernel
theorem dX5_findShortestYes_118 : decode cX5_findShortestYes 118 = .ok (.iinc 2 1, 3) := by decide +kernel
theorem dX5_findShortestYes_121 : decode cX5_findShortestYes 121 = .ok (.goto (-62), 3) := by decide +kernel
theorem dX5_findShortestYes_124 : decode cX5_findShortestYes 124 = .ok (.aload_n 0, 1) := by decide +kernel
theorem dX5_findShortestYes_125 : decode cX5_findShortestYes 125 = .ok (.getfield 57, 3) := by decide +kernel
theorem dX5_findShortestYes_128 : decode cX5_findShortestYes 128 = .ok (.invokevirtual 141, 3) := by decide +kernel
theorem dX5_findShortestYes_131 : decode cX5_findShortestYes 131 = .ok (.return_, 1) := by decide +kernel
theorem dX5_depthsOfEcho_0 : decode cX5_depthsOfEcho 0 = .ok (.aload_n 0, 1) := by decide +kernel
theorem dX5_depthsOfEcho_1 : decode cX5_depthsOfEcho 1 = .ok (.getfield 43, 3) := by decide +kernel
theorem dX5_depthsOfEcho_4 : decode cX5_depthsOfEcho 4 = .ok (.aload_n 0, 1) := by decide +kernel
theorem dX5_depthsOfEcho_5 : decode cX5_depthsOfEcho 5 = .ok (.getfield 12, 3) := by decide +kernel
theorem dX5_depthsOfEcho_8 : decode cX5_depthsOfEcho 8 = .ok (.iload_n 1, 1) := by decide +kernel
theorem dX5_depthsOfEcho_9 : decode cX5_depthsOfEcho 9 = .ok (.invokevirtual 148, 3) := by decide +kernel
theorem dX5_depthsOfEcho_12 : decode cX5_depthsOfEcho 12 = .ok (.lconst 0, 1) := by decide +kernel
theorem dX5_depthsOfEcho_13 : decode cX5_depthsOfEcho 13 = .ok (.lstore 4, 2) := by decide +kernel
theorem dX5_depthsOfEcho_15 : decode cX5_depthsOfEcho 15 = .ok (.iconst 0, 1) := by decide +kernel
theorem dX5_depthsOfEcho_16 : decode cX5_depthsOfEcho 16 = .ok (.istore 6, 2) := by decide +kernel
theorem dX5_depthsOfEcho_18 : decode cX5_depthsOfEcho 18 = .ok (.iload 6, 2) := by decide +kernel
theorem dX5_depthsOfEcho_20 : decode cX5_depthsOfEcho 20 = .ok (.bipush 40, 2) := by decide +kernel
theorem dX5_depthsOfEcho_22 : decode cX5_depthsOfEcho 22 = .ok (.if_icmp .gt 36, 3) := by decide +kernel
theorem dX5_depthsOfEcho_25 : decode cX5_depthsOfEcho 25 = .ok (.aload_n 0, 1) := by decide +kernel
theorem dX5_depthsOfEcho_26 : decode cX5_depthsOfEcho 26 = .ok (.getfield 43, 3) := by decide +kernel
theorem dX5_depthsOfEcho_29 : decode cX5_depthsOfEcho 29 = .ok (.iload 6, 2) := by decide +kernel
theorem dX5_depthsOfEcho_31 : decode cX5_depthsOfEcho 31 = .ok (.putfield 371, 3) := by decide +kernel
theorem dX5_depthsOfEcho_34 : decode cX5_depthsOfEcho 34 = .ok (.aload_n 0, 1) := by decide +kernel
theorem dX5_depthsOfEcho_35 : decode cX5_depthsOfEcho 35 = .ok (.iload_n 2, 1) := by decide +kernel
theorem dX5_depthsOfEcho_36 : decode cX5_depthsOfEcho 36 = .ok (.iload_n 3, 1) := by decide +kernel
theorem dX5_depthsOfEcho_37 : decode cX5_depthsOfEcho 37 = .ok (.invokevirtual 373, 3) := by decide +kernel
theorem dX5_depthsOfEcho_40 : decode cX5_depthsOfEcho 40 = .ok (.ifCond .eq 12, 3) := by decide +kernel
theorem dX5_depthsOfEcho_43 : decode cX5_depthsOfEcho 43 = .ok (.lload 4, 2) := by decide +kernel
theorem dX5_depthsOfEcho_45 : decode cX5_depthsOfEcho 45 = .ok (.lconst 1, 1) := by decide +kernel
theorem dX5_depthsOfEcho_46 : decode cX5_depthsOfEcho 46 = .ok (.iload 6, 2) := by decide +kernel
theorem dX5_depthsOfEcho_48 : decode cX5_depthsOfEcho 48 = .ok (.lshl, 1) := by decide +kernel
theorem dX5_depthsOfEcho_49 : decode cX5_depthsOfEcho 49 = .ok (.lor, 1) := by decide +kernel
theorem dX5_depthsOfEcho_50 : decode cX5_depthsOfEcho 50 = .ok (.lstore 4, 2) := by decide +kernel
theorem dX5_depthsOfEcho_52 : decode cX5_depthsOfEcho 52 = .ok (.iinc 6 1, 3) := by decide +kernel
theorem dX5_depthsOfEcho_55 : decode cX5_depthsOfEcho 55 = .ok (.goto (-37), 3) := by decide +kernel
theorem dX5_depthsOfEcho_58 : decode cX5_depthsOfEcho 58 = .ok (.lload 4, 2) := by decide +kernel
theorem dX5_depthsOfEcho_60 : decode cX5_depthsOfEcho 60 = .ok (.lreturn, 1) := by decide +kernel
theorem dX5_kindsOfEcho_0 : decode cX5_kindsOfEcho 0 = .ok (.aload_n 0, 1) := by decide +kernel
theorem dX5_kindsOfEcho_1 : decode cX5_kindsOfEcho 1 = .ok (.getfield 43, 3) := by decide +kernel
theorem dX5_kindsOfEcho_4 : decode cX5_kindsOfEcho 4 = .ok (.aload_n 0, 1) := by decide +kernel
theorem dX5_kindsOfEcho_5 : decode cX5_kindsOfEcho 5 = .ok (.getfield 12, 3) := by decide +kernel
theorem dX5_kindsOfEcho_8 : decode cX5_kindsOfEcho 8 = .ok (.iload_n 1, 1) := by decide +kernel
theorem dX5_kindsOfEcho_9 : decode cX5_kindsOfEcho 9 = .ok (.invokevirtual 148, 3) := by decide +kernel
theorem dX5_kindsOfEcho_12 : decode cX5_kindsOfEcho 12 = .ok (.iconst 0, 1) := by decide +kernel
theorem dX5_kindsOfEcho_13 : decode cX5_kindsOfEcho 13 = .ok (.istore 4, 2) := by decide +kernel
theorem dX5_kindsOfEcho_15 : decode cX5_kindsOfEcho 15 = .ok (.iconst 0, 1) := by decide +kernel
theorem dX5_kindsOfEcho_16 : decode cX5_kindsOfEcho 16 = .ok (.istore 5, 2) := by decide +kernel
theorem dX5_kindsOfEcho_18 : decode cX5_kindsOfEcho 18 = .ok (.iload 5, 2) := by decide +kernel
theorem dX5_kindsOfEcho_20 : decode cX5_kindsOfEcho 20 = .ok (.iconst 5, 1) := by decide +kernel
theorem dX5_kindsOfEcho_21 : decode cX5_kindsOfEcho 21 = .ok (.if_icmp .gt 36, 3) := by decide +kernel
theorem dX5_kindsOfEcho_24 : decode cX5_kindsOfEcho 24 = .ok (.aload_n 0, 1) := by decide +kernel
theorem dX5_kindsOfEcho_25 : decode cX5_kindsOfEcho 25 = .ok (.getfield 43, 3) := by decide +kernel
theorem dX5_kindsOfEcho_28 : decode cX5_kindsOfEcho 28 = .ok (.iload 5, 2) := by decide +kernel
theorem dX5_kindsOfEcho_30 : decode cX5_kindsOfEcho 30 = .ok (.putfield 376, 3) := by decide +kernel
theorem dX5_kindsOfEcho_33 : decode cX5_kindsOfEcho 33 = .ok (.aload_n 0, 1) := by decide +kernel
theorem dX5_kindsOfEcho_34 : decode cX5_kindsOfEcho 34 = .ok (.iload_n 2, 1) := by decide +kernel
theorem dX5_kindsOfEcho_35 : decode cX5_kindsOfEcho 35 = .ok (.iload_n 3, 1) := by decide +kernel
theorem dX5_kindsOfEcho_36 : decode cX5_kindsOfEcho 36 = .ok (.invokevirtual 373, 3) := by decide +kernel
theorem dX5_kindsOfEcho_39 : decode cX5_kindsOfEcho 39 = .ok (.ifCond .eq 12, 3) := by decide +kernel
theorem dX5_kindsOfEcho_42 : decode cX5_kindsOfEcho 42 = .ok (.iload 4, 2) := by decide +kernel
theorem dX5_kindsOfEcho_44 : decode cX5_kindsOfEcho 44 = .ok (.iconst 1, 1) := by decide +kernel
theorem dX5_kindsOfEcho_45 : decode cX5_kindsOfEcho 45 = .ok (.iload 5, 2) := by decide +kernel
theorem dX5_kindsOfEcho_47 : decode cX5_kindsOfEcho 47 = .ok (.ishl, 1) := by decide +kernel
theorem dX5_kindsOfEcho_48 : decode cX5_kindsOfEcho 48 = .ok (.ior, 1) := by decide +kernel
theorem dX5_kindsOfEcho_49 : decode cX5_kindsOfEcho 49 = .ok (.istore 4, 2) := by decide +kernel
theorem dX5_kindsOfEcho_51 : decode cX5_kindsOfEcho 51 = .ok (.iinc 5 1, 3) := by decide +kernel
theorem dX5_kindsOfEcho_54 : decode cX5_kindsOfEcho 54 = .ok (.goto (-36), 3) := by decide +kernel
theorem dX5_kindsOfEcho_57 : decode cX5_kindsOfEcho 57 = .ok (.iload 4, 2) := by decide +kernel
theorem dX5_kindsOfEcho_59 : decode cX5_kindsOfEcho 59 = .ok (.ireturn, 1) := by decide +kernel
theorem dX5_pitchesOfEcho_0 : decode cX5_pitchesOfEcho 0 = .ok (.aload_n 0, 1) := by decide +kernel
theorem dX5_pitchesOfEcho_1 : decode cX5_pitchesOfEcho 1 = .ok (.getfield 43, 3) := by decide +kernel
theorem dX5_pitchesOfEcho_4 : decode cX5_pitchesOfEcho 4 = .ok (.aload_n 0, 1) := by decide +kernel
theorem dX5_pitchesOfEcho_5 : decode cX5_pitchesOfEcho 5 = .ok (.getfield 12, 3) := by decide +kernel
theorem dX5_pitchesOfEcho_8 : decode cX5_pitchesOfEcho 8 = .ok (.iload_n 1, 1) := by decide +kernel
theorem dX5_pitchesOfEcho_9 : decode cX5_pitchesOfEcho 9 = .ok (.invokevirtual 148, 3) := by decide +kernel
theorem dX5_pitchesOfEcho_12 : decode cX5_pitchesOfEcho 12 = .ok (.iconst 0, 1) := by decide +kernel
theorem dX5_pitchesOfEcho_13 : decode cX5_pitchesOfEcho 13 = .ok (.istore 4, 2) := by decide +kernel
theorem dX5_pitchesOfEcho_15 : decode cX5_pitchesOfEcho 15 = .ok (.iconst 0, 1) := by decide +kernel
theorem dX5_pitchesOfEcho_16 : decode cX5_pitchesOfEcho 16 = .ok (.istore 5, 2) := by decide +kernel
theorem dX5_pitchesOfEcho_18 : decode cX5_pitchesOfEcho 18 = .ok (.iload 5, 2) := by decide +kernel
theorem dX5_pitchesOfEcho_20 : decode cX5_pitchesOfEcho 20 = .ok (.bipush 20, 2) := by decide +kernel
theorem dX5_pitchesOfEcho_22 : decode cX5_pitchesOfEcho 22 = .ok (.if_icmp .gt 36, 3) := by decide +kernel
theorem dX5_pitchesOfEcho_25 : decode cX5_pitchesOfEcho 25 = .ok (.aload_n 0, 1) := by decide +kernel
theorem dX5_pitchesOfEcho_26 : decode cX5_pitchesOfEcho 26 = .ok (.getfield 43, 3) := by decide +kernel
theorem dX5_pitchesOfEcho_29 : decode cX5_pitchesOfEcho 29 = .ok (.iload 5, 2) := by decide +kernel
theorem dX5_pitchesOfEcho_31 : decode cX5_pitchesOfEcho 31 = .ok (.putfield 251, 3) := by decide +kernel
theorem dX5_pitchesOfEcho_34 : decode cX5_pitchesOfEcho 34 = .ok (.aload_n 0, 1) := by decide +kernel
theorem dX5_pitchesOfEcho_35 : decode cX5_pitchesOfEcho 35 = .ok (.iload_n 2, 1) := by decide +kernel
theorem dX5_pitchesOfEcho_36 : decode cX5_pitchesOfEcho 36 = .ok (.iload_n 3, 1) := by decide +kernel
theorem dX5_pitchesOfEcho_37 : decode cX5_pitchesOfEcho 37 = .ok (.invokevirtual 373, 3) := by decide +kernel
theorem dX5_pitchesOfEcho_40 : decode cX5_pitchesOfEcho 40 = .ok (.ifCond .eq 12, 3) := by decide +kernel
theorem dX5_pitchesOfEcho_43 : decode cX5_pitchesOfEcho 43 = .ok (.iload 4, 2) := by decide +kernel
theorem dX5_pitchesOfEcho_45 : decode cX5_pitchesOfEcho 45 = .ok (.iconst 1, 1) := by decide +kernel
theorem dX5_pitchesOfEcho_46 : decode cX5_pitchesOfEcho 46 = .ok (.iload 5, 2) := by decide +kernel
theorem dX5_pitchesOfEcho_48 : decode cX5_pitchesOfEcho 48 = .ok (.ishl, 1) := by decide +kernel
theorem dX5_pitchesOfEcho_49 : decode cX5_pitchesOfEcho 49 = .ok (.ior, 1) := by decide +kernel
theorem dX5_pitchesOfEcho_50 : decode cX5_pitchesOfEcho 50 = .ok (.istore 4, 2) := by decide +kernel
theorem dX5_pitchesOfEcho_52 : decode cX5_pitchesOfEcho 52 = .ok (.iinc 5 1, 3) := by decide +kernel
theorem dX5_pitchesOfEcho_55 : decode cX5_pitchesOfEcho 55 = .ok (.goto (-37), 3) := by decide +kernel
theorem dX5_pitchesOfEcho_58 : decode cX5_pitchesOfEcho 58 = .ok (.iload 4, 2) := by decide +kernel
theorem dX5_pitchesOfEcho_60 : decode cX5_pitchesOfEcho 60 = .ok (.ireturn, 1) := by decide +kernel
theorem dX5_echoIsRow_0 : decode cX5_echoIsRow 0 = .ok (.aload_n 0, 1) := by decide +kernel
theorem dX5_echoIsRow_1 : decode cX5_echoIsRow 1 = .ok (.getfield 43, 3) := by decide +kernel
theorem dX5_echoIsRow_4 : decode cX5_echoIsRow 4 = .ok (.aload_n 0, 1) := by decide +kernel
theorem dX5_echoIsRow_5 : decode cX5_echoIsRow 5 = .ok (.getfield 53, 3) := by decide +kernel
theorem dX5_echoIsRow_8 : decode cX5_echoIsRow 8 = .ok (.invokevirtual 152, 3) := by decide +kernel
theorem dX5_echoIsRow_11 : decode cX5_echoIsRow 11 = .ok (.aload_n 0, 1) := by decide +kernel
theorem dX5_echoIsRow_12 : decode cX5_echoIsRow 12 = .ok (.getfield 43, 3) := by decide +kernel
theorem dX5_echoIsRow_15 : decode cX5_echoIsRow 15 = .ok (.getfield 230, 3) := by decide +kernel
theorem dX5_echoIsRow_18 : decode cX5_echoIsRow 18 = .ok (.iload_n 2, 1) := by decide +kernel
theorem dX5_echoIsRow_19 : decode cX5_echoIsRow 19 = .ok (.if_icmp .eq 5, 3) := by decide +kernel
theorem dX5_echoIsRow_22 : decode cX5_echoIsRow 22 = .ok (.iconst 0, 1) := by decide +kernel
theorem dX5_echoIsRow_23 : decode cX5_echoIsRow 23 = .ok (.ireturn, 1) := by decide +kernel
theorem dX5_echoIsRow_24 : decode cX5_echoIsRow 24 = .ok (.iconst 0, 1) := by decide +kernel
theorem dX5_echoIsRow_25 : decode cX5_echoIsRow 25 = .ok (.istore_n 3, 1) := by decide +kernel
theorem dX5_echoIsRow_26 : decode cX5_echoIsRow 26 = .ok (.iload_n 3, 1) := by decide +kernel
theorem dX5_echoIsRow_27 : decode cX5_echoIsRow 27 = .ok (.iload_n 2, 1) := by decide +kernel
theorem dX5_echoIsRow_28 : decode cX5_echoIsRow 28 = .ok (.if_icmp .ge 33, 3) := by decide +kernel
theorem dX5_echoIsRow_31 : decode cX5_echoIsRow 31 = .ok (.aload_n 0, 1) := by decide +kernel
theorem dX5_echoIsRow_32 : decode cX5_echoIsRow 32 = .ok (.getfield 43, 3) := by decide +kernel
theorem dX5_echoIsRow_35 : decode cX5_echoIsRow 35 = .ok (.iload_n 3, 1) := by decide +kernel
theorem dX5_echoIsRow_36 : decode cX5_echoIsRow 36 = .ok (.invokevirtual 233, 3) := by decide +kernel
theorem dX5_echoIsRow_39 : decode cX5_echoIsRow 39 = .ok (.i2l, 1) := by decide +kernel
theorem dX5_echoIsRow_40 : decode cX5_echoIsRow 40 = .ok (.aload_n 0, 1) := by decide +kernel
theorem dX5_echoIsRow_41 : decode cX5_echoIsRow 41 = .ok (.getfield 25, 3) := by decide +kernel
theorem dX5_echoIsRow_44 : decode cX5_echoIsRow 44 = .ok (.iload_n 1, 1) := by decide +kernel
theorem dX5_echoIsRow_45 : decode cX5_echoIsRow 45 = .ok (.iload_n 3, 1) := by decide +kernel
theorem dX5_echoIsRow_46 : decode cX5_echoIsRow 46 = .ok (.invokevirtual 115, 3) := by decide +kernel
theorem dX5_echoIsRow_49 : decode cX5_echoIsRow 49 = .ok (.lcmp, 1) := by decide +kernel
theorem dX5_echoIsRow_50 : decode cX5_echoIsRow 50 = .ok (.ifCond .eq 5, 3) := by decide +kernel
theorem dX5_echoIsRow_53 : decode cX5_echoIsRow 53 = .ok (.iconst 0, 1) := by decide +kernel
theorem dX5_echoIsRow_54 : decode cX5_echoIsRow 54 = .ok (.ireturn, 1) := by decide +kernel
theorem dX5_echoIsRow_55 : decode cX5_echoIsRow 55 = .ok (.iinc 3 1, 3) := by decide +kernel
theorem dX5_echoIsRow_58 : decode cX5_echoIsRow 58 = .ok (.goto (-32), 3) := by decide +kernel
theorem dX5_echoIsRow_61 : decode cX5_echoIsRow 61 = .ok (.iconst 1, 1) := by decide +kernel
theorem dX5_echoIsRow_62 : decode cX5_echoIsRow 62 = .ok (.ireturn, 1) := by decide +kernel
theorem dX5_mostLeftBehind_0 : decode cX5_mostLeftBehind 0 = .ok (.aload_n 0, 1) := by decide +kernel
theorem dX5_mostLeftBehind_1 : decode cX5_mostLeftBehind 1 = .ok (.getfield 75, 3) := by decide +kernel
theorem dX5_mostLeftBehind_4 : decode cX5_mostLeftBehind 4 = .ok (.iconst 0, 1) := by decide +kernel
theorem dX5_mostLeftBehind_5 : decode cX5_mostLeftBehind 5 = .ok (.invokestatic 379, 3) := by decide +kernel
theorem dX5_mostLeftBehind_8 : decode cX5_mostLeftBehind 8 = .ok (.iconst 0, 1) := by decide +kernel
theorem dX5_mostLeftBehind_9 : decode cX5_mostLeftBehind 9 = .ok (.istore 4, 2) := by decide +kernel
theorem dX5_mostLeftBehind_11 : decode cX5_mostLeftBehind 11 = .ok (.iconst 0, 1) := by decide +kernel
theorem dX5_mostLeftBehind_12 : decode cX5_mostLeftBehind 12 = .ok (.istore 5, 2) := by decide +kernel
theorem dX5_mostLeftBehind_14 : decode cX5_mostLeftBehind 14 = .ok (.iload 5, 2) := by decide +kernel
theorem dX5_mostLeftBehind_16 : decode cX5_mostLeftBehind 16 = .ok (.bipush 40, 2) := by decide +kernel
theorem dX5_mostLeftBehind_18 : decode cX5_mostLeftBehind 18 = .ok (.if_icmp .gt 88, 3) := by decide +kernel
theorem dX5_mostLeftBehind_21 : decode cX5_mostLeftBehind 21 = .ok (.lload_n 2, 1) := by decide +kernel
theorem dX5_mostLeftBehind_22 : decode cX5_mostLeftBehind 22 = .ok (.iload 5, 2) := by decide +kernel
theorem dX5_mostLeftBehind_24 : decode cX5_mostLeftBehind 24 = .ok (.invokestatic 270, 3) := by decide +kernel
theorem dX5_mostLeftBehind_27 : decode cX5_mostLeftBehind 27 = .ok (.ifCond .eq 73, 3) := by decide +kernel
theorem dX5_mostLeftBehind_30 : decode cX5_mostLeftBehind 30 = .ok (.aload_n 0, 1) := by decide +kernel
theorem dX5_mostLeftBehind_31 : decode cX5_mostLeftBehind 31 = .ok (.getfield 43, 3) := by decide +kernel
theorem dX5_mostLeftBehind_34 : decode cX5_mostLeftBehind 34 = .ok (.iload 5, 2) := by decide +kernel
theorem dX5_mostLeftBehind_36 : decode cX5_mostLeftBehind 36 = .ok (.putfield 371, 3) := by decide +kernel
theorem dX5_mostLeftBehind_39 : decode cX5_mostLeftBehind 39 = .ok (.aload_n 0, 1) := by decide +kernel
theorem dX5_mostLeftBehind_40 : decode cX5_mostLeftBehind 40 = .ok (.getfield 43, 3) := by decide +kernel
theorem dX5_mostLeftBehind_43 : decode cX5_mostLeftBehind 43 = .ok (.iload_n 1, 1) := by decide +kernel
theorem dX5_mostLeftBehind_44 : decode cX5_mostLeftBehind 44 = .ok (.invokevirtual 213, 3) := by decide +kernel
theorem dX5_mostLeftBehind_47 : decode cX5_mostLeftBehind 47 = .ok (.istore 6, 2) := by decide +kernel
theorem dX5_mostLeftBehind_49 : decode cX5_mostLeftBehind 49 = .ok (.iload 6, 2) := by decide +kernel
theorem dX5_mostLeftBehind_51 : decode cX5_mostLeftBehind 51 = .ok (.iconst (-1), 1) := by decide +kernel
theorem dX5_mostLeftBehind_52 : decode cX5_mostLeftBehind 52 = .ok (.if_icmp .ne 8, 3) := by decide +kernel
theorem dX5_mostLeftBehind_55 : decode cX5_mostLeftBehind 55 = .ok (.bipush 40, 2) := by decide +kernel
theorem dX5_mostLeftBehind_57 : decode cX5_mostLeftBehind 57 = .ok (.goto 5, 3) := by decide +kernel
theorem dX5_mostLeftBehind_60 : decode cX5_mostLeftBehind 60 = .ok (.iload 6, 2) := by decide +kernel
theorem dX5_mostLeftBehind_62 : decode cX5_mostLeftBehind 62 = .ok (.istore 7, 2) := by decide +kernel
theorem dX5_mostLeftBehind_64 : decode cX5_mostLeftBehind 64 = .ok (.iload 7, 2) := by decide +kernel
theorem dX5_mostLeftBehind_66 : decode cX5_mostLeftBehind 66 = .ok (.iconst 0, 1) := by decide +kernel
theorem dX5_mostLeftBehind_67 : decode cX5_mostLeftBehind 67 = .ok (.bipush 40, 2) := by decide +kernel
theorem dX5_mostLeftBehind_69 : decode cX5_mostLeftBehind 69 = .ok (.invokestatic 82, 3) := by decide +kernel
theorem dX5_mostLeftBehind_72 : decode cX5_mostLeftBehind 72 = .ok (.ifCond .eq 28, 3) := by decide +kernel
theorem dX5_mostLeftBehind_75 : decode cX5_mostLeftBehind 75 = .ok (.aload_n 0, 1) := by decide +kernel
theorem dX5_mostLeftBehind_76 : decode cX5_mostLeftBehind 76 = .ok (.getfield 75, 3) := by decide +kernel
theorem dX5_mostLeftBehind_79 : decode cX5_mostLeftBehind 79 = .ok (.iload 7, 2) := by decide +kernel
theorem dX5_mostLeftBehind_81 : decode cX5_mostLeftBehind 81 = .ok (.dup2, 1) := by decide +kernel
theorem dX5_mostLeftBehind_82 : decode cX5_mostLeftBehind 82 = .ok (.iaload, 1) := by decide +kernel
theorem dX5_mostLeftBehind_83 : decode cX5_mostLeftBehind 83 = .ok (.iconst 1, 1) := by decide +kernel
theorem dX5_mostLeftBehind_84 : decode cX5_mostLeftBehind 84 = .ok (.iadd, 1) := by decide +kernel
theorem dX5_mostLeftBehind_85 : decode cX5_mostLeftBehind 85 = .ok (.iastore, 1) := by decide +kernel
theorem dX5_mostLeftBehind_86 : decode cX5_mostLeftBehind 86 = .ok (.iload 4, 2) := by decide +kernel
theorem dX5_mostLeftBehind_88 : decode cX5_mostLeftBehind 88 = .ok (.aload_n 0, 1) := by decide +kernel
theorem dX5_mostLeftBehind_89 : decode cX5_mostLeftBehind 89 = .ok (.getfield 75, 3) := by decide +kernel
theorem dX5_mostLeftBehind_92 : decode cX5_mostLeftBehind 92 = .ok (.iload 7, 2) := by decide +kernel
theorem dX5_mostLeftBehind_94 : decode cX5_mostLeftBehind 94 = .ok (.iaload, 1) := by decide +kernel
theorem dX5_mostLeftBehind_95 : decode cX5_mostLeftBehind 95 = .ok (.invokestatic 303, 3) := by decide +kernel
theorem dX5_mostLeftBehind_98 : decode cX5_mostLeftBehind 98 = .ok (.istore 4, 2) := by decide +kernel
theorem dX5_mostLeftBehind_100 : decode cX5_mostLeftBehind 100 = .ok (.iinc 5 1, 3) := by decide +kernel
theorem dX5_mostLeftBehind_103 : decode cX5_mostLeftBehind 103 = .ok (.goto (-89), 3) := by decide +kernel
theorem dX5_mostLeftBehind_106 : decode cX5_mostLeftBehind 106 = .ok (.iload 4, 2) := by decide +kernel
theorem dX5_mostLeftBehind_108 : decode cX5_mostLeftBehind 108 = .ok (.ireturn, 1) := by decide +kernel
theorem dX5_findOrder_0 : decode cX5_findOrder 0 = .ok (.iconst 1, 1) := by decide +kernel
theorem dX5_findOrder_1 : decode cX5_findOrder 1 = .ok (.aload_n 0, 1) := by decide +kernel
theorem dX5_findOrder_2 : decode cX5_findOrder 2 = .ok (.getfield 12, 3) := by decide +kernel
theorem dX5_findOrder_5 : decode cX5_findOrder 5 = .ok (.getfield 167, 3) := by decide +kernel
theorem dX5_findOrder_8 : decode cX5_findOrder 8 = .ok (.ishl, 1) := by decide +kernel
theorem dX5_findOrder_9 : decode cX5_findOrder 9 = .ok (.iconst 1, 1) := by decide +kernel
theorem dX5_findOrder_10 : decode cX5_findOrder 10 = .ok (.isub, 1) := by decide +kernel
theorem dX5_findOrder_11 : decode cX5_findOrder 11 = .ok (.istore_n 1, 1) := by decide +kernel
theorem dX5_findOrder_12 : decode cX5_findOrder 12 = .ok (.iload_n 1, 1) := by decide +kernel
theorem dX5_findOrder_13 : decode cX5_findOrder 13 = .ok (.sipush 255, 3) := by decide +kernel
theorem dX5_findOrder_16 : decode cX5_findOrder 16 = .ok (.invokestatic 292, 3) := by decide +kernel
theorem dX5_findOrder_19 : decode cX5_findOrder 19 = .ok (.istore_n 2, 1) := by decide +kernel
theorem dX5_findOrder_20 : decode cX5_findOrder 20 = .ok (.iload_n 2, 1) := by decide +kernel
theorem dX5_findOrder_21 : decode cX5_findOrder 21 = .ok (.ifCond .lt 22, 3) := by decide +kernel
theorem dX5_findOrder_24 : decode cX5_findOrder 24 = .ok (.aload_n 0, 1) := by decide +kernel
theorem dX5_findOrder_25 : decode cX5_findOrder 25 = .ok (.iload_n 2, 1) := by decide +kernel
theorem dX5_findOrder_26 : decode cX5_findOrder 26 = .ok (.aload_n 0, 1) := by decide +kernel
theorem dX5_findOrder_27 : decode cX5_findOrder 27 = .ok (.iload_n 2, 1) := by decide +kernel
theorem dX5_findOrder_28 : decode cX5_findOrder 28 = .ok (.invokestatic 306, 3) := by decide +kernel
theorem dX5_findOrder_31 : decode cX5_findOrder 31 = .ok (.invokevirtual 385, 3) := by decide +kernel
theorem dX5_findOrder_34 : decode cX5_findOrder 34 = .ok (.invokevirtual 388, 3) := by decide +kernel
theorem dX5_findOrder_37 : decode cX5_findOrder 37 = .ok (.iinc 2 (-1), 3) := by decide +kernel
theorem dX5_findOrder_40 : decode cX5_findOrder 40 = .ok (.goto (-20), 3) := by decide +kernel
theorem dX5_findOrder_43 : decode cX5_findOrder 43 = .ok (.return_, 1) := by decide +kernel
theorem dX5_yesesOfPlace_0 : decode cX5_yesesOfPlace 0 = .ok (.iload_n 1, 1) := by decide +kernel
theorem dX5_yesesOfPlace_1 : decode cX5_yesesOfPlace 1 = .ok (.iconst 0, 1) := by decide +kernel
theorem dX5_yesesOfPlace_2 : decode cX5_yesesOfPlace 2 = .ok (.bipush 7, 2) := by decide +kernel
theorem dX5_yesesOfPlace_4 : decode cX5_yesesOfPlace 4 = .ok (.invokestatic 82, 3) := by decide +kernel
theorem dX5_yesesOfPlace_7 : decode cX5_yesesOfPlace 7 = .ok (.ifCond .eq 12, 3) := by decide +kernel
theorem dX5_yesesOfPlace_10 : decode cX5_yesesOfPlace 10 = .ok (.aload_n 0, 1) := by decide +kernel
theorem dX5_yesesOfPlace_11 : decode cX5_yesesOfPlace 11 = .ok (.getfield 60, 3) := by decide +kernel
theorem dX5_yesesOfPlace_14 : decode cX5_yesesOfPlace 14 = .ok (.iload_n 1, 1) := by decide +kernel
theorem dX5_yesesOfPlace_15 : decode cX5_yesesOfPlace 15 = .ok (.iaload, 1) := by decide +kernel
theorem dX5_yesesOfPlace_16 : decode cX5_yesesOfPlace 16 = .ok (.goto 4, 3) := by decide +kernel
theorem dX5_yesesOfPlace_19 : decode cX5_yesesOfPlace 19 = .ok (.iconst 0, 1) := by decide +kernel
theorem dX5_yesesOfPlace_20 : decode cX5_yesesOfPlace 20 = .ok (.ireturn, 1) := by decide +kernel
theorem dX5_findNextVoice_0 : decode cX5_findNextVoice 0 = .ok (.iconst (-1), 1) := by decide +kernel
theorem dX5_findNextVoice_1 : decode cX5_findNextVoice 1 = .ok (.istore_n 3, 1) := by decide +kernel
theorem dX5_findNextVoice_2 : decode cX5_findNextVoice 2 = .ok (.iconst (-1), 1) := by decide +kernel
theorem dX5_findNextVoice_3 : decode cX5_findNextVoice 3 = .ok (.istore 4, 2) := by decide +kernel
theorem dX5_findNextVoice_5 : decode cX5_findNextVoice 5 = .ok (.iconst 0, 1) := by decide +kernel
theorem dX5_findNextVoice_6 : decode cX5_findNextVoice 6 = .ok (.istore 5, 2) := by decide +kernel
theorem dX5_findNextVoice_8 : decode cX5_findNextVoice 8 = .ok (.iload 5, 2) := by decide +kernel
theorem dX5_findNextVoice_10 : decode cX5_findNextVoice 10 = .ok (.aload_n 0, 1) := by decide +kernel
theorem dX5_findNextVoice_11 : decode cX5_findNextVoice 11 = .ok (.getfield 12, 3) := by decide +kernel
theorem dX5_findNextVoice_14 : decode cX5_findNextVoice 14 = .ok (.getfield 167, 3) := by decide +kernel
theorem dX5_findNextVoice_17 : decode cX5_findNextVoice 17 = .ok (.if_icmp .ge 64, 3) := by decide +kernel
theorem dX5_findNextVoice_20 : decode cX5_findNextVoice 20 = .ok (.iload_n 1, 1) := by decide +kernel
theorem dX5_findNextVoice_21 : decode cX5_findNextVoice 21 = .ok (.iconst 1, 1) := by decide +kernel
theorem dX5_findNextVoice_22 : decode cX5_findNextVoice 22 = .ok (.iload 5, 2) := by decide +kernel
theorem dX5_findNextVoice_24 : decode cX5_findNextVoice 24 = .ok (.ishl, 1) := by decide +kernel
theorem dX5_findNextVoice_25 : decode cX5_findNextVoice 25 = .ok (.ior, 1) := by decide +kernel
theorem dX5_findNextVoice_26 : decode cX5_findNextVoice 26 = .ok (.istore 6, 2) := by decide +kernel
theorem dX5_findNextVoice_28 : decode cX5_findNextVoice 28 = .ok (.iload 6, 2) := by decide +kernel
theorem dX5_findNextVoice_30 : decode cX5_findNextVoice 30 = .ok (.iload_n 1, 1) := by decide +kernel
theorem dX5_findNextVoice_31 : decode cX5_findNextVoice 31 = .ok (.if_icmp .eq 44, 3) := by decide +kernel
theorem dX5_findNextVoice_34 : decode cX5_findNextVoice 34 = .ok (.iload 6, 2) := by decide +kernel
theorem dX5_findNextVoice_36 : decode cX5_findNextVoice 36 = .ok (.iconst 0, 1) := by decide +kernel
theorem dX5_findNextVoice_37 : decode cX5_findNextVoice 37 = .ok (.sipush 255, 3) := by decide +kernel
theorem dX5_findNextVoice_40 : decode cX5_findNextVoice 40 = .ok (.invokestatic 82, 3) := by decide +kernel
theorem dX5_findNextVoice_43 : decode cX5_findNextVoice 43 = .ok (.ifCond .eq 32, 3) := by decide +kernel
theorem dX5_findNextVoice_46 : decode cX5_findNextVoice 46 = .ok (.iload_n 2, 1) := by decide +kernel
theorem dX5_findNextVoice_47 : decode cX5_findNextVoice 47 = .ok (.iload 5, 2) := by decide +kernel
theorem dX5_findNextVoice_49 : decode cX5_findNextVoice 49 = .ok (.ishr, 1) := by decide +kernel
theorem dX5_findNextVoice_50 : decode cX5_findNextVoice 50 = .ok (.iconst 1, 1) := by decide +kernel
theorem dX5_findNextVoice_51 : decode cX5_findNextVoice 51 = .ok (.iand, 1) := by decide +kernel
theorem dX5_findNextVoice_52 : decode cX5_findNextVoice 52 = .ok (.aload_n 0, 1) := by decide +kernel
theorem dX5_findNextVoice_53 : decode cX5_findNextVoice 53 = .ok (.getfield 63, 3) := by decide +kernel
theorem dX5_findNextVoice_56 : decode cX5_findNextVoice 56 = .ok (.iload 6, 2) := by decide +kernel
theorem dX5_findNextVoice_58 : decode cX5_findNextVoice 58 = .ok (.iaload, 1) := by decide +kernel
theorem dX5_findNextVoice_59 : decode cX5_findNextVoice 59 = .ok (.iadd, 1) := by decide +kernel
theorem dX5_findNextVoice_60 : decode cX5_findNextVoice 60 = .ok (.istore 7, 2) := by decide +kernel
theorem dX5_findNextVoice_62 : decode cX5_findNextVoice 62 = .ok (.iload 7, 2) := by decide +kernel
theorem dX5_findNextVoice_64 : decode cX5_findNextVoice 64 = .ok (.iload_n 3, 1) := by decide +kernel
theorem dX5_findNextVoice_65 : decode cX5_findNextVoice 65 = .ok (.if_icmp .le 10, 3) := by decide +kernel
theorem dX5_findNextVoice_68 : decode cX5_findNextVoice 68 = .ok (.iload 7, 2) := by decide +kernel
theorem dX5_findNextVoice_70 : decode cX5_findNextVoice 70 = .ok (.istore_n 3, 1) := by decide +kernel
theorem dX5_findNextVoice_71 : decode cX5_findNextVoice 71 = .ok (.iload 5, 2) := by decide +kernel
theorem dX5_findNextVoice_73 : decode cX5_findNextVoice 73 = .ok (.istore 4, 2) := by decide +kernel
theorem dX5_findNextVoice_75 : decode cX5_findNextVoice 75 = .ok (.iinc 5 1, 3) := by decide +kernel
theorem dX5_findNextVoice_78 : decode cX5_findNextVoice 78 = .ok (.goto (-70), 3) := by decide +kernel
theorem dX5_findNextVoice_81 : decode cX5_findNextVoice 81 = .ok (.iload_n 1, 1) := by decide +kernel
theorem dX5_findNextVoice_82 : decode cX5_findNextVoice 82 = .ok (.iconst 0, 1) := by decide +kernel
theorem dX5_findNextVoice_83 : decode cX5_findNextVoice 83 = .ok (.sipush 255, 3) := by decide +kernel
theorem dX5_findNextVoice_86 : decode cX5_findNextVoice 86 = .ok (.invokestatic 82, 3) := by decide +kernel
theorem dX5_findNextVoice_89 : decode cX5_findNextVoice 89 = .ok (.ifCond .eq 22, 3) := by decide +kernel
theorem dX5_findNextVoice_92 : decode cX5_findNextVoice 92 = .ok (.aload_n 0, 1) := by decide +kernel
theorem dX5_findNextVoice_93 : decode cX5_findNextVoice 93 = .ok (.getfield 63, 3) := by decide +kernel
theorem dX5_findNextVoice_96 : decode cX5_findNextVoice 96 = .ok (.iload_n 1, 1) := by decide +kernel
theorem dX5_findNextVoice_97 : decode cX5_findNextVoice 97 = .ok (.iconst 0, 1) := by decide +kernel
theorem dX5_findNextVoice_98 : decode cX5_findNextVoice 98 = .ok (.iload_n 3, 1) := by decide +kernel
theorem dX5_findNextVoice_99 : decode cX5_findNextVoice 99 = .ok (.invokestatic 303, 3) := by decide +kernel
theorem dX5_findNextVoice_102 : decode cX5_findNextVoice 102 = .ok (.iastore, 1) := by decide +kernel
theorem dX5_findNextVoice_103 : decode cX5_findNextVoice 103 = .ok (.aload_n 0, 1) := by decide +kernel
theorem dX5_findNextVoice_104 : decode cX5_findNextVoice 104 = .ok (.getfield 66, 3) := by decide +kernel
theorem dX5_findNextVoice_107 : decode cX5_findNextVoice 107 = .ok (.iload_n 1, 1) := by decide +kernel
theorem dX5_findNextVoice_108 : decode cX5_findNextVoice 108 = .ok (.iload 4, 2) := by decide +kernel
theorem dX5_findNextVoice_110 : decode cX5_findNextVoice 110 = .ok (.iastore, 1) := by decide +kernel
theorem dX5_findNextVoice_111 : decode cX5_findNextVoice 111 = .ok (.return_, 1) := by decide +kernel
theorem dX5_voiceInOrder_0 : decode cX5_voiceInOrder 0 = .ok (.iconst 0, 1) := by decide +kernel
theorem dX5_voiceInOrder_1 : decode cX5_voiceInOrder 1 = .ok (.istore_n 2, 1) := by decide +kernel
theorem dX5_voiceInOrder_2 : decode cX5_voiceInOrder 2 = .ok (.iconst (-1), 1) := by decide +kernel
theorem dX5_voiceInOrder_3 : decode cX5_voiceInOrder 3 = .ok (.istore_n 3, 1) := by decide +kernel
theorem dX5_voiceInOrder_4 : decode cX5_voiceInOrder 4 = .ok (.iconst 0, 1) := by decide +kernel
theorem dX5_voiceInOrder_5 : decode cX5_voiceInOrder 5 = .ok (.istore 4, 2) := by decide +kernel
theorem dX5_voiceInOrder_7 : decode cX5_voiceInOrder 7 = .ok (.iload 4, 2) := by decide +kernel
theorem dX5_voiceInOrder_9 : decode cX5_voiceInOrder 9 = .ok (.iload_n 1, 1) := by decide +kernel
theorem dX5_voiceInOrder_10 : decode cX5_voiceInOrder 10 = .ok (.if_icmp .gt 33, 3) := by decide +kernel
theorem dX5_voiceInOrder_13 : decode cX5_voiceInOrder 13 = .ok (.iload_n 2, 1) := by decide +kernel
theorem dX5_voiceInOrder_14 : decode cX5_voiceInOrder 14 = .ok (.iconst 0, 1) := by decide +kernel
theorem dX5_voiceInOrder_15 : decode cX5_voiceInOrder 15 = .ok (.sipush 255, 3) := by decide +kernel
theorem dX5_voiceInOrder_18 : decode cX5_voiceInOrder 18 = .ok (.invokestatic 82, 3) := by decide +kernel
theorem dX5_voiceInOrder_21 : decode cX5_voiceInOrder 21 = .ok (.ifCond .eq 22, 3) := by decide +kernel
theorem dX5_voiceInOrder_24 : decode cX5_voiceInOrder 24 = .ok (.aload_n 0, 1) := by decide +kernel
theorem dX5_voiceInOrder_25 : decode cX5_voiceInOrder 25 = .ok (.getfield 66, 3) := by decide +kernel
theorem dX5_voiceInOrder_28 : decode cX5_voiceInOrder 28 = .ok (.iload_n 2, 1) := by decide +kernel
theorem dX5_voiceInOrder_29 : decode cX5_voiceInOrder 29 = .ok (.iaload, 1) := by decide +kernel
theorem dX5_voiceInOrder_30 : decode cX5_voiceInOrder 30 = .ok (.istore_n 3, 1) := by decide +kernel
theorem dX5_voiceInOrder_31 : decode cX5_voiceInOrder 31 = .ok (.iload_n 2, 1) := by decide +kernel
theorem dX5_voiceInOrder_32 : decode cX5_voiceInOrder 32 = .ok (.iconst 1, 1) := by decide +kernel
theorem dX5_voiceInOrder_33 : decode cX5_voiceInOrder 33 = .ok (.iload_n 3, 1) := by decide +kernel
theorem dX5_voiceInOrder_34 : decode cX5_voiceInOrder 34 = .ok (.ishl, 1) := by decide +kernel
theorem dX5_voiceInOrder_35 : decode cX5_voiceInOrder 35 = .ok (.ior, 1) := by decide +kernel
theorem dX5_voiceInOrder_36 : decode cX5_voiceInOrder 36 = .ok (.istore_n 2, 1) := by decide +kernel
theorem dX5_voiceInOrder_37 : decode cX5_voiceInOrder 37 = .ok (.iinc 4 1, 3) := by decide +kernel
theorem dX5_voiceInOrder_40 : decode cX5_voiceInOrder 40 = .ok (.goto (-33), 3) := by decide +kernel
theorem dX5_voiceInOrder_43 : decode cX5_voiceInOrder 43 = .ok (.iload_n 3, 1) := by decide +kernel
theorem dX5_voiceInOrder_44 : decode cX5_voiceInOrder 44 = .ok (.ireturn, 1) := by decide +kernel
theorem dX5_depthsPouredInto_0 : decode cX5_depthsPouredInto 0 = .ok (.lload_n 0, 1) := by decide +kernel
theorem dX5_depthsPouredInto_1 : decode cX5_depthsPouredInto 1 = .ok (.iconst 1, 1) := by decide +kernel
theorem dX5_depthsPouredInto_2 : decode cX5_depthsPouredInto 2 = .ok (.lshl, 1) := by decide +kernel
theorem dX5_depthsPouredInto_3 : decode cX5_depthsPouredInto 3 = .ok (.lload_n 0, 1) := by decide +kernel
theorem dX5_depthsPouredInto_4 : decode cX5_depthsPouredInto 4 = .ok (.lconst 1, 1) := by decide +kernel
theorem dX5_depthsPouredInto_5 : decode cX5_depthsPouredInto 5 = .ok (.land, 1) := by decide +kernel
theorem dX5_depthsPouredInto_6 : decode cX5_depthsPouredInto 6 = .ok (.lor, 1) := by decide +kernel
theorem dX5_depthsPouredInto_7 : decode cX5_depthsPouredInto 7 = .ok (.ldc2_w 391, 3) := by decide +kernel
theorem dX5_depthsPouredInto_10 : decode cX5_depthsPouredInto 10 = .ok (.land, 1) := by decide +kernel
theorem dX5_depthsPouredInto_11 : decode cX5_depthsPouredInto 11 = .ok (.lreturn, 1) := by decide +kernel
theorem dX5_depthsDrawnInto_0 : decode cX5_depthsDrawnInto 0 = .ok (.lload_n 0, 1) := by decide +kernel
theorem dX5_depthsDrawnInto_1 : decode cX5_depthsDrawnInto 1 = .ok (.iconst 1, 1) := by decide +kernel
theorem dX5_depthsDrawnInto_2 : decode cX5_depthsDrawnInto 2 = .ok (.lushr, 1) := by decide +kernel
theorem dX5_depthsDrawnInto_3 : decode cX5_depthsDrawnInto 3 = .ok (.lload_n 0, 1) := by decide +kernel
theorem dX5_depthsDrawnInto_4 : decode cX5_depthsDrawnInto 4 = .ok (.ldc2_w 393, 3) := by decide +kernel
theorem dX5_depthsDrawnInto_7 : decode cX5_depthsDrawnInto 7 = .ok (.land, 1) := by decide +kernel
theorem dX5_depthsDrawnInto_8 : decode cX5_depthsDrawnInto 8 = .ok (.lor, 1) := by decide +kernel
theorem dX5_depthsDrawnInto_9 : decode cX5_depthsDrawnInto 9 = .ok (.lreturn, 1) := by decide +kernel
theorem dX5_depthsWonBefore_0 : decode cX5_depthsWonBefore 0 = .ok (.lload_n 0, 1) := by decide +kernel
theorem dX5_depthsWonBefore_1 : decode cX5_depthsWonBefore 1 = .ok (.invokestatic 395, 3) := by decide +kernel
theorem dX5_depthsWonBefore_4 : decode cX5_depthsWonBefore 4 = .ok (.lstore_n 3, 1) := by decide +kernel
theorem dX5_depthsWonBefore_5 : decode cX5_depthsWonBefore 5 = .ok (.lload_n 0, 1) := by decide +kernel
theorem dX5_depthsWonBefore_6 : decode cX5_depthsWonBefore 6 = .ok (.invokestatic 399, 3) := by decide +kernel
theorem dX5_depthsWonBefore_9 : decode cX5_depthsWonBefore 9 = .ok (.lstore 5, 2) := by decide +kernel
theorem dX5_depthsWonBefore_11 : decode cX5_depthsWonBefore 11 = .ok (.iload_n 2, 1) := by decide +kernel
theorem dX5_depthsWonBefore_12 : decode cX5_depthsWonBefore 12 = .ok (.ifCond .eq 12, 3) := by decide +kernel
theorem dX5_depthsWonBefore_15 : decode cX5_depthsWonBefore 15 = .ok (.lload_n 3, 1) := by decide +kernel
theorem dX5_depthsWonBefore_16 : decode cX5_depthsWonBefore 16 = .ok (.lload_n 0, 1) := by decide +kernel
theorem dX5_depthsWonBefore_17 : decode cX5_depthsWonBefore 17 = .ok (.lor, 1) := by decide +kernel
theorem dX5_depthsWonBefore_18 : decode cX5_depthsWonBefore 18 = .ok (.lload 5, 2) := by decide +kernel
theorem dX5_depthsWonBefore_20 : decode cX5_depthsWonBefore 20 = .ok (.lor, 1) := by decide +kernel
theorem dX5_depthsWonBefore_21 : decode cX5_depthsWonBefore 21 = .ok (.goto 9, 3) := by decide +kernel
theorem dX5_depthsWonBefore_24 : decode cX5_depthsWonBefore 24 = .ok (.lload_n 3, 1) := by decide +kernel
theorem dX5_depthsWonBefore_25 : decode cX5_depthsWonBefore 25 = .ok (.lload_n 0, 1) := by decide +kernel
theorem dX5_depthsWonBefore_26 : decode cX5_depthsWonBefore 26 = .ok (.land, 1) := by decide +kernel
theorem dX5_depthsWonBefore_27 : decode cX5_depthsWonBefore 27 = .ok (.lload 5, 2) := by decide +kernel
theorem dX5_depthsWonBefore_29 : decode cX5_depthsWonBefore 29 = .ok (.land, 1) := by decide +kernel
theorem dX5_depthsWonBefore_30 : decode cX5_depthsWonBefore 30 = .ok (.lreturn, 1) := by decide +kernel
theorem dX5_firstMoveInto_0 : decode cX5_firstMoveInto 0 = .ok (.lload_n 1, 1) := by decide +kernel
theorem dX5_firstMoveInto_1 : decode cX5_firstMoveInto 1 = .ok (.invokestatic 395, 3) := by decide +kernel
theorem dX5_firstMoveInto_4 : decode cX5_firstMoveInto 4 = .ok (.aload_n 0, 1) := by decide +kernel
theorem dX5_firstMoveInto_5 : decode cX5_firstMoveInto 5 = .ok (.getfield 12, 3) := by decide +kernel
theorem dX5_firstMoveInto_8 : decode cX5_firstMoveInto 8 = .ok (.getfield 174, 3) := by decide +kernel
theorem dX5_firstMoveInto_11 : decode cX5_firstMoveInto 11 = .ok (.invokestatic 270, 3) := by decide +kernel
theorem dX5_firstMoveInto_14 : decode cX5_firstMoveInto 14 = .ok (.ifCond .eq 5, 3) := by decide +kernel
theorem dX5_firstMoveInto_17 : decode cX5_firstMoveInto 17 = .ok (.iconst 0, 1) := by decide +kernel
theorem dX5_firstMoveInto_18 : decode cX5_firstMoveInto 18 = .ok (.ireturn, 1) := by decide +kernel
theorem dX5_firstMoveInto_19 : decode cX5_firstMoveInto 19 = .ok (.lload_n 1, 1) := by decide +kernel
theorem dX5_firstMoveInto_20 : decode cX5_firstMoveInto 20 = .ok (.aload_n 0, 1) := by decide +kernel
theorem dX5_firstMoveInto_21 : decode cX5_firstMoveInto 21 = .ok (.getfield 12, 3) := by decide +kernel
theorem dX5_firstMoveInto_24 : decode cX5_firstMoveInto 24 = .ok (.getfield 174, 3) := by decide +kernel
theorem dX5_firstMoveInto_27 : decode cX5_firstMoveInto 27 = .ok (.invokestatic 270, 3) := by decide +kernel
theorem dX5_firstMoveInto_30 : decode cX5_firstMoveInto 30 = .ok (.ifCond .eq 5, 3) := by decide +kernel
theorem dX5_firstMoveInto_33 : decode cX5_firstMoveInto 33 = .ok (.iconst 1, 1) := by decide +kernel
theorem dX5_firstMoveInto_34 : decode cX5_firstMoveInto 34 = .ok (.ireturn, 1) := by decide +kernel
theorem dX5_firstMoveInto_35 : decode cX5_firstMoveInto 35 = .ok (.lload_n 1, 1) := by decide +kernel
theorem dX5_firstMoveInto_36 : decode cX5_firstMoveInto 36 = .ok (.invokestatic 399, 3) := by decide +kernel
theorem dX5_firstMoveInto_39 : decode cX5_firstMoveInto 39 = .ok (.aload_n 0, 1) := by decide +kernel
theorem dX5_firstMoveInto_40 : decode cX5_firstMoveInto 40 = .ok (.getfield 12, 3) := by decide +kernel
theorem dX5_firstMoveInto_43 : decode cX5_firstMoveInto 43 = .ok (.getfield 174, 3) := by decide +kernel
theorem dX5_firstMoveInto_46 : decode cX5_firstMoveInto 46 = .ok (.invokestatic 270, 3) := by decide +kernel
theorem dX5_firstMoveInto_49 : decode cX5_firstMoveInto 49 = .ok (.ifCond .eq 7, 3) := by decide +kernel
theorem dX5_firstMoveInto_52 : decode cX5_firstMoveInto 52 = .ok (.iconst 2, 1) := by decide +kernel
theorem dX5_firstMoveInto_53 : decode cX5_firstMoveInto 53 = .ok (.goto 4, 3) := by decide +kernel
theorem dX5_firstMoveInto_56 : decode cX5_firstMoveInto 56 = .ok (.iconst (-1), 1) := by decide +kernel
theorem dX5_firstMoveInto_57 : decode cX5_firstMoveInto 57 = .ok (.ireturn, 1) := by decide +kernel
theorem dX5_spreadWays_0 : decode cX5_spreadWays 0 = .ok (.aload_n 0, 1) := by decide +kernel
theorem dX5_spreadWays_1 : decode cX5_spreadWays 1 = .ok (.getfield 72, 3) := by decide +kernel
theorem dX5_spreadWays_4 : decode cX5_spreadWays 4 = .ok (.iconst 0, 1) := by decide +kernel
theorem dX5_spreadWays_5 : decode cX5_spreadWays 5 = .ok (.invokestatic 379, 3) := by decide +kernel
theorem dX5_spreadWays_8 : decode cX5_spreadWays 8 = .ok (.iconst 0, 1) := by decide +kernel
theorem dX5_spreadWays_9 : decode cX5_spreadWays 9 = .ok (.istore_n 1, 1) := by decide +kernel
theorem dX5_spreadWays_10 : decode cX5_spreadWays 10 = .ok (.iload_n 1, 1) := by decide +kernel
theorem dX5_spreadWays_11 : decode cX5_spreadWays 11 = .ok (.bipush 40, 2) := by decide +kernel
theorem dX5_spreadWays_13 : decode cX5_spreadWays 13 = .ok (.if_icmp .gt 54, 3) := by decide +kernel
theorem dX5_spreadWays_16 : decode cX5_spreadWays 16 = .ok (.iconst 0, 1) := by decide +kernel
theorem dX5_spreadWays_17 : decode cX5_spreadWays 17 = .ok (.istore_n 2, 1) := by decide +kernel
theorem dX5_spreadWays_18 : decode cX5_spreadWays 18 = .ok (.iload_n 2, 1) := by decide +kernel
theorem dX5_spreadWays_19 : decode cX5_spreadWays 19 = .ok (.bipush 9, 2) := by decide +kernel
theorem dX5_spreadWays_21 : decode cX5_spreadWays 21 = .ok (.if_icmp .gt 40, 3) := by decide +kernel
theorem dX5_spreadWays_24 : decode cX5_spreadWays 24 = .ok (.iload_n 1, 1) := by decide +kernel
theorem dX5_spreadWays_25 : decode cX5_spreadWays 25 = .ok (.iload_n 2, 1) := by decide +kernel
theorem dX5_spreadWays_26 : decode cX5_spreadWays 26 = .ok (.invokestatic 340, 3) := by decide +kernel
theorem dX5_spreadWays_29 : decode cX5_spreadWays 29 = .ok (.istore_n 3, 1) := by decide +kernel
theorem dX5_spreadWays_30 : decode cX5_spreadWays 30 = .ok (.iload_n 3, 1) := by decide +kernel
theorem dX5_spreadWays_31 : decode cX5_spreadWays 31 = .ok (.iconst 0, 1) := by decide +kernel
theorem dX5_spreadWays_32 : decode cX5_spreadWays 32 = .ok (.bipush 40, 2) := by decide +kernel
theorem dX5_spreadWays_34 : decode cX5_spreadWays 34 = .ok (.invokestatic 82, 3) := by decide +kernel
theorem dX5_spreadWays_37 : decode cX5_spreadWays 37 = .ok (.ifCond .eq 18, 3) := by decide +kernel
theorem dX5_spreadWays_40 : decode cX5_spreadWays 40 = .ok (.aload_n 0, 1) := by decide +kernel
theorem dX5_spreadWays_41 : decode cX5_spreadWays 41 = .ok (.getfield 72, 3) := by decide +kernel
theorem dX5_spreadWays_44 : decode cX5_spreadWays 44 = .ok (.iload_n 3, 1) := by decide +kernel
theorem dX5_spreadWays_45 : decode cX5_spreadWays 45 = .ok (.dup2, 1) := by decide +kernel
theorem dX5_spreadWays_46 : decode cX5_spreadWays 46 = .ok (.iaload, 1) := by decide +kernel
theorem dX5_spreadWays_47 : decode cX5_spreadWays 47 = .ok (.aload_n 0, 1) := by decide +kernel
theorem dX5_spreadWays_48 : decode cX5_spreadWays 48 = .ok (.getfield 69, 3) := by decide +kernel
theorem dX5_spreadWays_51 : decode cX5_spreadWays 51 = .ok (.iload_n 1, 1) := by decide +kernel
theorem dX5_spreadWays_52 : decode cX5_spreadWays 52 = .ok (.iaload, 1) := by decide +kernel
theorem dX5_spreadWays_53 : decode cX5_spreadWays 53 = .ok (.iadd, 1) := by decide +kernel
theorem dX5_spreadWays_54 : decode cX5_spreadWays 54 = .ok (.iastore, 1) := by decide +kernel
theorem dX5_spreadWays_55 : decode cX5_spreadWays 55 = .ok (.iinc 2 1, 3) := by decide +kernel
theorem dX5_spreadWays_58 : decode cX5_spreadWays 58 = .ok (.goto (-40), 3) := by decide +kernel
theorem dX5_spreadWays_61 : decode cX5_spreadWays 61 = .ok (.iinc 1 1, 3) := by decide +kernel
theorem dX5_spreadWays_64 : decode cX5_spreadWays 64 = .ok (.goto (-54), 3) := by decide +kernel
theorem dX5_spreadWays_67 : decode cX5_spreadWays 67 = .ok (.aload_n 0, 1) := by decide +kernel
theorem dX5_spreadWays_68 : decode cX5_spreadWays 68 = .ok (.getfield 72, 3) := by decide +kernel
theorem dX5_spreadWays_71 : decode cX5_spreadWays 71 = .ok (.iconst 0, 1) := by decide +kernel
theorem dX5_spreadWays_72 : decode cX5_spreadWays 72 = .ok (.aload_n 0, 1) := by decide +kernel
theorem dX5_spreadWays_73 : decode cX5_spreadWays 73 = .ok (.getfield 69, 3) := by decide +kernel
theorem dX5_spreadWays_76 : decode cX5_spreadWays 76 = .ok (.iconst 0, 1) := by decide +kernel
theorem dX5_spreadWays_77 : decode cX5_spreadWays 77 = .ok (.bipush 41, 2) := by decide +kernel
theorem dX5_spreadWays_79 : decode cX5_spreadWays 79 = .ok (.invokestatic 402, 3) := by decide +kernel
theorem dX5_spreadWays_82 : decode cX5_spreadWays 82 = .ok (.return_, 1) := by decide +kernel
theorem dX5_waysToYes_0 : decode cX5_waysToYes 0 = .ok (.iconst 0, 1) := by decide +kernel
theorem dX5_waysToYes_1 : decode cX5_waysToYes 1 = .ok (.istore_n 1, 1) := by decide +kernel
theorem dX5_waysToYes_2 : decode cX5_waysToYes 2 = .ok (.iconst 0, 1) := by decide +kernel
theorem dX5_waysToYes_3 : decode cX5_waysToYes 3 = .ok (.istore_n 2, 1) := by decide +kernel
theorem dX5_waysToYes_4 : decode cX5_waysToYes 4 = .ok (.iload_n 2, 1) := by decide +kernel
theorem dX5_waysToYes_5 : decode cX5_waysToYes 5 = .ok (.bipush 40, 2) := by decide +kernel
theorem dX5_waysToYes_7 : decode cX5_waysToYes 7 = .ok (.if_icmp .gt 50, 3) := by decide +kernel
theorem dX5_waysToYes_10 : decode cX5_waysToYes 10 = .ok (.aload_n 0, 1) := by decide +kernel
theorem dX5_waysToYes_11 : decode cX5_waysToYes 11 = .ok (.getfield 43, 3) := by decide +kernel
theorem dX5_waysToYes_14 : decode cX5_waysToYes 14 = .ok (.iload_n 2, 1) := by decide +kernel
theorem dX5_waysToYes_15 : decode cX5_waysToYes 15 = .ok (.putfield 371, 3) := by decide +kernel
theorem dX5_waysToYes_18 : decode cX5_waysToYes 18 = .ok (.aload_n 0, 1) := by decide +kernel
theorem dX5_waysToYes_19 : decode cX5_waysToYes 19 = .ok (.getfield 69, 3) := by decide +kernel
theorem dX5_waysToYes_22 : decode cX5_waysToYes 22 = .ok (.iload_n 2, 1) := by decide +kernel
theorem dX5_waysToYes_23 : decode cX5_waysToYes 23 = .ok (.iaload, 1) := by decide +kernel
theorem dX5_waysToYes_24 : decode cX5_waysToYes 24 = .ok (.ifCond .le 27, 3) := by decide +kernel
theorem dX5_waysToYes_27 : decode cX5_waysToYes 27 = .ok (.aload_n 0, 1) := by decide +kernel
theorem dX5_waysToYes_28 : decode cX5_waysToYes 28 = .ok (.getfield 43, 3) := by decide +kernel
theorem dX5_waysToYes_31 : decode cX5_waysToYes 31 = .ok (.aload_n 0, 1) := by decide +kernel
theorem dX5_waysToYes_32 : decode cX5_waysToYes 32 = .ok (.getfield 53, 3) := by decide +kernel
theorem dX5_waysToYes_35 : decode cX5_waysToYes 35 = .ok (.invokevirtual 236, 3) := by decide +kernel
theorem dX5_waysToYes_38 : decode cX5_waysToYes 38 = .ok (.iconst 1, 1) := by decide +kernel
theorem dX5_waysToYes_39 : decode cX5_waysToYes 39 = .ok (.if_icmp .ne 12, 3) := by decide +kernel
theorem dX5_waysToYes_42 : decode cX5_waysToYes 42 = .ok (.iload_n 1, 1) := by decide +kernel
theorem dX5_waysToYes_43 : decode cX5_waysToYes 43 = .ok (.aload_n 0, 1) := by decide +kernel
theorem dX5_waysToYes_44 : decode cX5_waysToYes 44 = .ok (.getfield 69, 3) := by decide +kernel
theorem dX5_waysToYes_47 : decode cX5_waysToYes 47 = .ok (.iload_n 2, 1) := by decide +kernel
theorem dX5_waysToYes_48 : decode cX5_waysToYes 48 = .ok (.iaload, 1) := by decide +kernel
theorem dX5_waysToYes_49 : decode cX5_waysToYes 49 = .ok (.iadd, 1) := by decide +kernel
theorem dX5_waysToYes_50 : decode cX5_waysToYes 50 = .ok (.istore_n 1, 1) := by decide +kernel
theorem dX5_waysToYes_51 : decode cX5_waysToYes 51 = .ok (.iinc 2 1, 3) := by decide +kernel
theorem dX5_waysToYes_54 : decode cX5_waysToYes 54 = .ok (.goto (-50), 3) := by decide +kernel
theorem dX5_waysToYes_57 : decode cX5_waysToYes 57 = .ok (.iload_n 1, 1) := by decide +kernel
theorem dX5_waysToYes_58 : decode cX5_waysToYes 58 = .ok (.ireturn, 1) := by decide +kernel
theorem dX5_depthsOfWays_0 : decode cX5_depthsOfWays 0 = .ok (.iconst 0, 1) := by decide +kernel
theorem dX5_depthsOfWays_1 : decode cX5_depthsOfWays 1 = .ok (.istore_n 1, 1) := by decide +kernel
theorem dX5_depthsOfWays_2 : decode cX5_depthsOfWays 2 = .ok (.iconst 0, 1) := by decide +kernel
theorem dX5_depthsOfWays_3 : decode cX5_depthsOfWays 3 = .ok (.istore_n 2, 1) := by decide +kernel
theorem dX5_depthsOfWays_4 : decode cX5_depthsOfWays 4 = .ok (.iload_n 2, 1) := by decide +kernel
theorem dX5_depthsOfWays_5 : decode cX5_depthsOfWays 5 = .ok (.bipush 40, 2) := by decide +kernel
theorem dX5_depthsOfWays_7 : decode cX5_depthsOfWays 7 = .ok (.if_icmp .gt 20, 3) := by decide +kernel
theorem dX5_depthsOfWays_10 : decode cX5_depthsOfWays 10 = .ok (.iload_n 1, 1) := by decide +kernel
theorem dX5_depthsOfWays_11 : decode cX5_depthsOfWays 11 = .ok (.aload_n 0, 1) := by decide +kernel
theorem dX5_depthsOfWays_12 : decode cX5_depthsOfWays 12 = .ok (.getfield 69, 3) := by decide +kernel
theorem dX5_depthsOfWays_15 : decode cX5_depthsOfWays 15 = .ok (.iload_n 2, 1) := by decide +kernel
theorem dX5_depthsOfWays_16 : decode cX5_depthsOfWays 16 = .ok (.iaload, 1) := by decide +kernel
theorem dX5_depthsOfWays_17 : decode cX5_depthsOfWays 17 = .ok (.iload_n 2, 1) := by decide +kernel
theorem dX5_depthsOfWays_18 : decode cX5_depthsOfWays 18 = .ok (.imul, 1) := by decide +kernel
theorem dX5_depthsOfWays_19 : decode cX5_depthsOfWays 19 = .ok (.iadd, 1) := by decide +kernel
theorem dX5_depthsOfWays_20 : decode cX5_depthsOfWays 20 = .ok (.istore_n 1, 1) := by decide +kernel
theorem dX5_depthsOfWays_21 : decode cX5_depthsOfWays 21 = .ok (.iinc 2 1, 3) := by decide +kernel
theorem dX5_depthsOfWays_24 : decode cX5_depthsOfWays 24 = .ok (.goto (-20), 3) := by decide +kernel
theorem dX5_depthsOfWays_27 : decode cX5_depthsOfWays 27 = .ok (.iload_n 1, 1) := by decide +kernel
theorem dX5_depthsOfWays_28 : decode cX5_depthsOfWays 28 = .ok (.ireturn, 1) := by decide +kernel
theorem dX5_isSo_0 : decode cX5_isSo 0 = .ok (.aload_n 0, 1) := by decide +kernel
theorem dX5_isSo_1 : decode cX5_isSo 1 = .ok (.getfield 25, 3) := by decide +kernel
theorem dX5_isSo_4 : decode cX5_isSo 4 = .ok (.iload_n 1, 1) := by decide +kernel
theorem dX5_isSo_5 : decode cX5_isSo 5 = .ok (.iconst 2, 1) := by decide +kernel
theorem dX5_isSo_6 : decode cX5_isSo 6 = .ok (.iload_n 2, 1) := by decide +kernel
theorem dX5_isSo_7 : decode cX5_isSo 7 = .ok (.imul, 1) := by decide +kernel
theorem dX5_isSo_8 : decode cX5_isSo 8 = .ok (.invokevirtual 115, 3) := by decide +kernel
theorem dX5_isSo_11 : decode cX5_isSo 11 = .ok (.lstore_n 3, 1) := by decide +kernel
theorem dX5_isSo_12 : decode cX5_isSo 12 = .ok (.lload_n 3, 1) := by decide +kernel
theorem dX5_isSo_13 : decode cX5_isSo 13 = .ok (.lconst 0, 1) := by decide +kernel
theorem dX5_isSo_14 : decode cX5_isSo 14 = .ok (.lcmp, 1) := by decide +kernel
theorem dX5_isSo_15 : decode cX5_isSo 15 = .ok (.ifCond .lt 16, 3) := by decide +kernel
theorem dX5_isSo_18 : decode cX5_isSo 18 = .ok (.lload_n 3, 1) := by decide +kernel
theorem dX5_isSo_19 : decode cX5_isSo 19 = .ok (.aload_n 0, 1) := by decide +kernel
theorem dX5_isSo_20 : decode cX5_isSo 20 = .ok (.getfield 12, 3) := by decide +kernel
theorem dX5_isSo_23 : decode cX5_isSo 23 = .ok (.getfield 167, 3) := by decide +kernel
theorem dX5_isSo_26 : decode cX5_isSo 26 = .ok (.i2l, 1) := by decide +kernel
theorem dX5_isSo_27 : decode cX5_isSo 27 = .ok (.lcmp, 1) := by decide +kernel
theorem dX5_isSo_28 : decode cX5_isSo 28 = .ok (.ifCond .lt 5, 3) := by decide +kernel
theorem dX5_isSo_31 : decode cX5_isSo 31 = .ok (.iconst 0, 1) := by decide +kernel
theorem dX5_isSo_32 : decode cX5_isSo 32 = .ok (.ireturn, 1) := by decide +kernel
theorem dX5_isSo_33 : decode cX5_isSo 33 = .ok (.aload_n 0, 1) := by decide +kernel
theorem dX5_isSo_34 : decode cX5_isSo 34 = .ok (.getfield 43, 3) := by decide +kernel
theorem dX5_isSo_37 : decode cX5_isSo 37 = .ok (.aload_n 0, 1) := by decide +kernel
theorem dX5_isSo_38 : decode cX5_isSo 38 = .ok (.getfield 12, 3) := by decide +kernel
theorem dX5_isSo_41 : decode cX5_isSo 41 = .ok (.lload_n 3, 1) := by decide +kernel
theorem dX5_isSo_42 : decode cX5_isSo 42 = .ok (.l2i, 1) := by decide +kernel
theorem dX5_isSo_43 : decode cX5_isSo 43 = .ok (.invokevirtual 148, 3) := by decide +kernel
theorem dX5_isSo_46 : decode cX5_isSo 46 = .ok (.aload_n 0, 1) := by decide +kernel
theorem dX5_isSo_47 : decode cX5_isSo 47 = .ok (.getfield 43, 3) := by decide +kernel
theorem dX5_isSo_50 : decode cX5_isSo 50 = .ok (.iload_n 2, 1) := by decide +kernel
theorem dX5_isSo_51 : decode cX5_isSo 51 = .ok (.invokevirtual 259, 3) := by decide +kernel
theorem dX5_isSo_54 : decode cX5_isSo 54 = .ok (.aload_n 0, 1) := by decide +kernel
theorem dX5_isSo_55 : decode cX5_isSo 55 = .ok (.getfield 43, 3) := by decide +kernel
theorem dX5_isSo_58 : decode cX5_isSo 58 = .ok (.aload_n 0, 1) := by decide +kernel
theorem dX5_isSo_59 : decode cX5_isSo 59 = .ok (.getfield 53, 3) := by decide +kernel
theorem dX5_isSo_62 : decode cX5_isSo 62 = .ok (.invokevirtual 236, 3) := by decide +kernel
theorem dX5_isSo_65 : decode cX5_isSo 65 = .ok (.i2l, 1) := by decide +kernel
theorem dX5_isSo_66 : decode cX5_isSo 66 = .ok (.aload_n 0, 1) := by decide +kernel
theorem dX5_isSo_67 : decode cX5_isSo 67 = .ok (.getfield 25, 3) := by decide +kernel
theorem dX5_isSo_70 : decode cX5_isSo 70 = .ok (.iload_n 1, 1) := by decide +kernel
theorem dX5_isSo_71 : decode cX5_isSo 71 = .ok (.iconst 2, 1) := by decide +kernel
theorem dX5_isSo_72 : decode cX5_isSo 72 = .ok (.iload_n 2, 1) := by decide +kernel
theorem dX5_isSo_73 : decode cX5_isSo 73 = .ok (.imul, 1) := by decide +kernel
theorem dX5_isSo_74 : decode cX5_isSo 74 = .ok (.iconst 1, 1) := by decide +kernel
theorem dX5_isSo_75 : decode cX5_isSo 75 = .ok (.iadd, 1) := by decide +kernel
theorem dX5_isSo_76 : decode cX5_isSo 76 = .ok (.invokevirtual 115, 3) := by decide +kernel
theorem dX5_isSo_79 : decode cX5_isSo 79 = .ok (.lcmp, 1) := by decide +kernel
theorem dX5_isSo_80 : decode cX5_isSo 80 = .ok (.ifCond .ne 7, 3) := by decide +kernel
theorem dX5_isSo_83 : decode cX5_isSo 83 = .ok (.iconst 1, 1) := by decide +kernel
theorem dX5_isSo_84 : decode cX5_isSo 84 = .ok (.goto 4, 3) := by decide +kernel
theorem dX5_isSo_87 : decode cX5_isSo 87 = .ok (.iconst 0, 1) := by decide +kernel
theorem dX5_isSo_88 : decode cX5_isSo 88 = .ok (.ireturn, 1) := by decide +kernel
theorem dX5_shoutInTruth_0 : decode cX5_shoutInTruth 0 = .ok (.aload_n 0, 1) := by decide +kernel
theorem dX5_shoutInTruth_1 : decode cX5_shoutInTruth 1 = .ok (.getfield 43, 3) := by decide +kernel
theorem dX5_shoutInTruth_4 : decode cX5_shoutInTruth 4 = .ok (.aload_n 0, 1) := by decide +kernel
theorem dX5_shoutInTruth_5 : decode cX5_shoutInTruth 5 = .ok (.getfield 12, 3) := by decide +kernel
theorem dX5_shoutInTruth_8 : decode cX5_shoutInTruth 8 = .ok (.iload_n 1, 1) := by decide +kernel
theorem dX5_shoutInTruth_9 : decode cX5_shoutInTruth 9 = .ok (.invokevirtual 148, 3) := by decide +kernel
theorem dX5_shoutInTruth_12 : decode cX5_shoutInTruth 12 = .ok (.aload_n 0, 1) := by decide +kernel
theorem dX5_shoutInTruth_13 : decode cX5_shoutInTruth 13 = .ok (.getfield 43, 3) := by decide +kernel
theorem dX5_shoutInTruth_16 : decode cX5_shoutInTruth 16 = .ok (.aload_n 0, 1) := by decide +kernel
theorem dX5_shoutInTruth_17 : decode cX5_shoutInTruth 17 = .ok (.getfield 53, 3) := by decide +kernel
theorem dX5_shoutInTruth_20 : decode cX5_shoutInTruth 20 = .ok (.invokevirtual 236, 3) := by decide +kernel
theorem dX5_shoutInTruth_23 : decode cX5_shoutInTruth 23 = .ok (.istore_n 2, 1) := by decide +kernel
theorem dX5_shoutInTruth_24 : decode cX5_shoutInTruth 24 = .ok (.iload_n 2, 1) := by decide +kernel
theorem dX5_shoutInTruth_25 : decode cX5_shoutInTruth 25 = .ok (.iconst 1, 1) := by decide +kernel
theorem dX5_shoutInTruth_26 : decode cX5_shoutInTruth 26 = .ok (.if_icmp .ne 19, 3) := by decide +kernel
theorem dX5_shoutInTruth_29 : decode cX5_shoutInTruth 29 = .ok (.aload_n 0, 1) := by decide +kernel
theorem dX5_shoutInTruth_30 : decode cX5_shoutInTruth 30 = .ok (.getfield 12, 3) := by decide +kernel
theorem dX5_shoutInTruth_33 : decode cX5_shoutInTruth 33 = .ok (.dup, 1) := by decide +kernel
theorem dX5_shoutInTruth_34 : decode cX5_shoutInTruth 34 = .ok (.getfield 360, 3) := by decide +kernel
theorem dX5_shoutInTruth_37 : decode cX5_shoutInTruth 37 = .ok (.iconst 1, 1) := by decide +kernel
theorem dX5_shoutInTruth_38 : decode cX5_shoutInTruth 38 = .ok (.iadd, 1) := by decide +kernel
theorem dX5_shoutInTruth_39 : decode cX5_shoutInTruth 39 = .ok (.putfield 360, 3) := by decide +kernel
theorem dX5_shoutInTruth_42 : decode cX5_shoutInTruth 42 = .ok (.goto 16, 3) := by decide +kernel
theorem dX5_shoutInTruth_45 : decode cX5_shoutInTruth 45 = .ok (.aload_n 0, 1) := by decide +kernel
theorem dX5_shoutInTruth_46 : decode cX5_shoutInTruth 46 = .ok (.getfield 12, 3) := by decide +kernel
theorem dX5_shoutInTruth_49 : decode cX5_shoutInTruth 49 = .ok (.dup, 1) := by decide +kernel
theorem dX5_shoutInTruth_50 : decode cX5_shoutInTruth 50 = .ok (.getfield 363, 3) := by decide +kernel
theorem dX5_shoutInTruth_53 : decode cX5_shoutInTruth 53 = .ok (.iconst 1, 1) := by decide +kernel
theorem dX5_shoutInTruth_54 : decode cX5_shoutInTruth 54 = .ok (.iadd, 1) := by decide +kernel
theorem dX5_shoutInTruth_55 : decode cX5_shoutInTruth 55 = .ok (.putfield 363, 3) := by decide +kernel
theorem dX5_shoutInTruth_58 : decode cX5_shoutInTruth 58 = .ok (.iload_n 2, 1) := by decide +kernel
theorem dX5_shoutInTruth_59 : decode cX5_shoutInTruth 59 = .ok (.ireturn, 1) := by decide +kernel
