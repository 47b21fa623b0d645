theorem dX6_mute_42 : decode cX6_mute 42 = .ok (.iload 5, 2) := by decide +kernel
theorem dX6_mute_44 : decode cX6_mute 44 = .ok (.ishl, 1) := by decide +kernel
theorem dX6_mute_45 : decode cX6_mute 45 = .ok (.goto 4, 3) := by decide +kernel
theorem dX6_mute_48 : decode cX6_mute 48 = .ok (.iconst 0, 1) := by decide +kernel
theorem dX6_mute_49 : decode cX6_mute 49 = .ok (.ior, 1) := by decide +kernel
theorem dX6_mute_50 : decode cX6_mute 50 = .ok (.istore 4, 2) := by decide +kernel
theorem dX6_mute_52 : decode cX6_mute 52 = .ok (.iinc 5 1, 3) := by decide +kernel
theorem dX6_mute_55 : decode cX6_mute 55 = .ok (.goto (-39), 3) := by decide +kernel
theorem dX6_mute_58 : decode cX6_mute 58 = .ok (.iload_n 3, 1) := by decide +kernel
theorem dX6_mute_59 : decode cX6_mute 59 = .ok (.ifCond .eq 7, 3) := by decide +kernel
theorem dX6_mute_62 : decode cX6_mute 62 = .ok (.iload_n 3, 1) := by decide +kernel
theorem dX6_mute_63 : decode cX6_mute 63 = .ok (.goto 5, 3) := by decide +kernel
theorem dX6_mute_66 : decode cX6_mute 66 = .ok (.iload 4, 2) := by decide +kernel
theorem dX6_mute_68 : decode cX6_mute 68 = .ok (.ireturn, 1) := by decide +kernel
theorem dX6_like_0 : decode cX6_like 0 = .ok (.aload_n 0, 1) := by decide +kernel
theorem dX6_like_1 : decode cX6_like 1 = .ok (.iload_n 1, 1) := by decide +kernel
theorem dX6_like_2 : decode cX6_like 2 = .ok (.iload_n 2, 1) := by decide +kernel
theorem dX6_like_3 : decode cX6_like 3 = .ok (.bipush 12, 2) := by decide +kernel
theorem dX6_like_5 : decode cX6_like 5 = .ok (.aload_n 0, 1) := by decide +kernel
theorem dX6_like_6 : decode cX6_like 6 = .ok (.iload_n 3, 1) := by decide +kernel
theorem dX6_like_7 : decode cX6_like 7 = .ok (.invokevirtual 113, 3) := by decide +kernel
theorem dX6_like_10 : decode cX6_like 10 = .ok (.invokevirtual 256, 3) := by decide +kernel
theorem dX6_like_13 : decode cX6_like 13 = .ok (.istore 4, 2) := by decide +kernel
theorem dX6_like_15 : decode cX6_like 15 = .ok (.iload 4, 2) := by decide +kernel
theorem dX6_like_17 : decode cX6_like 17 = .ok (.ifCond .eq 6, 3) := by decide +kernel
theorem dX6_like_20 : decode cX6_like 20 = .ok (.iload 4, 2) := by decide +kernel
theorem dX6_like_22 : decode cX6_like 22 = .ok (.ireturn, 1) := by decide +kernel
theorem dX6_like_23 : decode cX6_like 23 = .ok (.aload_n 0, 1) := by decide +kernel
theorem dX6_like_24 : decode cX6_like 24 = .ok (.iload_n 3, 1) := by decide +kernel
theorem dX6_like_25 : decode cX6_like 25 = .ok (.invokevirtual 248, 3) := by decide +kernel
theorem dX6_like_28 : decode cX6_like 28 = .ok (.istore 5, 2) := by decide +kernel
theorem dX6_like_30 : decode cX6_like 30 = .ok (.iconst 0, 1) := by decide +kernel
theorem dX6_like_31 : decode cX6_like 31 = .ok (.istore 6, 2) := by decide +kernel
theorem dX6_like_33 : decode cX6_like 33 = .ok (.iconst 0, 1) := by decide +kernel
theorem dX6_like_34 : decode cX6_like 34 = .ok (.istore 7, 2) := by decide +kernel
theorem dX6_like_36 : decode cX6_like 36 = .ok (.iload 7, 2) := by decide +kernel
theorem dX6_like_38 : decode cX6_like 38 = .ok (.aload_n 0, 1) := by decide +kernel
theorem dX6_like_39 : decode cX6_like 39 = .ok (.getfield 89, 3) := by decide +kernel
theorem dX6_like_42 : decode cX6_like 42 = .ok (.if_icmp .ge 33, 3) := by decide +kernel
theorem dX6_like_45 : decode cX6_like 45 = .ok (.iload 6, 2) := by decide +kernel
theorem dX6_like_47 : decode cX6_like 47 = .ok (.aload_n 0, 1) := by decide +kernel
theorem dX6_like_48 : decode cX6_like 48 = .ok (.iload 7, 2) := by decide +kernel
theorem dX6_like_50 : decode cX6_like 50 = .ok (.invokevirtual 248, 3) := by decide +kernel
theorem dX6_like_53 : decode cX6_like 53 = .ok (.iload 5, 2) := by decide +kernel
theorem dX6_like_55 : decode cX6_like 55 = .ok (.if_icmp .ne 10, 3) := by decide +kernel
theorem dX6_like_58 : decode cX6_like 58 = .ok (.iconst 1, 1) := by decide +kernel
theorem dX6_like_59 : decode cX6_like 59 = .ok (.iload 7, 2) := by decide +kernel
theorem dX6_like_61 : decode cX6_like 61 = .ok (.ishl, 1) := by decide +kernel
theorem dX6_like_62 : decode cX6_like 62 = .ok (.goto 4, 3) := by decide +kernel
theorem dX6_like_65 : decode cX6_like 65 = .ok (.iconst 0, 1) := by decide +kernel
theorem dX6_like_66 : decode cX6_like 66 = .ok (.ior, 1) := by decide +kernel
theorem dX6_like_67 : decode cX6_like 67 = .ok (.istore 6, 2) := by decide +kernel
theorem dX6_like_69 : decode cX6_like 69 = .ok (.iinc 7 1, 3) := by decide +kernel
theorem dX6_like_72 : decode cX6_like 72 = .ok (.goto (-36), 3) := by decide +kernel
theorem dX6_like_75 : decode cX6_like 75 = .ok (.iload 6, 2) := by decide +kernel
theorem dX6_like_77 : decode cX6_like 77 = .ok (.ireturn, 1) := by decide +kernel
theorem dX6_alike_0 : decode cX6_alike 0 = .ok (.aload_n 0, 1) := by decide +kernel
theorem dX6_alike_1 : decode cX6_alike 1 = .ok (.iload_n 1, 1) := by decide +kernel
theorem dX6_alike_2 : decode cX6_alike 2 = .ok (.iload_n 2, 1) := by decide +kernel
theorem dX6_alike_3 : decode cX6_alike 3 = .ok (.bipush 12, 2) := by decide +kernel
theorem dX6_alike_5 : decode cX6_alike 5 = .ok (.aload_n 0, 1) := by decide +kernel
theorem dX6_alike_6 : decode cX6_alike 6 = .ok (.iload_n 3, 1) := by decide +kernel
theorem dX6_alike_7 : decode cX6_alike 7 = .ok (.invokevirtual 113, 3) := by decide +kernel
theorem dX6_alike_10 : decode cX6_alike 10 = .ok (.ifCond .eq 16, 3) := by decide +kernel
theorem dX6_alike_13 : decode cX6_alike 13 = .ok (.aload_n 0, 1) := by decide +kernel
theorem dX6_alike_14 : decode cX6_alike 14 = .ok (.iload 4, 2) := by decide +kernel
theorem dX6_alike_16 : decode cX6_alike 16 = .ok (.invokevirtual 113, 3) := by decide +kernel
theorem dX6_alike_19 : decode cX6_alike 19 = .ok (.ifCond .eq 7, 3) := by decide +kernel
theorem dX6_alike_22 : decode cX6_alike 22 = .ok (.iconst 1, 1) := by decide +kernel
theorem dX6_alike_23 : decode cX6_alike 23 = .ok (.goto 4, 3) := by decide +kernel
theorem dX6_alike_26 : decode cX6_alike 26 = .ok (.iconst 0, 1) := by decide +kernel
theorem dX6_alike_27 : decode cX6_alike 27 = .ok (.invokevirtual 256, 3) := by decide +kernel
theorem dX6_alike_30 : decode cX6_alike 30 = .ok (.istore 5, 2) := by decide +kernel
theorem dX6_alike_32 : decode cX6_alike 32 = .ok (.iload 5, 2) := by decide +kernel
theorem dX6_alike_34 : decode cX6_alike 34 = .ok (.ifCond .eq 6, 3) := by decide +kernel
theorem dX6_alike_37 : decode cX6_alike 37 = .ok (.iload 5, 2) := by decide +kernel
theorem dX6_alike_39 : decode cX6_alike 39 = .ok (.ireturn, 1) := by decide +kernel
theorem dX6_alike_40 : decode cX6_alike 40 = .ok (.aload_n 0, 1) := by decide +kernel
theorem dX6_alike_41 : decode cX6_alike 41 = .ok (.iload_n 3, 1) := by decide +kernel
theorem dX6_alike_42 : decode cX6_alike 42 = .ok (.invokevirtual 244, 3) := by decide +kernel
theorem dX6_alike_45 : decode cX6_alike 45 = .ok (.aload_n 0, 1) := by decide +kernel
theorem dX6_alike_46 : decode cX6_alike 46 = .ok (.getfield 241, 3) := by decide +kernel
theorem dX6_alike_49 : decode cX6_alike 49 = .ok (.istore 6, 2) := by decide +kernel
theorem dX6_alike_51 : decode cX6_alike 51 = .ok (.iconst 0, 1) := by decide +kernel
theorem dX6_alike_52 : decode cX6_alike 52 = .ok (.istore 7, 2) := by decide +kernel
theorem dX6_alike_54 : decode cX6_alike 54 = .ok (.iload 7, 2) := by decide +kernel
theorem dX6_alike_56 : decode cX6_alike 56 = .ok (.aload_n 0, 1) := by decide +kernel
theorem dX6_alike_57 : decode cX6_alike 57 = .ok (.getfield 241, 3) := by decide +kernel
theorem dX6_alike_60 : decode cX6_alike 60 = .ok (.if_icmp .ge 23, 3) := by decide +kernel
theorem dX6_alike_63 : decode cX6_alike 63 = .ok (.aload_n 0, 1) := by decide +kernel
theorem dX6_alike_64 : decode cX6_alike 64 = .ok (.getfield 68, 3) := by decide +kernel
theorem dX6_alike_67 : decode cX6_alike 67 = .ok (.iload 7, 2) := by decide +kernel
theorem dX6_alike_69 : decode cX6_alike 69 = .ok (.aload_n 0, 1) := by decide +kernel
theorem dX6_alike_70 : decode cX6_alike 70 = .ok (.getfield 65, 3) := by decide +kernel
theorem dX6_alike_73 : decode cX6_alike 73 = .ok (.iload 7, 2) := by decide +kernel
theorem dX6_alike_75 : decode cX6_alike 75 = .ok (.iaload, 1) := by decide +kernel
theorem dX6_alike_76 : decode cX6_alike 76 = .ok (.iastore, 1) := by decide +kernel
theorem dX6_alike_77 : decode cX6_alike 77 = .ok (.iinc 7 1, 3) := by decide +kernel
theorem dX6_alike_80 : decode cX6_alike 80 = .ok (.goto (-26), 3) := by decide +kernel
theorem dX6_alike_83 : decode cX6_alike 83 = .ok (.aload_n 0, 1) := by decide +kernel
theorem dX6_alike_84 : decode cX6_alike 84 = .ok (.iload 4, 2) := by decide +kernel
theorem dX6_alike_86 : decode cX6_alike 86 = .ok (.invokevirtual 244, 3) := by decide +kernel
theorem dX6_alike_89 : decode cX6_alike 89 = .ok (.aload_n 0, 1) := by decide +kernel
theorem dX6_alike_90 : decode cX6_alike 90 = .ok (.getfield 241, 3) := by decide +kernel
theorem dX6_alike_93 : decode cX6_alike 93 = .ok (.iload 6, 2) := by decide +kernel
theorem dX6_alike_95 : decode cX6_alike 95 = .ok (.if_icmp .ne 7, 3) := by decide +kernel
theorem dX6_alike_98 : decode cX6_alike 98 = .ok (.iconst 1, 1) := by decide +kernel
theorem dX6_alike_99 : decode cX6_alike 99 = .ok (.goto 4, 3) := by decide +kernel
theorem dX6_alike_102 : decode cX6_alike 102 = .ok (.iconst 0, 1) := by decide +kernel
theorem dX6_alike_103 : decode cX6_alike 103 = .ok (.istore 7, 2) := by decide +kernel
theorem dX6_alike_105 : decode cX6_alike 105 = .ok (.iconst 0, 1) := by decide +kernel
theorem dX6_alike_106 : decode cX6_alike 106 = .ok (.istore 8, 2) := by decide +kernel
theorem dX6_alike_108 : decode cX6_alike 108 = .ok (.iload 8, 2) := by decide +kernel
theorem dX6_alike_110 : decode cX6_alike 110 = .ok (.aload_n 0, 1) := by decide +kernel
theorem dX6_alike_111 : decode cX6_alike 111 = .ok (.getfield 241, 3) := by decide +kernel
theorem dX6_alike_114 : decode cX6_alike 114 = .ok (.if_icmp .ge 38, 3) := by decide +kernel
theorem dX6_alike_117 : decode cX6_alike 117 = .ok (.iload 7, 2) := by decide +kernel
theorem dX6_alike_119 : decode cX6_alike 119 = .ok (.ifCond .eq 33, 3) := by decide +kernel
theorem dX6_alike_122 : decode cX6_alike 122 = .ok (.aload_n 0, 1) := by decide +kernel
theorem dX6_alike_123 : decode cX6_alike 123 = .ok (.getfield 65, 3) := by decide +kernel
theorem dX6_alike_126 : decode cX6_alike 126 = .ok (.iload 8, 2) := by decide +kernel
theorem dX6_alike_128 : decode cX6_alike 128 = .ok (.iaload, 1) := by decide +kernel
theorem dX6_alike_129 : decode cX6_alike 129 = .ok (.aload_n 0, 1) := by decide +kernel
theorem dX6_alike_130 : decode cX6_alike 130 = .ok (.getfield 68, 3) := by decide +kernel
theorem dX6_alike_133 : decode cX6_alike 133 = .ok (.iload 8, 2) := by decide +kernel
theorem dX6_alike_135 : decode cX6_alike 135 = .ok (.iaload, 1) := by decide +kernel
theorem dX6_alike_136 : decode cX6_alike 136 = .ok (.if_icmp .ne 7, 3) := by decide +kernel
theorem dX6_alike_139 : decode cX6_alike 139 = .ok (.iconst 1, 1) := by decide +kernel
theorem dX6_alike_140 : decode cX6_alike 140 = .ok (.goto 4, 3) := by decide +kernel
theorem dX6_alike_143 : decode cX6_alike 143 = .ok (.iconst 0, 1) := by decide +kernel
theorem dX6_alike_144 : decode cX6_alike 144 = .ok (.istore 7, 2) := by decide +kernel
theorem dX6_alike_146 : decode cX6_alike 146 = .ok (.iinc 8 1, 3) := by decide +kernel
theorem dX6_alike_149 : decode cX6_alike 149 = .ok (.goto (-41), 3) := by decide +kernel
theorem dX6_alike_152 : decode cX6_alike 152 = .ok (.iload 7, 2) := by decide +kernel
theorem dX6_alike_154 : decode cX6_alike 154 = .ok (.ifCond .eq 7, 3) := by decide +kernel
theorem dX6_alike_157 : decode cX6_alike 157 = .ok (.iconst 1, 1) := by decide +kernel
theorem dX6_alike_158 : decode cX6_alike 158 = .ok (.goto 4, 3) := by decide +kernel
theorem dX6_alike_161 : decode cX6_alike 161 = .ok (.iconst 0, 1) := by decide +kernel
theorem dX6_alike_162 : decode cX6_alike 162 = .ok (.ireturn, 1) := by decide +kernel
theorem dX6_held_0 : decode cX6_held 0 = .ok (.iload_n 0, 1) := by decide +kernel
theorem dX6_held_1 : decode cX6_held 1 = .ok (.ifCond .ge 7, 3) := by decide +kernel
theorem dX6_held_4 : decode cX6_held 4 = .ok (.iconst 0, 1) := by decide +kernel
theorem dX6_held_5 : decode cX6_held 5 = .ok (.goto 15, 3) := by decide +kernel
theorem dX6_held_8 : decode cX6_held 8 = .ok (.iload_n 0, 1) := by decide +kernel
theorem dX6_held_9 : decode cX6_held 9 = .ok (.bipush 40, 2) := by decide +kernel
theorem dX6_held_11 : decode cX6_held 11 = .ok (.if_icmp .le 8, 3) := by decide +kernel
theorem dX6_held_14 : decode cX6_held 14 = .ok (.bipush 40, 2) := by decide +kernel
theorem dX6_held_16 : decode cX6_held 16 = .ok (.goto 4, 3) := by decide +kernel
theorem dX6_held_19 : decode cX6_held 19 = .ok (.iload_n 0, 1) := by decide +kernel
theorem dX6_held_20 : decode cX6_held 20 = .ok (.ireturn, 1) := by decide +kernel
theorem dX6_passes_0 : decode cX6_passes 0 = .ok (.aload_n 0, 1) := by decide +kernel
theorem dX6_passes_1 : decode cX6_passes 1 = .ok (.aload_n 0, 1) := by decide +kernel
theorem dX6_passes_2 : decode cX6_passes 2 = .ok (.getfield 37, 3) := by decide +kernel
theorem dX6_passes_5 : decode cX6_passes 5 = .ok (.iconst 1, 1) := by decide +kernel
theorem dX6_passes_6 : decode cX6_passes 6 = .ok (.iadd, 1) := by decide +kernel
theorem dX6_passes_7 : decode cX6_passes 7 = .ok (.aload_n 0, 1) := by decide +kernel
theorem dX6_passes_8 : decode cX6_passes 8 = .ok (.getfield 41, 3) := by decide +kernel
theorem dX6_passes_11 : decode cX6_passes 11 = .ok (.isub, 1) := by decide +kernel
theorem dX6_passes_12 : decode cX6_passes 12 = .ok (.invokestatic 266, 3) := by decide +kernel
theorem dX6_passes_15 : decode cX6_passes 15 = .ok (.putfield 37, 3) := by decide +kernel
theorem dX6_passes_18 : decode cX6_passes 18 = .ok (.aload_n 0, 1) := by decide +kernel
theorem dX6_passes_19 : decode cX6_passes 19 = .ok (.aload_n 0, 1) := by decide +kernel
theorem dX6_passes_20 : decode cX6_passes 20 = .ok (.getfield 141, 3) := by decide +kernel
theorem dX6_passes_23 : decode cX6_passes 23 = .ok (.sipush 9999, 3) := by decide +kernel
theorem dX6_passes_26 : decode cX6_passes 26 = .ok (.if_icmp .ge 12, 3) := by decide +kernel
theorem dX6_passes_29 : decode cX6_passes 29 = .ok (.aload_n 0, 1) := by decide +kernel
theorem dX6_passes_30 : decode cX6_passes 30 = .ok (.getfield 141, 3) := by decide +kernel
theorem dX6_passes_33 : decode cX6_passes 33 = .ok (.iconst 1, 1) := by decide +kernel
theorem dX6_passes_34 : decode cX6_passes 34 = .ok (.iadd, 1) := by decide +kernel
theorem dX6_passes_35 : decode cX6_passes 35 = .ok (.goto 6, 3) := by decide +kernel
theorem dX6_passes_38 : decode cX6_passes 38 = .ok (.sipush 9999, 3) := by decide +kernel
theorem dX6_passes_41 : decode cX6_passes 41 = .ok (.putfield 141, 3) := by decide +kernel
theorem dX6_passes_44 : decode cX6_passes 44 = .ok (.return_, 1) := by decide +kernel
theorem dX6_keeps_0 : decode cX6_keeps 0 = .ok (.aload_n 0, 1) := by decide +kernel
theorem dX6_keeps_1 : decode cX6_keeps 1 = .ok (.aload_n 0, 1) := by decide +kernel
theorem dX6_keeps_2 : decode cX6_keeps 2 = .ok (.getfield 37, 3) := by decide +kernel
theorem dX6_keeps_5 : decode cX6_keeps 5 = .ok (.putfield 269, 3) := by decide +kernel
theorem dX6_keeps_8 : decode cX6_keeps 8 = .ok (.aload_n 0, 1) := by decide +kernel
theorem dX6_keeps_9 : decode cX6_keeps 9 = .ok (.aload_n 0, 1) := by decide +kernel
theorem dX6_keeps_10 : decode cX6_keeps 10 = .ok (.getfield 141, 3) := by decide +kernel
theorem dX6_keeps_13 : decode cX6_keeps 13 = .ok (.putfield 272, 3) := by decide +kernel
theorem dX6_keeps_16 : decode cX6_keeps 16 = .ok (.aload_n 0, 1) := by decide +kernel
theorem dX6_keeps_17 : decode cX6_keeps 17 = .ok (.aload_n 0, 1) := by decide +kernel
theorem dX6_keeps_18 : decode cX6_keeps 18 = .ok (.getfield 41, 3) := by decide +kernel
theorem dX6_keeps_21 : decode cX6_keeps 21 = .ok (.putfield 275, 3) := by decide +kernel
theorem dX6_keeps_24 : decode cX6_keeps 24 = .ok (.return_, 1) := by decide +kernel
theorem dX6_goesBack_0 : decode cX6_goesBack 0 = .ok (.aload_n 0, 1) := by decide +kernel
theorem dX6_goesBack_1 : decode cX6_goesBack 1 = .ok (.aload_n 0, 1) := by decide +kernel
theorem dX6_goesBack_2 : decode cX6_goesBack 2 = .ok (.getfield 269, 3) := by decide +kernel
theorem dX6_goesBack_5 : decode cX6_goesBack 5 = .ok (.putfield 37, 3) := by decide +kernel
theorem dX6_goesBack_8 : decode cX6_goesBack 8 = .ok (.aload_n 0, 1) := by decide +kernel
theorem dX6_goesBack_9 : decode cX6_goesBack 9 = .ok (.aload_n 0, 1) := by decide +kernel
theorem dX6_goesBack_10 : decode cX6_goesBack 10 = .ok (.getfield 272, 3) := by decide +kernel
theorem dX6_goesBack_13 : decode cX6_goesBack 13 = .ok (.putfield 141, 3) := by decide +kernel
theorem dX6_goesBack_16 : decode cX6_goesBack 16 = .ok (.aload_n 0, 1) := by decide +kernel
theorem dX6_goesBack_17 : decode cX6_goesBack 17 = .ok (.aload_n 0, 1) := by decide +kernel
theorem dX6_goesBack_18 : decode cX6_goesBack 18 = .ok (.getfield 275, 3) := by decide +kernel
theorem dX6_goesBack_21 : decode cX6_goesBack 21 = .ok (.putfield 41, 3) := by decide +kernel
theorem dX6_goesBack_24 : decode cX6_goesBack 24 = .ok (.return_, 1) := by decide +kernel
theorem dX6_ahead_0 : decode cX6_ahead 0 = .ok (.iload_n 1, 1) := by decide +kernel
theorem dX6_ahead_1 : decode cX6_ahead 1 = .ok (.i2l, 1) := by decide +kernel
theorem dX6_ahead_2 : decode cX6_ahead 2 = .ok (.lconst 0, 1) := by decide +kernel
theorem dX6_ahead_3 : decode cX6_ahead 3 = .ok (.ldc2_w 278, 3) := by decide +kernel
theorem dX6_ahead_6 : decode cX6_ahead 6 = .ok (.invokestatic 92, 3) := by decide +kernel
theorem dX6_ahead_9 : decode cX6_ahead 9 = .ok (.ifCond .ne 10, 3) := by decide +kernel
theorem dX6_ahead_12 : decode cX6_ahead 12 = .ok (.aload_n 0, 1) := by decide +kernel
theorem dX6_ahead_13 : decode cX6_ahead 13 = .ok (.bipush (-2), 2) := by decide +kernel
theorem dX6_ahead_15 : decode cX6_ahead 15 = .ok (.invokevirtual 102, 3) := by decide +kernel
theorem dX6_ahead_18 : decode cX6_ahead 18 = .ok (.ireturn, 1) := by decide +kernel
theorem dX6_ahead_19 : decode cX6_ahead 19 = .ok (.aload_n 0, 1) := by decide +kernel
theorem dX6_ahead_20 : decode cX6_ahead 20 = .ok (.getfield 37, 3) := by decide +kernel
theorem dX6_ahead_23 : decode cX6_ahead 23 = .ok (.istore_n 2, 1) := by decide +kernel
theorem dX6_ahead_24 : decode cX6_ahead 24 = .ok (.iconst 0, 1) := by decide +kernel
theorem dX6_ahead_25 : decode cX6_ahead 25 = .ok (.istore_n 3, 1) := by decide +kernel
theorem dX6_ahead_26 : decode cX6_ahead 26 = .ok (.iload_n 3, 1) := by decide +kernel
theorem dX6_ahead_27 : decode cX6_ahead 27 = .ok (.iload_n 1, 1) := by decide +kernel
theorem dX6_ahead_28 : decode cX6_ahead 28 = .ok (.if_icmp .ge 21, 3) := by decide +kernel
theorem dX6_ahead_31 : decode cX6_ahead 31 = .ok (.iload_n 2, 1) := by decide +kernel
theorem dX6_ahead_32 : decode cX6_ahead 32 = .ok (.iconst 1, 1) := by decide +kernel
theorem dX6_ahead_33 : decode cX6_ahead 33 = .ok (.iadd, 1) := by decide +kernel
theorem dX6_ahead_34 : decode cX6_ahead 34 = .ok (.aload_n 0, 1) := by decide +kernel
theorem dX6_ahead_35 : decode cX6_ahead 35 = .ok (.getfield 41, 3) := by decide +kernel
theorem dX6_ahead_38 : decode cX6_ahead 38 = .ok (.isub, 1) := by decide +kernel
theorem dX6_ahead_39 : decode cX6_ahead 39 = .ok (.invokestatic 266, 3) := by decide +kernel
theorem dX6_ahead_42 : decode cX6_ahead 42 = .ok (.istore_n 2, 1) := by decide +kernel
theorem dX6_ahead_43 : decode cX6_ahead 43 = .ok (.iinc 3 1, 3) := by decide +kernel
theorem dX6_ahead_46 : decode cX6_ahead 46 = .ok (.goto (-20), 3) := by decide +kernel
theorem dX6_ahead_49 : decode cX6_ahead 49 = .ok (.iload_n 2, 1) := by decide +kernel
theorem dX6_ahead_50 : decode cX6_ahead 50 = .ok (.ireturn, 1) := by decide +kernel
theorem dX6_sinks_0 : decode cX6_sinks 0 = .ok (.iload_n 1, 1) := by decide +kernel
theorem dX6_sinks_1 : decode cX6_sinks 1 = .ok (.i2l, 1) := by decide +kernel
theorem dX6_sinks_2 : decode cX6_sinks 2 = .ok (.lconst 0, 1) := by decide +kernel
theorem dX6_sinks_3 : decode cX6_sinks 3 = .ok (.ldc2_w 100, 3) := by decide +kernel
theorem dX6_sinks_6 : decode cX6_sinks 6 = .ok (.invokestatic 92, 3) := by decide +kernel
theorem dX6_sinks_9 : decode cX6_sinks 9 = .ok (.ifCond .ne 10, 3) := by decide +kernel
theorem dX6_sinks_12 : decode cX6_sinks 12 = .ok (.aload_n 0, 1) := by decide +kernel
theorem dX6_sinks_13 : decode cX6_sinks 13 = .ok (.bipush (-2), 2) := by decide +kernel
theorem dX6_sinks_15 : decode cX6_sinks 15 = .ok (.invokevirtual 102, 3) := by decide +kernel
theorem dX6_sinks_18 : decode cX6_sinks 18 = .ok (.ireturn, 1) := by decide +kernel
theorem dX6_sinks_19 : decode cX6_sinks 19 = .ok (.aload_n 0, 1) := by decide +kernel
theorem dX6_sinks_20 : decode cX6_sinks 20 = .ok (.getfield 37, 3) := by decide +kernel
theorem dX6_sinks_23 : decode cX6_sinks 23 = .ok (.istore_n 2, 1) := by decide +kernel
theorem dX6_sinks_24 : decode cX6_sinks 24 = .ok (.iconst 0, 1) := by decide +kernel
theorem dX6_sinks_25 : decode cX6_sinks 25 = .ok (.istore_n 3, 1) := by decide +kernel
theorem dX6_sinks_26 : decode cX6_sinks 26 = .ok (.iload_n 3, 1) := by decide +kernel
theorem dX6_sinks_27 : decode cX6_sinks 27 = .ok (.sipush 200, 3) := by decide +kernel
theorem dX6_sinks_30 : decode cX6_sinks 30 = .ok (.if_icmp .gt 28, 3) := by decide +kernel
theorem dX6_sinks_33 : decode cX6_sinks 33 = .ok (.iload_n 2, 1) := by decide +kernel
theorem dX6_sinks_34 : decode cX6_sinks 34 = .ok (.iload_n 1, 1) := by decide +kernel
theorem dX6_sinks_35 : decode cX6_sinks 35 = .ok (.if_icmp .lt 5, 3) := by decide +kernel
theorem dX6_sinks_38 : decode cX6_sinks 38 = .ok (.iload_n 3, 1) := by decide +kernel
theorem dX6_sinks_39 : decode cX6_sinks 39 = .ok (.ireturn, 1) := by decide +kernel
theorem dX6_sinks_40 : decode cX6_sinks 40 = .ok (.iload_n 2, 1) := by decide +kernel
theorem dX6_sinks_41 : decode cX6_sinks 41 = .ok (.iconst 1, 1) := by decide +kernel
theorem dX6_sinks_42 : decode cX6_sinks 42 = .ok (.iadd, 1) := by decide +kernel
theorem dX6_sinks_43 : decode cX6_sinks 43 = .ok (.aload_n 0, 1) := by decide +kernel
theorem dX6_sinks_44 : decode cX6_sinks 44 = .ok (.getfield 41, 3) := by decide +kernel
theorem dX6_sinks_47 : decode cX6_sinks 47 = .ok (.isub, 1) := by decide +kernel
theorem dX6_sinks_48 : decode cX6_sinks 48 = .ok (.invokestatic 266, 3) := by decide +kernel
theorem dX6_sinks_51 : decode cX6_sinks 51 = .ok (.istore_n 2, 1) := by decide +kernel
theorem dX6_sinks_52 : decode cX6_sinks 52 = .ok (.iinc 3 1, 3) := by decide +kernel
theorem dX6_sinks_55 : decode cX6_sinks 55 = .ok (.goto (-29), 3) := by decide +kernel
theorem dX6_sinks_58 : decode cX6_sinks 58 = .ok (.iconst (-1), 1) := by decide +kernel
theorem dX6_sinks_59 : decode cX6_sinks 59 = .ok (.ireturn, 1) := by decide +kernel
theorem dX6_when_0 : decode cX6_when 0 = .ok (.aload_n 0, 1) := by decide +kernel
theorem dX6_when_1 : decode cX6_when 1 = .ok (.iload_n 1, 1) := by decide +kernel
theorem dX6_when_2 : decode cX6_when 2 = .ok (.iload_n 2, 1) := by decide +kernel
theorem dX6_when_3 : decode cX6_when 3 = .ok (.bipush 12, 2) := by decide +kernel
theorem dX6_when_5 : decode cX6_when 5 = .ok (.aload_n 0, 1) := by decide +kernel
theorem dX6_when_6 : decode cX6_when 6 = .ok (.iload_n 3, 1) := by decide +kernel
theorem dX6_when_7 : decode cX6_when 7 = .ok (.invokevirtual 113, 3) := by decide +kernel
theorem dX6_when_10 : decode cX6_when 10 = .ok (.invokevirtual 256, 3) := by decide +kernel
theorem dX6_when_13 : decode cX6_when 13 = .ok (.istore 4, 2) := by decide +kernel
theorem dX6_when_15 : decode cX6_when 15 = .ok (.iload 4, 2) := by decide +kernel
theorem dX6_when_17 : decode cX6_when 17 = .ok (.ifCond .eq 6, 3) := by decide +kernel
theorem dX6_when_20 : decode cX6_when 20 = .ok (.iload 4, 2) := by decide +kernel
theorem dX6_when_22 : decode cX6_when 22 = .ok (.ireturn, 1) := by decide +kernel
theorem dX6_when_23 : decode cX6_when 23 = .ok (.aload_n 0, 1) := by decide +kernel
theorem dX6_when_24 : decode cX6_when 24 = .ok (.invokevirtual 280, 3) := by decide +kernel
theorem dX6_when_27 : decode cX6_when 27 = .ok (.iconst 0, 1) := by decide +kernel
theorem dX6_when_28 : decode cX6_when 28 = .ok (.istore 5, 2) := by decide +kernel
theorem dX6_when_30 : decode cX6_when 30 = .ok (.iload 5, 2) := by decide +kernel
theorem dX6_when_32 : decode cX6_when 32 = .ok (.bipush 60, 2) := by decide +kernel
theorem dX6_when_34 : decode cX6_when 34 = .ok (.if_icmp .gt 21, 3) := by decide +kernel
theorem dX6_when_37 : decode cX6_when 37 = .ok (.aload_n 0, 1) := by decide +kernel
theorem dX6_when_38 : decode cX6_when 38 = .ok (.iload_n 3, 1) := by decide +kernel
theorem dX6_when_39 : decode cX6_when 39 = .ok (.invokevirtual 260, 3) := by decide +kernel
theorem dX6_when_42 : decode cX6_when 42 = .ok (.ifCond .ne 13, 3) := by decide +kernel
theorem dX6_when_45 : decode cX6_when 45 = .ok (.aload_n 0, 1) := by decide +kernel
theorem dX6_when_46 : decode cX6_when 46 = .ok (.invokevirtual 283, 3) := by decide +kernel
theorem dX6_when_49 : decode cX6_when 49 = .ok (.iinc 5 1, 3) := by decide +kernel
theorem dX6_when_52 : decode cX6_when 52 = .ok (.goto (-22), 3) := by decide +kernel
theorem dX6_when_55 : decode cX6_when 55 = .ok (.aload_n 0, 1) := by decide +kernel
theorem dX6_when_56 : decode cX6_when 56 = .ok (.invokevirtual 286, 3) := by decide +kernel
theorem dX6_when_59 : decode cX6_when 59 = .ok (.iload 5, 2) := by decide +kernel
theorem dX6_when_61 : decode cX6_when 61 = .ok (.bipush 60, 2) := by decide +kernel
theorem dX6_when_63 : decode cX6_when 63 = .ok (.if_icmp .gt 8, 3) := by decide +kernel
theorem dX6_when_66 : decode cX6_when 66 = .ok (.iload 5, 2) := by decide +kernel
theorem dX6_when_68 : decode cX6_when 68 = .ok (.goto 4, 3) := by decide +kernel
theorem dX6_when_71 : decode cX6_when 71 = .ok (.iconst (-1), 1) := by decide +kernel
theorem dX6_when_72 : decode cX6_when 72 = .ok (.ireturn, 1) := by decide +kernel
theorem dX6_sure_0 : decode cX6_sure 0 = .ok (.aload_n 0, 1) := by decide +kernel
theorem dX6_sure_1 : decode cX6_sure 1 = .ok (.iload_n 1, 1) := by decide +kernel
theorem dX6_sure_2 : decode cX6_sure 2 = .ok (.iload_n 2, 1) := by decide +kernel
theorem dX6_sure_3 : decode cX6_sure 3 = .ok (.bipush 12, 2) := by decide +kernel
theorem dX6_sure_5 : decode cX6_sure 5 = .ok (.aload_n 0, 1) := by decide +kernel
theorem dX6_sure_6 : decode cX6_sure 6 = .ok (.iload_n 3, 1) := by decide +kernel
theorem dX6_sure_7 : decode cX6_sure 7 = .ok (.invokevirtual 113, 3) := by decide +kernel
theorem dX6_sure_10 : decode cX6_sure 10 = .ok (.invokevirtual 256, 3) := by decide +kernel
theorem dX6_sure_13 : decode cX6_sure 13 = .ok (.istore 4, 2) := by decide +kernel
theorem dX6_sure_15 : decode cX6_sure 15 = .ok (.iload 4, 2) := by decide +kernel
theorem dX6_sure_17 : decode cX6_sure 17 = .ok (.ifCond .eq 6, 3) := by decide +kernel
theorem dX6_sure_20 : decode cX6_sure 20 = .ok (.iload 4, 2) := by decide +kernel
theorem dX6_sure_22 : decode cX6_sure 22 = .ok (.ireturn, 1) := by decide +kernel
theorem dX6_sure_23 : decode cX6_sure 23 = .ok (.aload_n 0, 1) := by decide +kernel
theorem dX6_sure_24 : decode cX6_sure 24 = .ok (.invokevirtual 280, 3) := by decide +kernel
theorem dX6_sure_27 : decode cX6_sure 27 = .ok (.iconst 0, 1) := by decide +kernel
theorem dX6_sure_28 : decode cX6_sure 28 = .ok (.istore 5, 2) := by decide +kernel
theorem dX6_sure_30 : decode cX6_sure 30 = .ok (.iload 5, 2) := by decide +kernel
theorem dX6_sure_32 : decode cX6_sure 32 = .ok (.bipush 60, 2) := by decide +kernel
theorem dX6_sure_34 : decode cX6_sure 34 = .ok (.if_icmp .ge 21, 3) := by decide +kernel
theorem dX6_sure_37 : decode cX6_sure 37 = .ok (.aload_n 0, 1) := by decide +kernel
theorem dX6_sure_38 : decode cX6_sure 38 = .ok (.iload_n 3, 1) := by decide +kernel
theorem dX6_sure_39 : decode cX6_sure 39 = .ok (.invokevirtual 260, 3) := by decide +kernel
theorem dX6_sure_42 : decode cX6_sure 42 = .ok (.ifCond .eq 13, 3) := by decide +kernel
theorem dX6_sure_45 : decode cX6_sure 45 = .ok (.aload_n 0, 1) := by decide +kernel
theorem dX6_sure_46 : decode cX6_sure 46 = .ok (.invokevirtual 283, 3) := by decide +kernel
theorem dX6_sure_49 : decode cX6_sure 49 = .ok (.iinc 5 1, 3) := by decide +kernel
theorem dX6_sure_52 : decode cX6_sure 52 = .ok (.goto (-22), 3) := by decide +kernel
theorem dX6_sure_55 : decode cX6_sure 55 = .ok (.aload_n 0, 1) := by decide +kernel
theorem dX6_sure_56 : decode cX6_sure 56 = .ok (.invokevirtual 286, 3) := by decide +kernel
theorem dX6_sure_59 : decode cX6_sure 59 = .ok (.iload 5, 2) := by decide +kernel
theorem dX6_sure_61 : decode cX6_sure 61 = .ok (.ireturn, 1) := by decide +kernel
theorem dX6_rains_0 : decode cX6_rains 0 = .ok (.aload_n 0, 1) := by decide +kernel
theorem dX6_rains_1 : decode cX6_rains 1 = .ok (.iload_n 1, 1) := by decide +kernel
theorem dX6_rains_2 : decode cX6_rains 2 = .ok (.iload_n 2, 1) := by decide +kernel
theorem dX6_rains_3 : decode cX6_rains 3 = .ok (.bipush 12, 2) := by decide +kernel
theorem dX6_rains_5 : decode cX6_rains 5 = .ok (.aload_n 0, 1) := by decide +kernel
theorem dX6_rains_6 : decode cX6_rains 6 = .ok (.iload_n 3, 1) := by decide +kernel
theorem dX6_rains_7 : decode cX6_rains 7 = .ok (.invokevirtual 113, 3) := by decide +kernel
theorem dX6_rains_10 : decode cX6_rains 10 = .ok (.ifCond .eq 20, 3) := by decide +kernel
theorem dX6_rains_13 : decode cX6_rains 13 = .ok (.iload 4, 2) := by decide +kernel
theorem dX6_rains_15 : decode cX6_rains 15 = .ok (.i2l, 1) := by decide +kernel
theorem dX6_rains_16 : decode cX6_rains 16 = .ok (.lconst 0, 1) := by decide +kernel
theorem dX6_rains_17 : decode cX6_rains 17 = .ok (.ldc2_w 289, 3) := by decide +kernel
theorem dX6_rains_20 : decode cX6_rains 20 = .ok (.invokestatic 92, 3) := by decide +kernel
theorem dX6_rains_23 : decode cX6_rains 23 = .ok (.ifCond .eq 7, 3) := by decide +kernel
theorem dX6_rains_26 : decode cX6_rains 26 = .ok (.iconst 1, 1) := by decide +kernel
theorem dX6_rains_27 : decode cX6_rains 27 = .ok (.goto 4, 3) := by decide +kernel
theorem dX6_rains_30 : decode cX6_rains 30 = .ok (.iconst 0, 1) := by decide +kernel
theorem dX6_rains_31 : decode cX6_rains 31 = .ok (.invokevirtual 256, 3) := by decide +kernel
theorem dX6_rains_34 : decode cX6_rains 34 = .ok (.istore 5, 2) := by decide +kernel
theorem dX6_rains_36 : decode cX6_rains 36 = .ok (.iload 5, 2) := by decide +kernel
theorem dX6_rains_38 : decode cX6_rains 38 = .ok (.ifCond .eq 6, 3) := by decide +kernel
theorem dX6_rains_41 : decode cX6_rains 41 = .ok (.iload 5, 2) := by decide +kernel
theorem dX6_rains_43 : decode cX6_rains 43 = .ok (.ireturn, 1) := by decide +kernel
theorem dX6_rains_44 : decode cX6_rains 44 = .ok (.aload_n 0, 1) := by decide +kernel
theorem dX6_rains_45 : decode cX6_rains 45 = .ok (.invokevirtual 280, 3) := by decide +kernel
theorem dX6_rains_48 : decode cX6_rains 48 = .ok (.iconst (-1), 1) := by decide +kernel
theorem dX6_rains_49 : decode cX6_rains 49 = .ok (.istore 6, 2) := by decide +kernel
theorem dX6_rains_51 : decode cX6_rains 51 = .ok (.bipush 9, 2) := by decide +kernel
theorem dX6_rains_53 : decode cX6_rains 53 = .ok (.istore 7, 2) := by decide +kernel
theorem dX6_rains_55 : decode cX6_rains 55 = .ok (.iload 7, 2) := by decide +kernel
theorem dX6_rains_57 : decode cX6_rains 57 = .ok (.ifCond .lt 56, 3) := by decide +kernel
theorem dX6_rains_60 : decode cX6_rains 60 = .ok (.aload_n 0, 1) := by decide +kernel
theorem dX6_rains_61 : decode cX6_rains 61 = .ok (.invokevirtual 286, 3) := by decide +kernel
theorem dX6_rains_64 : decode cX6_rains 64 = .ok (.aload_n 0, 1) := by decide +kernel
theorem dX6_rains_65 : decode cX6_rains 65 = .ok (.iload 7, 2) := by decide +kernel
theorem dX6_rains_67 : decode cX6_rains 67 = .ok (.putfield 41, 3) := by decide +kernel
theorem dX6_rains_70 : decode cX6_rains 70 = .ok (.iconst 0, 1) := by decide +kernel
theorem dX6_rains_71 : decode cX6_rains 71 = .ok (.istore 8, 2) := by decide +kernel
theorem dX6_rains_73 : decode cX6_rains 73 = .ok (.iload 8, 2) := by decide +kernel
theorem dX6_rains_75 : decode cX6_rains 75 = .ok (.iload 4, 2) := by decide +kernel
theorem dX6_rains_77 : decode cX6_rains 77 = .ok (.if_icmp .ge 13, 3) := by decide +kernel
theorem dX6_rains_80 : decode cX6_rains 80 = .ok (.aload_n 0, 1) := by decide +kernel
theorem dX6_rains_81 : decode cX6_rains 81 = .ok (.invokevirtual 283, 3) := by decide +kernel
theorem dX6_rains_84 : decode cX6_rains 84 = .ok (.iinc 8 1, 3) := by decide +kernel
theorem dX6_rains_87 : decode cX6_rains 87 = .ok (.goto (-14), 3) := by decide +kernel
theorem dX6_rains_90 : decode cX6_rains 90 = .ok (.aload_n 0, 1) := by decide +kernel
theorem dX6_rains_91 : decode cX6_rains 91 = .ok (.iload_n 3, 1) := by decide +kernel
theorem dX6_rains_92 : decode cX6_rains 92 = .ok (.invokevirtual 260, 3) := by decide +kernel
theorem dX6_rains_95 : decode cX6_rains 95 = .ok (.ifCond .eq 8, 3) := by decide +kernel
theorem dX6_rains_98 : decode cX6_rains 98 = .ok (.iload 7, 2) := by decide +kernel
theorem dX6_rains_100 : decode cX6_rains 100 = .ok (.goto 5, 3) := by decide +kernel
theorem dX6_rains_103 : decode cX6_rains 103 = .ok (.iload 6, 2) := by decide +kernel
theorem dX6_rains_105 : decode cX6_rains 105 = .ok (.istore 6, 2) := by decide +kernel
theorem dX6_rains_107 : decode cX6_rains 107 = .ok (.iinc 7 (-1), 3) := by decide +kernel
theorem dX6_rains_110 : decode cX6_rains 110 = .ok (.goto (-55), 3) := by decide +kernel
theorem dX6_rains_113 : decode cX6_rains 113 = .ok (.aload_n 0, 1) := by decide +kernel
theorem dX6_rains_114 : decode cX6_rains 114 = .ok (.invokevirtual 286, 3) := by decide +kernel
theorem dX6_rains_117 : decode cX6_rains 117 = .ok (.iload 6, 2) := by decide +kernel
theorem dX6_rains_119 : decode cX6_rains 119 = .ok (.ireturn, 1) := by decide +kernel
theorem dX6_fans_0 : decode cX6_fans 0 = .ok (.iload_n 2, 1) := by decide +kernel
theorem dX6_fans_1 : decode cX6_fans 1 = .ok (.ifCond .ne 40, 3) := by decide +kernel
theorem dX6_fans_4 : decode cX6_fans 4 = .ok (.aload_n 0, 1) := by decide +kernel
theorem dX6_fans_5 : decode cX6_fans 5 = .ok (.dup, 1) := by decide +kernel
theorem dX6_fans_6 : decode cX6_fans 6 = .ok (.getfield 291, 3) := by decide +kernel
theorem dX6_fans_9 : decode cX6_fans 9 = .ok (.aload_n 0, 1) := by decide +kernel
theorem dX6_fans_10 : decode cX6_fans 10 = .ok (.iload_n 1, 1) := by decide +kernel
theorem dX6_fans_11 : decode cX6_fans 11 = .ok (.invokevirtual 260, 3) := by decide +kernel
theorem dX6_fans_14 : decode cX6_fans 14 = .ok (.ifCond .eq 7, 3) := by decide +kernel
theorem dX6_fans_17 : decode cX6_fans 17 = .ok (.lconst 1, 1) := by decide +kernel
theorem dX6_fans_18 : decode cX6_fans 18 = .ok (.goto 4, 3) := by decide +kernel
theorem dX6_fans_21 : decode cX6_fans 21 = .ok (.lconst 0, 1) := by decide +kernel
theorem dX6_fans_22 : decode cX6_fans 22 = .ok (.ladd, 1) := by decide +kernel
theorem dX6_fans_23 : decode cX6_fans 23 = .ok (.putfield 291, 3) := by decide +kernel
theorem dX6_fans_26 : decode cX6_fans 26 = .ok (.aload_n 0, 1) := by decide +kernel
theorem dX6_fans_27 : decode cX6_fans 27 = .ok (.dup, 1) := by decide +kernel
theorem dX6_fans_28 : decode cX6_fans 28 = .ok (.getfield 295, 3) := by decide +kernel
theorem dX6_fans_31 : decode cX6_fans 31 = .ok (.aload_n 0, 1) := by decide +kernel
theorem dX6_fans_32 : decode cX6_fans 32 = .ok (.getfield 37, 3) := by decide +kernel
theorem dX6_fans_35 : decode cX6_fans 35 = .ok (.i2l, 1) := by decide +kernel
theorem dX6_fans_36 : decode cX6_fans 36 = .ok (.ladd, 1) := by decide +kernel
theorem dX6_fans_37 : decode cX6_fans 37 = .ok (.putfield 295, 3) := by decide +kernel
theorem dX6_fans_40 : decode cX6_fans 40 = .ok (.return_, 1) := by decide +kernel
theorem dX6_fans_41 : decode cX6_fans 41 = .ok (.aload_n 0, 1) := by decide +kernel
theorem dX6_fans_42 : decode cX6_fans 42 = .ok (.getfield 37, 3) := by decide +kernel
theorem dX6_fans_45 : decode cX6_fans 45 = .ok (.istore_n 3, 1) := by decide +kernel
theorem dX6_fans_46 : decode cX6_fans 46 = .ok (.aload_n 0, 1) := by decide +kernel
theorem dX6_fans_47 : decode cX6_fans 47 = .ok (.getfield 141, 3) := by decide +kernel
theorem dX6_fans_50 : decode cX6_fans 50 = .ok (.istore 4, 2) := by decide +kernel
theorem dX6_fans_52 : decode cX6_fans 52 = .ok (.iconst 0, 1) := by decide +kernel
theorem dX6_fans_53 : decode cX6_fans 53 = .ok (.istore 5, 2) := by decide +kernel
theorem dX6_fans_55 : decode cX6_fans 55 = .ok (.iload 5, 2) := by decide +kernel
theorem dX6_fans_57 : decode cX6_fans 57 = .ok (.bipush 9, 2) := by decide +kernel
theorem dX6_fans_59 : decode cX6_fans 59 = .ok (.if_icmp .gt 38, 3) := by decide +kernel
theorem dX6_fans_62 : decode cX6_fans 62 = .ok (.aload_n 0, 1) := by decide +kernel
theorem dX6_fans_63 : decode cX6_fans 63 = .ok (.iload 5, 2) := by decide +kernel
theorem dX6_fans_65 : decode cX6_fans 65 = .ok (.putfield 41, 3) := by decide +kernel
theorem dX6_fans_68 : decode cX6_fans 68 = .ok (.aload_n 0, 1) := by decide +kernel
theorem dX6_fans_69 : decode cX6_fans 69 = .ok (.invokevirtual 283, 3) := by decide +kernel
theorem dX6_fans_72 : decode cX6_fans 72 = .ok (.aload_n 0, 1) := by decide +kernel
theorem dX6_fans_73 : decode cX6_fans 73 = .ok (.iload_n 1, 1) := by decide +kernel
theorem dX6_fans_74 : decode cX6_fans 74 = .ok (.iload_n 2, 1) := by decide +kernel
theorem dX6_fans_75 : decode cX6_fans 75 = .ok (.iconst 1, 1) := by decide +kernel
theorem dX6_fans_76 : decode cX6_fans 76 = .ok (.isub, 1) := by decide +kernel
theorem dX6_fans_77 : decode cX6_fans 77 = .ok (.invokevirtual 298, 3) := by decide +kernel
theorem dX6_fans_80 : decode cX6_fans 80 = .ok (.aload_n 0, 1) := by decide +kernel
theorem dX6_fans_81 : decode cX6_fans 81 = .ok (.iload_n 3, 1) := by decide +kernel
theorem dX6_fans_82 : decode cX6_fans 82 = .ok (.putfield 37, 3) := by decide +kernel
theorem dX6_fans_85 : decode cX6_fans 85 = .ok (.aload_n 0, 1) := by decide +kernel
theorem dX6_fans_86 : decode cX6_fans 86 = .ok (.iload 4, 2) := by decide +kernel
theorem dX6_fans_88 : decode cX6_fans 88 = .ok (.putfield 141, 3) := by decide +kernel
theorem dX6_fans_91 : decode cX6_fans 91 = .ok (.iinc 5 1, 3) := by decide +kernel
theorem dX6_fans_94 : decode cX6_fans 94 = .ok (.goto (-39), 3) := by decide +kernel
theorem dX6_fans_97 : decode cX6_fans 97 = .ok (.return_, 1) := by decide +kernel
theorem dX6_odds_0 : decode cX6_odds 0 = .ok (.aload_n 0, 1) := by decide +kernel
theorem dX6_odds_1 : decode cX6_odds 1 = .ok (.iload_n 1, 1) := by decide +kernel
theorem dX6_odds_2 : decode cX6_odds 2 = .ok (.iload_n 2, 1) := by decide +kernel
theorem dX6_odds_3 : decode cX6_odds 3 = .ok (.bipush 12, 2) := by decide +kernel
theorem dX6_odds_5 : decode cX6_odds 5 = .ok (.aload_n 0, 1) := by decide +kernel
theorem dX6_odds_6 : decode cX6_odds 6 = .ok (.iload_n 3, 1) := by decide +kernel
theorem dX6_odds_7 : decode cX6_odds 7 = .ok (.invokevirtual 113, 3) := by decide +kernel
theorem dX6_odds_10 : decode cX6_odds 10 = .ok (.ifCond .eq 31, 3) := by decide +kernel
theorem dX6_odds_13 : decode cX6_odds 13 = .ok (.iload 4, 2) := by decide +kernel
theorem dX6_odds_15 : decode cX6_odds 15 = .ok (.i2l, 1) := by decide +kernel
theorem dX6_odds_16 : decode cX6_odds 16 = .ok (.lconst 0, 1) := by decide +kernel
theorem dX6_odds_17 : decode cX6_odds 17 = .ok (.ldc2_w 230, 3) := by decide +kernel
theorem dX6_odds_20 : decode cX6_odds 20 = .ok (.invokestatic 92, 3) := by decide +kernel
theorem dX6_odds_23 : decode cX6_odds 23 = .ok (.ifCond .eq 18, 3) := by decide +kernel
theorem dX6_odds_26 : decode cX6_odds 26 = .ok (.iload 5, 2) := by decide +kernel
theorem dX6_odds_28 : decode cX6_odds 28 = .ok (.i2l, 1) := by decide +kernel
theorem dX6_odds_29 : decode cX6_odds 29 = .ok (.lconst 0, 1) := by decide +kernel
theorem dX6_odds_30 : decode cX6_odds 30 = .ok (.lconst 1, 1) := by decide +kernel
theorem dX6_odds_31 : decode cX6_odds 31 = .ok (.invokestatic 92, 3) := by decide +kernel
theorem dX6_odds_34 : decode cX6_odds 34 = .ok (.ifCond .eq 7, 3) := by decide +kernel
theorem dX6_odds_37 : decode cX6_odds 37 = .ok (.iconst 1, 1) := by decide +kernel
theorem dX6_odds_38 : decode cX6_odds 38 = .ok (.goto 4, 3) := by decide +kernel
theorem dX6_odds_41 : decode cX6_odds 41 = .ok (.iconst 0, 1) := by decide +kernel
theorem dX6_odds_42 : decode cX6_odds 42 = .ok (.invokevirtual 256, 3) := by decide +kernel
theorem dX6_odds_45 : decode cX6_odds 45 = .ok (.istore 6, 2) := by decide +kernel
theorem dX6_odds_47 : decode cX6_odds 47 = .ok (.iload 6, 2) := by decide +kernel
theorem dX6_odds_49 : decode cX6_odds 49 = .ok (.ifCond .eq 6, 3) := by decide +kernel
theorem dX6_odds_52 : decode cX6_odds 52 = .ok (.iload 6, 2) := by decide +kernel
theorem dX6_odds_54 : decode cX6_odds 54 = .ok (.ireturn, 1) := by decide +kernel
theorem dX6_odds_55 : decode cX6_odds 55 = .ok (.aload_n 0, 1) := by decide +kernel
theorem dX6_odds_56 : decode cX6_odds 56 = .ok (.invokevirtual 280, 3) := by decide +kernel
theorem dX6_odds_59 : decode cX6_odds 59 = .ok (.aload_n 0, 1) := by decide +kernel
theorem dX6_odds_60 : decode cX6_odds 60 = .ok (.lconst 0, 1) := by decide +kernel
theorem dX6_odds_61 : decode cX6_odds 61 = .ok (.putfield 291, 3) := by decide +kernel
theorem dX6_odds_64 : decode cX6_odds 64 = .ok (.aload_n 0, 1) := by decide +kernel
theorem dX6_odds_65 : decode cX6_odds 65 = .ok (.lconst 0, 1) := by decide +kernel
theorem dX6_odds_66 : decode cX6_odds 66 = .ok (.putfield 295, 3) := by decide +kernel
theorem dX6_odds_69 : decode cX6_odds 69 = .ok (.aload_n 0, 1) := by decide +kernel
theorem dX6_odds_70 : decode cX6_odds 70 = .ok (.iload_n 3, 1) := by decide +kernel
theorem dX6_odds_71 : decode cX6_odds 71 = .ok (.iload 4, 2) := by decide +kernel
theorem dX6_odds_73 : decode cX6_odds 73 = .ok (.invokevirtual 298, 3) := by decide +kernel
theorem dX6_odds_76 : decode cX6_odds 76 = .ok (.aload_n 0, 1) := by decide +kernel
theorem dX6_odds_77 : decode cX6_odds 77 = .ok (.invokevirtual 286, 3) := by decide +kernel
theorem dX6_odds_80 : decode cX6_odds 80 = .ok (.iload 4, 2) := by decide +kernel
theorem dX6_odds_82 : decode cX6_odds 82 = .ok (.ifCond .ne 7, 3) := by decide +kernel
theorem dX6_odds_85 : decode cX6_odds 85 = .ok (.iconst 1, 1) := by decide +kernel
theorem dX6_odds_86 : decode cX6_odds 86 = .ok (.goto 28, 3) := by decide +kernel
theorem dX6_odds_89 : decode cX6_odds 89 = .ok (.iload 4, 2) := by decide +kernel
theorem dX6_odds_91 : decode cX6_odds 91 = .ok (.iconst 1, 1) := by decide +kernel
theorem dX6_odds_92 : decode cX6_odds 92 = .ok (.if_icmp .ne 8, 3) := by decide +kernel
theorem dX6_odds_95 : decode cX6_odds 95 = .ok (.bipush 10, 2) := by decide +kernel
theorem dX6_odds_97 : decode cX6_odds 97 = .ok (.goto 17, 3) := by decide +kernel
theorem dX6_odds_100 : decode cX6_odds 100 = .ok (.iload 4, 2) := by decide +kernel
theorem dX6_odds_102 : decode cX6_odds 102 = .ok (.iconst 2, 1) := by decide +kernel
theorem dX6_odds_103 : decode cX6_odds 103 = .ok (.if_icmp .ne 8, 3) := by decide +kernel
theorem dX6_odds_106 : decode cX6_odds 106 = .ok (.bipush 100, 2) := by decide +kernel
theorem dX6_odds_108 : decode cX6_odds 108 = .ok (.goto 6, 3) := by decide +kernel
theorem dX6_odds_111 : decode cX6_odds 111 = .ok (.sipush 1000, 3) := by decide +kernel
theorem dX6_odds_114 : decode cX6_odds 114 = .ok (.istore 7, 2) := by decide +kernel
theorem dX6_odds_116 : decode cX6_odds 116 = .ok (.iload 5, 2) := by decide +kernel
theorem dX6_odds_118 : decode cX6_odds 118 = .ok (.ifCond .ne 18, 3) := by decide +kernel
theorem dX6_odds_121 : decode cX6_odds 121 = .ok (.ldc2_w 302, 3) := by decide +kernel
theorem dX6_odds_124 : decode cX6_odds 124 = .ok (.aload_n 0, 1) := by decide +kernel
theorem dX6_odds_125 : decode cX6_odds 125 = .ok (.getfield 291, 3) := by decide +kernel
theorem dX6_odds_128 : decode cX6_odds 128 = .ok (.lmul, 1) := by decide +kernel
theorem dX6_odds_129 : decode cX6_odds 129 = .ok (.iload 7, 2) := by decide +kernel
theorem dX6_odds_131 : decode cX6_odds 131 = .ok (.i2l, 1) := by decide +kernel
theorem dX6_odds_132 : decode cX6_odds 132 = .ok (.ldiv, 1) := by decide +kernel
theorem dX6_odds_133 : decode cX6_odds 133 = .ok (.goto 15, 3) := by decide +kernel
theorem dX6_odds_136 : decode cX6_odds 136 = .ok (.ldc2_w 304, 3) := by decide +kernel
theorem dX6_odds_139 : decode cX6_odds 139 = .ok (.aload_n 0, 1) := by decide +kernel
theorem dX6_odds_140 : decode cX6_odds 140 = .ok (.getfield 295, 3) := by decide +kernel
theorem dX6_odds_143 : decode cX6_odds 143 = .ok (.lmul, 1) := by decide +kernel
theorem dX6_odds_144 : decode cX6_odds 144 = .ok (.iload 7, 2) := by decide +kernel
theorem dX6_odds_146 : decode cX6_odds 146 = .ok (.i2l, 1) := by decide +kernel
theorem dX6_odds_147 : decode cX6_odds 147 = .ok (.ldiv, 1) := by decide +kernel
theorem dX6_odds_148 : decode cX6_odds 148 = .ok (.l2i, 1) := by decide +kernel
theorem dX6_odds_149 : decode cX6_odds 149 = .ok (.ireturn, 1) := by decide +kernel
theorem dX6_yeses_0 : decode cX6_yeses 0 = .ok (.aload_n 0, 1) := by decide +kernel
theorem dX6_yeses_1 : decode cX6_yeses 1 = .ok (.iload_n 1, 1) := by decide +kernel
theorem dX6_yeses_2 : decode cX6_yeses 2 = .ok (.iload_n 2, 1) := by decide +kernel
theorem dX6_yeses_3 : decode cX6_yeses 3 = .ok (.bipush 12, 2) := by decide +kernel
theorem dX6_yeses_5 : decode cX6_yeses 5 = .ok (.aload_n 0, 1) := by decide +kernel
theorem dX6_yeses_6 : decode cX6_yeses 6 = .ok (.iload_n 3, 1) := by decide +kernel
theorem dX6_yeses_7 : decode cX6_yeses 7 = .ok (.invokevirtual 113, 3) := by decide +kernel
theorem dX6_yeses_10 : decode cX6_yeses 10 = .ok (.ifCond .eq 18, 3) := by decide +kernel
theorem dX6_yeses_13 : decode cX6_yeses 13 = .ok (.iload 4, 2) := by decide +kernel
theorem dX6_yeses_15 : decode cX6_yeses 15 = .ok (.i2l, 1) := by decide +kernel
theorem dX6_yeses_16 : decode cX6_yeses 16 = .ok (.lconst 0, 1) := by decide +kernel
theorem dX6_yeses_17 : decode cX6_yeses 17 = .ok (.lconst 1, 1) := by decide +kernel
theorem dX6_yeses_18 : decode cX6_yeses 18 = .ok (.invokestatic 92, 3) := by decide +kernel
theorem dX6_yeses_21 : decode cX6_yeses 21 = .ok (.ifCond .eq 7, 3) := by decide +kernel
theorem dX6_yeses_24 : decode cX6_yeses 24 = .ok (.iconst 1, 1) := by decide +kernel
theorem dX6_yeses_25 : decode cX6_yeses 25 = .ok (.goto 4, 3) := by decide +kernel
theorem dX6_yeses_28 : decode cX6_yeses 28 = .ok (.iconst 0, 1) := by decide +kernel
theorem dX6_yeses_29 : decode cX6_yeses 29 = .ok (.invokevirtual 256, 3) := by decide +kernel
theorem dX6_yeses_32 : decode cX6_yeses 32 = .ok (.istore 5, 2) := by decide +kernel
theorem dX6_yeses_34 : decode cX6_yeses 34 = .ok (.iload 5, 2) := by decide +kernel
theorem dX6_yeses_36 : decode cX6_yeses 36 = .ok (.ifCond .eq 6, 3) := by decide +kernel
theorem dX6_yeses_39 : decode cX6_yeses 39 = .ok (.iload 5, 2) := by decide +kernel
theorem dX6_yeses_41 : decode cX6_yeses 41 = .ok (.ireturn, 1) := by decide +kernel
theorem dX6_yeses_42 : decode cX6_yeses 42 = .ok (.aload_n 0, 1) := by decide +kernel
theorem dX6_yeses_43 : decode cX6_yeses 43 = .ok (.invokevirtual 280, 3) := by decide +kernel
theorem dX6_yeses_46 : decode cX6_yeses 46 = .ok (.iconst 0, 1) := by decide +kernel
theorem dX6_yeses_47 : decode cX6_yeses 47 = .ok (.istore 6, 2) := by decide +kernel
theorem dX6_yeses_49 : decode cX6_yeses 49 = .ok (.iconst (-1), 1) := by decide +kernel
theorem dX6_yeses_50 : decode cX6_yeses 50 = .ok (.istore 7, 2) := by decide +kernel
theorem dX6_yeses_52 : decode cX6_yeses 52 = .ok (.aload_n 0, 1) := by decide +kernel
theorem dX6_yeses_53 : decode cX6_yeses 53 = .ok (.iconst 0, 1) := by decide +kernel
theorem dX6_yeses_54 : decode cX6_yeses 54 = .ok (.putfield 37, 3) := by decide +kernel
theorem dX6_yeses_57 : decode cX6_yeses 57 = .ok (.aload_n 0, 1) := by decide +kernel
theorem dX6_yeses_58 : decode cX6_yeses 58 = .ok (.getfield 37, 3) := by decide +kernel
theorem dX6_yeses_61 : decode cX6_yeses 61 = .ok (.bipush 40, 2) := by decide +kernel
theorem dX6_yeses_63 : decode cX6_yeses 63 = .ok (.if_icmp .gt 60, 3) := by decide +kernel
theorem dX6_yeses_66 : decode cX6_yeses 66 = .ok (.aload_n 0, 1) := by decide +kernel
theorem dX6_yeses_67 : decode cX6_yeses 67 = .ok (.iload_n 3, 1) := by decide +kernel
theorem dX6_yeses_68 : decode cX6_yeses 68 = .ok (.invokevirtual 260, 3) := by decide +kernel
theorem dX6_yeses_71 : decode cX6_yeses 71 = .ok (.istore 8, 2) := by decide +kernel
theorem dX6_yeses_73 : decode cX6_yeses 73 = .ok (.iload 6, 2) := by decide +kernel
theorem dX6_yeses_75 : decode cX6_yeses 75 = .ok (.iload 8, 2) := by decide +kernel
theorem dX6_yeses_77 : decode cX6_yeses 77 = .ok (.ifCond .eq 7, 3) := by decide +kernel
theorem dX6_yeses_80 : decode cX6_yeses 80 = .ok (.iconst 1, 1) := by decide +kernel
theorem dX6_yeses_81 : decode cX6_yeses 81 = .ok (.goto 4, 3) := by decide +kernel
theorem dX6_yeses_84 : decode cX6_yeses 84 = .ok (.iconst 0, 1) := by decide +kernel
theorem dX6_yeses_85 : decode cX6_yeses 85 = .ok (.iadd, 1) := by decide +kernel
theorem dX6_yeses_86 : decode cX6_yeses 86 = .ok (.istore 6, 2) := by decide +kernel
theorem dX6_yeses_88 : decode cX6_yeses 88 = .ok (.iload 8, 2) := by decide +kernel
theorem dX6_yeses_90 : decode cX6_yeses 90 = .ok (.ifCond .eq 16, 3) := by decide +kernel
theorem dX6_yeses_93 : decode cX6_yeses 93 = .ok (.iload 7, 2) := by decide +kernel
theorem dX6_yeses_95 : decode cX6_yeses 95 = .ok (.iconst (-1), 1) := by decide +kernel
theorem dX6_yeses_96 : decode cX6_yeses 96 = .ok (.if_icmp .ne 10, 3) := by decide +kernel
theorem dX6_yeses_99 : decode cX6_yeses 99 = .ok (.aload_n 0, 1) := by decide +kernel
theorem dX6_yeses_100 : decode cX6_yeses 100 = .ok (.getfield 37, 3) := by decide +kernel
theorem dX6_yeses_103 : decode cX6_yeses 103 = .ok (.goto 5, 3) := by decide +kernel
theorem dX6_yeses_106 : decode cX6_yeses 106 = .ok (.iload 7, 2) := by decide +kernel
theorem dX6_yeses_108 : decode cX6_yeses 108 = .ok (.istore 7, 2) := by decide +kernel
theorem dX6_yeses_110 : decode cX6_yeses 110 = .ok (.aload_n 0, 1) := by decide +kernel
theorem dX6_yeses_111 : decode cX6_yeses 111 = .ok (.dup, 1) := by decide +kernel
theorem dX6_yeses_112 : decode cX6_yeses 112 = .ok (.getfield 37, 3) := by decide +kernel
theorem dX6_yeses_115 : decode cX6_yeses 115 = .ok (.iconst 1, 1) := by decide +kernel
theorem dX6_yeses_116 : decode cX6_yeses 116 = .ok (.iadd, 1) := by decide +kernel
theorem dX6_yeses_117 : decode cX6_yeses 117 = .ok (.putfield 37, 3) := by decide +kernel
theorem dX6_yeses_120 : decode cX6_yeses 120 = .ok (.goto (-63), 3) := by decide +kernel
theorem dX6_yeses_123 : decode cX6_yeses 123 = .ok (.aload_n 0, 1) := by decide +kernel
theorem dX6_yeses_124 : decode cX6_yeses 124 = .ok (.invokevirtual 286, 3) := by decide +kernel
theorem dX6_yeses_127 : decode cX6_yeses 127 = .ok (.iload 4, 2) := by decide +kernel
theorem dX6_yeses_129 : decode cX6_yeses 129 = .ok (.ifCond .ne 8, 3) := by decide +kernel
theorem dX6_yeses_132 : decode cX6_yeses 132 = .ok (.iload 6, 2) := by decide +kernel
theorem dX6_yeses_134 : decode cX6_yeses 134 = .ok (.goto 5, 3) := by decide +kernel
theorem dX6_yeses_137 : decode cX6_yeses 137 = .ok (.iload 7, 2) := by decide +kernel
theorem dX6_yeses_139 : decode cX6_yeses 139 = .ok (.ireturn, 1) := by decide +kernel
theorem dX6_best_0 : decode cX6_best 0 = .ok (.aload_n 0, 1) := by decide +kernel
theorem dX6_best_1 : decode cX6_best 1 = .ok (.iload_n 1, 1) := by decide +kernel
theorem dX6_best_2 : decode cX6_best 2 = .ok (.iload_n 2, 1) := by decide +kernel
theorem dX6_best_3 : decode cX6_best 3 = .ok (.bipush 12, 2) := by decide +kernel
theorem dX6_best_5 : decode cX6_best 5 = .ok (.iload_n 3, 1) := by decide +kernel
theorem dX6_best_6 : decode cX6_best 6 = .ok (.i2l, 1) := by decide +kernel
theorem dX6_best_7 : decode cX6_best 7 = .ok (.lconst 0, 1) := by decide +kernel
theorem dX6_best_8 : decode cX6_best 8 = .ok (.lconst 1, 1) := by decide +kernel
theorem dX6_best_9 : decode cX6_best 9 = .ok (.invokestatic 92, 3) := by decide +kernel
theorem dX6_best_12 : decode cX6_best 12 = .ok (.invokevirtual 256, 3) := by decide +kernel
theorem dX6_best_15 : decode cX6_best 15 = .ok (.istore 4, 2) := by decide +kernel
theorem dX6_best_17 : decode cX6_best 17 = .ok (.iload 4, 2) := by decide +kernel
theorem dX6_best_19 : decode cX6_best 19 = .ok (.ifCond .eq 6, 3) := by decide +kernel
theorem dX6_best_22 : decode cX6_best 22 = .ok (.iload 4, 2) := by decide +kernel
theorem dX6_best_24 : decode cX6_best 24 = .ok (.ireturn, 1) := by decide +kernel
theorem dX6_best_25 : decode cX6_best 25 = .ok (.aload_n 0, 1) := by decide +kernel
theorem dX6_best_26 : decode cX6_best 26 = .ok (.invokevirtual 280, 3) := by decide +kernel
theorem dX6_best_29 : decode cX6_best 29 = .ok (.iconst 0, 1) := by decide +kernel
theorem dX6_best_30 : decode cX6_best 30 = .ok (.istore 5, 2) := by decide +kernel
theorem dX6_best_32 : decode cX6_best 32 = .ok (.iconst (-1), 1) := by decide +kernel
theorem dX6_best_33 : decode cX6_best 33 = .ok (.istore 6, 2) := by decide +kernel
theorem dX6_best_35 : decode cX6_best 35 = .ok (.aload_n 0, 1) := by decide +kernel
theorem dX6_best_36 : decode cX6_best 36 = .ok (.iconst 0, 1) := by decide +kernel
theorem dX6_best_37 : decode cX6_best 37 = .ok (.putfield 37, 3) := by decide +kernel
theorem dX6_best_40 : decode cX6_best 40 = .ok (.aload_n 0, 1) := by decide +kernel
theorem dX6_best_41 : decode cX6_best 41 = .ok (.getfield 37, 3) := by decide +kernel
theorem dX6_best_44 : decode cX6_best 44 = .ok (.bipush 40, 2) := by decide +kernel
theorem dX6_best_46 : decode cX6_best 46 = .ok (.if_icmp .gt 59, 3) := by decide +kernel
theorem dX6_best_49 : decode cX6_best 49 = .ok (.aload_n 0, 1) := by decide +kernel
theorem dX6_best_50 : decode cX6_best 50 = .ok (.invokevirtual 263, 3) := by decide +kernel
theorem dX6_best_53 : decode cX6_best 53 = .ok (.invokestatic 306, 3) := by decide +kernel
theorem dX6_best_56 : decode cX6_best 56 = .ok (.istore 7, 2) := by decide +kernel
theorem dX6_best_58 : decode cX6_best 58 = .ok (.iload 7, 2) := by decide +kernel
theorem dX6_best_60 : decode cX6_best 60 = .ok (.iload 6, 2) := by decide +kernel
theorem dX6_best_62 : decode cX6_best 62 = .ok (.if_icmp .le 10, 3) := by decide +kernel
theorem dX6_best_65 : decode cX6_best 65 = .ok (.aload_n 0, 1) := by decide +kernel
theorem dX6_best_66 : decode cX6_best 66 = .ok (.getfield 37, 3) := by decide +kernel
theorem dX6_best_69 : decode cX6_best 69 = .ok (.goto 5, 3) := by decide +kernel
theorem dX6_best_72 : decode cX6_best 72 = .ok (.iload 5, 2) := by decide +kernel
theorem dX6_best_74 : decode cX6_best 74 = .ok (.istore 5, 2) := by decide +kernel
theorem dX6_best_76 : decode cX6_best 76 = .ok (.iload 7, 2) := by decide +kernel
theorem dX6_best_78 : decode cX6_best 78 = .ok (.iload 6, 2) := by decide +kernel
theorem dX6_best_80 : decode cX6_best 80 = .ok (.if_icmp .le 8, 3) := by decide +kernel
theorem dX6_best_83 : decode cX6_best 83 = .ok (.iload 7, 2) := by decide +kernel
theorem dX6_best_85 : decode cX6_best 85 = .ok (.goto 5, 3) := by decide +kernel
theorem dX6_best_88 : decode cX6_best 88 = .ok (.iload 6, 2) := by decide +kernel
theorem dX6_best_90 : decode cX6_best 90 = .ok (.istore 6, 2) := by decide +kernel
theorem dX6_best_92 : decode cX6_best 92 = .ok (.aload_n 0, 1) := by decide +kernel
theorem dX6_best_93 : decode cX6_best 93 = .ok (.dup, 1) := by decide +kernel
theorem dX6_best_94 : decode cX6_best 94 = .ok (.getfield 37, 3) := by decide +kernel
theorem dX6_best_97 : decode cX6_best 97 = .ok (.iconst 1, 1) := by decide +kernel
theorem dX6_best_98 : decode cX6_best 98 = .ok (.iadd, 1) := by decide +kernel
theorem dX6_best_99 : decode cX6_best 99 = .ok (.putfield 37, 3) := by decide +kernel
theorem dX6_best_102 : decode cX6_best 102 = .ok (.goto (-62), 3) := by decide +kernel
theorem dX6_best_105 : decode cX6_best 105 = .ok (.aload_n 0, 1) := by decide +kernel
theorem dX6_best_106 : decode cX6_best 106 = .ok (.invokevirtual 286, 3) := by decide +kernel
theorem dX6_best_109 : decode cX6_best 109 = .ok (.iload_n 3, 1) := by decide +kernel
theorem dX6_best_110 : decode cX6_best 110 = .ok (.ifCond .ne 8, 3) := by decide +kernel
theorem dX6_best_113 : decode cX6_best 113 = .ok (.iload 5, 2) := by decide +kernel
theorem dX6_best_115 : decode cX6_best 115 = .ok (.goto 5, 3) := by decide +kernel
theorem dX6_best_118 : decode cX6_best 118 = .ok (.iload 6, 2) := by decide +kernel
theorem dX6_best_120 : decode cX6_best 120 = .ok (.ireturn, 1) := by decide +kernel
theorem dX6_tuned_0 : decode cX6_tuned 0 = .ok (.aload_n 0, 1) := by decide +kernel
theorem dX6_tuned_1 : decode cX6_tuned 1 = .ok (.iload_n 1, 1) := by decide +kernel
theorem dX6_tuned_2 : decode cX6_tuned 2 = .ok (.iload_n 2, 1) := by decide +kernel
theorem dX6_tuned_3 : decode cX6_tuned 3 = .ok (.bipush 12, 2) := by decide +kernel
theorem dX6_tuned_5 : decode cX6_tuned 5 = .ok (.aload_n 0, 1) := by decide +kernel
theorem dX6_tuned_6 : decode cX6_tuned 6 = .ok (.iload_n 3, 1) := by decide +kernel
theorem dX6_tuned_7 : decode cX6_tuned 7 = .ok (.invokevirtual 113, 3) := by decide +kernel
theorem dX6_tuned_10 : decode cX6_tuned 10 = .ok (.invokevirtual 256, 3) := by decide +kernel
theorem dX6_tuned_13 : decode cX6_tuned 13 = .ok (.istore 4, 2) := by decide +kernel
theorem dX6_tuned_15 : decode cX6_tuned 15 = .ok (.iload 4, 2) := by decide +kernel
theorem dX6_tuned_17 : decode cX6_tuned 17 = .ok (.ifCond .eq 6, 3) := by decide +kernel
theorem dX6_tuned_20 : decode cX6_tuned 20 = .ok (.iload 4, 2) := by decide +kernel
theorem dX6_tuned_22 : decode cX6_tuned 22 = .ok (.ireturn, 1) := by decide +kernel
theorem dX6_tuned_23 : decode cX6_tuned 23 = .ok (.aload_n 0, 1) := by decide +kernel
theorem dX6_tuned_24 : decode cX6_tuned 24 = .ok (.getfield 53, 3) := by decide +kernel
theorem dX6_tuned_27 : decode cX6_tuned 27 = .ok (.iload_n 3, 1) := by decide +kernel
theorem dX6_tuned_28 : decode cX6_tuned 28 = .ok (.iaload, 1) := by decide +kernel
theorem dX6_tuned_29 : decode cX6_tuned 29 = .ok (.istore 5, 2) := by decide +kernel
theorem dX6_tuned_31 : decode cX6_tuned 31 = .ok (.iconst 0, 1) := by decide +kernel
theorem dX6_tuned_32 : decode cX6_tuned 32 = .ok (.istore 6, 2) := by decide +kernel
theorem dX6_tuned_34 : decode cX6_tuned 34 = .ok (.iconst 0, 1) := by decide +kernel
theorem dX6_tuned_35 : decode cX6_tuned 35 = .ok (.istore 7, 2) := by decide +kernel
theorem dX6_tuned_37 : decode cX6_tuned 37 = .ok (.iload 7, 2) := by decide +kernel
theorem dX6_tuned_39 : decode cX6_tuned 39 = .ok (.bipush 20, 2) := by decide +kernel
theorem dX6_tuned_41 : decode cX6_tuned 41 = .ok (.if_icmp .gt 38, 3) := by decide +kernel
theorem dX6_tuned_44 : decode cX6_tuned 44 = .ok (.aload_n 0, 1) := by decide +kernel
theorem dX6_tuned_45 : decode cX6_tuned 45 = .ok (.getfield 53, 3) := by decide +kernel
theorem dX6_tuned_48 : decode cX6_tuned 48 = .ok (.iload_n 3, 1) := by decide +kernel
theorem dX6_tuned_49 : decode cX6_tuned 49 = .ok (.iload 7, 2) := by decide +kernel
theorem dX6_tuned_51 : decode cX6_tuned 51 = .ok (.iastore, 1) := by decide +kernel
theorem dX6_tuned_52 : decode cX6_tuned 52 = .ok (.iload 6, 2) := by decide +kernel
theorem dX6_tuned_54 : decode cX6_tuned 54 = .ok (.aload_n 0, 1) := by decide +kernel
theorem dX6_tuned_55 : decode cX6_tuned 55 = .ok (.iload_n 3, 1) := by decide +kernel
theorem dX6_tuned_56 : decode cX6_tuned 56 = .ok (.invokevirtual 260, 3) := by decide +kernel
theorem dX6_tuned_59 : decode cX6_tuned 59 = .ok (.ifCond .eq 10, 3) := by decide +kernel
theorem dX6_tuned_62 : decode cX6_tuned 62 = .ok (.iconst 1, 1) := by decide +kernel
theorem dX6_tuned_63 : decode cX6_tuned 63 = .ok (.iload 7, 2) := by decide +kernel
theorem dX6_tuned_65 : decode cX6_tuned 65 = .ok (.ishl, 1) := by decide +kernel
theorem dX6_tuned_66 : decode cX6_tuned 66 = .ok (.goto 4, 3) := by decide +kernel
theorem dX6_tuned_69 : decode cX6_tuned 69 = .ok (.iconst 0, 1) := by decide +kernel
theorem dX6_tuned_70 : decode cX6_tuned 70 = .ok (.ior, 1) := by decide +kernel
theorem dX6_tuned_71 : decode cX6_tuned 71 = .ok (.istore 6, 2) := by decide +kernel
theorem dX6_tuned_73 : decode cX6_tuned 73 = .ok (.iinc 7 1, 3) := by decide +kernel
theorem dX6_tuned_76 : decode cX6_tuned 76 = .ok (.goto (-39), 3) := by decide +kernel
theorem dX6_tuned_79 : decode cX6_tuned 79 = .ok (.aload_n 0, 1) := by decide +kernel
theorem dX6_tuned_80 : decode cX6_tuned 80 = .ok (.getfield 53, 3) := by decide +kernel
theorem dX6_tuned_83 : decode cX6_tuned 83 = .ok (.iload_n 3, 1) := by decide +kernel
theorem dX6_tuned_84 : decode cX6_tuned 84 = .ok (.iload 5, 2) := by decide +kernel
theorem dX6_tuned_86 : decode cX6_tuned 86 = .ok (.iastore, 1) := by decide +kernel
theorem dX6_tuned_87 : decode cX6_tuned 87 = .ok (.iload 6, 2) := by decide +kernel
theorem dX6_tuned_89 : decode cX6_tuned 89 = .ok (.ireturn, 1) := by decide +kernel
theorem dX6_ends_0 : decode cX6_ends 0 = .ok (.aload_n 0, 1) := by decide +kernel
theorem dX6_ends_1 : decode cX6_ends 1 = .ok (.iload_n 1, 1) := by decide +kernel
theorem dX6_ends_2 : decode cX6_ends 2 = .ok (.iload_n 2, 1) := by decide +kernel
theorem dX6_ends_3 : decode cX6_ends 3 = .ok (.bipush 11, 2) := by decide +kernel
theorem dX6_ends_5 : decode cX6_ends 5 = .ok (.aload_n 0, 1) := by decide +kernel
theorem dX6_ends_6 : decode cX6_ends 6 = .ok (.iload_n 3, 1) := by decide +kernel
theorem dX6_ends_7 : decode cX6_ends 7 = .ok (.invokevirtual 113, 3) := by decide +kernel
theorem dX6_ends_10 : decode cX6_ends 10 = .ok (.invokevirtual 256, 3) := by decide +kernel
theorem dX6_ends_13 : decode cX6_ends 13 = .ok (.istore 4, 2) := by decide +kernel
theorem dX6_ends_15 : decode cX6_ends 15 = .ok (.iload 4, 2) := by decide +kernel
theorem dX6_ends_17 : decode cX6_ends 17 = .ok (.ifCond .eq 6, 3) := by decide +kernel
theorem dX6_ends_20 : decode cX6_ends 20 = .ok (.iload 4, 2) := by decide +kernel
theorem dX6_ends_22 : decode cX6_ends 22 = .ok (.ireturn, 1) := by decide +kernel
theorem dX6_ends_23 : decode cX6_ends 23 = .ok (.aload_n 0, 1) := by decide +kernel
theorem dX6_ends_24 : decode cX6_ends 24 = .ok (.iload_n 2, 1) := by decide +kernel
theorem dX6_ends_25 : decode cX6_ends 25 = .ok (.iconst 1, 1) := by decide +kernel
theorem dX6_ends_26 : decode cX6_ends 26 = .ok (.iadd, 1) := by decide +kernel
theorem dX6_ends_27 : decode cX6_ends 27 = .ok (.putfield 123, 3) := by decide +kernel
theorem dX6_ends_30 : decode cX6_ends 30 = .ok (.iconst 0, 1) := by decide +kernel
theorem dX6_ends_31 : decode cX6_ends 31 = .ok (.istore 5, 2) := by decide +kernel
theorem dX6_ends_33 : decode cX6_ends 33 = .ok (.iload 5, 2) := by decide +kernel
theorem dX6_ends_35 : decode cX6_ends 35 = .ok (.bipush 40, 2) := by decide +kernel
theorem dX6_ends_37 : decode cX6_ends 37 = .ok (.if_icmp .ge 28, 3) := by decide +kernel
theorem dX6_ends_40 : decode cX6_ends 40 = .ok (.aload_n 0, 1) := by decide +kernel
theorem dX6_ends_41 : decode cX6_ends 41 = .ok (.getfield 62, 3) := by decide +kernel
theorem dX6_ends_44 : decode cX6_ends 44 = .ok (.iload_n 2, 1) := by decide +kernel
theorem dX6_ends_45 : decode cX6_ends 45 = .ok (.iload 5, 2) := by decide +kernel
theorem dX6_ends_47 : decode cX6_ends 47 = .ok (.iastore, 1) := by decide +kernel
theorem dX6_ends_48 : decode cX6_ends 48 = .ok (.aload_n 0, 1) := by decide +kernel
theorem dX6_ends_49 : decode cX6_ends 49 = .ok (.iload_n 3, 1) := by decide +kernel
theorem dX6_ends_50 : decode cX6_ends 50 = .ok (.invokevirtual 260, 3) := by decide +kernel
theorem dX6_ends_53 : decode cX6_ends 53 = .ok (.ifCond .eq 6, 3) := by decide +kernel
theorem dX6_ends_56 : decode cX6_ends 56 = .ok (.iload 5, 2) := by decide +kernel
theorem dX6_ends_58 : decode cX6_ends 58 = .ok (.ireturn, 1) := by decide +kernel
theorem dX6_ends_59 : decode cX6_ends 59 = .ok (.iinc 5 1, 3) := by decide +kernel
theorem dX6_ends_62 : decode cX6_ends 62 = .ok (.goto (-29), 3) := by decide +kernel
theorem dX6_ends_65 : decode cX6_ends 65 = .ok (.iconst (-1), 1) := by decide +kernel
theorem dX6_ends_66 : decode cX6_ends 66 = .ok (.ireturn, 1) := by decide +kernel
theorem dX6_less_0 : decode cX6_less 0 = .ok (.aload_n 0, 1) := by decide +kernel
theorem dX6_less_1 : decode cX6_less 1 = .ok (.iload_n 1, 1) := by decide +kernel
theorem dX6_less_2 : decode cX6_less 2 = .ok (.iload_n 2, 1) := by decide +kernel
theorem dX6_less_3 : decode cX6_less 3 = .ok (.bipush 12, 2) := by decide +kernel
theorem dX6_less_5 : decode cX6_less 5 = .ok (.aload_n 0, 1) := by decide +kernel
theorem dX6_less_6 : decode cX6_less 6 = .ok (.iload_n 3, 1) := by decide +kernel
theorem dX6_less_7 : decode cX6_less 7 = .ok (.invokevirtual 113, 3) := by decide +kernel
theorem dX6_less_10 : decode cX6_less 10 = .ok (.invokevirtual 256, 3) := by decide +kernel
theorem dX6_less_13 : decode cX6_less 13 = .ok (.istore 4, 2) := by decide +kernel
theorem dX6_less_15 : decode cX6_less 15 = .ok (.iload 4, 2) := by decide +kernel
theorem dX6_less_17 : decode cX6_less 17 = .ok (.ifCond .eq 6, 3) := by decide +kernel
theorem dX6_less_20 : decode cX6_less 20 = .ok (.iload 4, 2) := by decide +kernel
theorem dX6_less_22 : decode cX6_less 22 = .ok (.ireturn, 1) := by decide +kernel
theorem dX6_less_23 : decode cX6_less 23 = .ok (.aload_n 0, 1) := by decide +kernel
theorem dX6_less_24 : decode cX6_less 24 = .ok (.iload_n 2, 1) := by decide +kernel
theorem dX6_less_25 : decode cX6_less 25 = .ok (.iconst 1, 1) := by decide +kernel
theorem dX6_less_26 : decode cX6_less 26 = .ok (.isub, 1) := by decide +kernel
theorem dX6_less_27 : decode cX6_less 27 = .ok (.putfield 123, 3) := by decide +kernel
theorem dX6_less_30 : decode cX6_less 30 = .ok (.iconst 0, 1) := by decide +kernel
theorem dX6_less_31 : decode cX6_less 31 = .ok (.istore 5, 2) := by decide +kernel
theorem dX6_less_33 : decode cX6_less 33 = .ok (.iload 5, 2) := by decide +kernel
theorem dX6_less_35 : decode cX6_less 35 = .ok (.iload_n 2, 1) := by decide +kernel
theorem dX6_less_36 : decode cX6_less 36 = .ok (.if_icmp .ge 68, 3) := by decide +kernel
theorem dX6_less_39 : decode cX6_less 39 = .ok (.iconst 0, 1) := by decide +kernel
theorem dX6_less_40 : decode cX6_less 40 = .ok (.istore 6, 2) := by decide +kernel
theorem dX6_less_42 : decode cX6_less 42 = .ok (.iload 6, 2) := by decide +kernel
theorem dX6_less_44 : decode cX6_less 44 = .ok (.iload_n 2, 1) := by decide +kernel
theorem dX6_less_45 : decode cX6_less 45 = .ok (.iconst 1, 1) := by decide +kernel
theorem dX6_less_46 : decode cX6_less 46 = .ok (.isub, 1) := by decide +kernel
theorem dX6_less_47 : decode cX6_less 47 = .ok (.if_icmp .ge 40, 3) := by decide +kernel
theorem dX6_less_50 : decode cX6_less 50 = .ok (.aload_n 0, 1) := by decide +kernel
theorem dX6_less_51 : decode cX6_less 51 = .ok (.getfield 62, 3) := by decide +kernel
theorem dX6_less_54 : decode cX6_less 54 = .ok (.iload 6, 2) := by decide +kernel
theorem dX6_less_56 : decode cX6_less 56 = .ok (.aload_n 0, 1) := by decide +kernel
theorem dX6_less_57 : decode cX6_less 57 = .ok (.getfield 21, 3) := by decide +kernel
theorem dX6_less_60 : decode cX6_less 60 = .ok (.iload_n 1, 1) := by decide +kernel
theorem dX6_less_61 : decode cX6_less 61 = .ok (.aaload, 1) := by decide +kernel
theorem dX6_less_62 : decode cX6_less 62 = .ok (.iload 6, 2) := by decide +kernel
theorem dX6_less_64 : decode cX6_less 64 = .ok (.iload 5, 2) := by decide +kernel
theorem dX6_less_66 : decode cX6_less 66 = .ok (.if_icmp .ge 8, 3) := by decide +kernel
theorem dX6_less_69 : decode cX6_less 69 = .ok (.iload 6, 2) := by decide +kernel
theorem dX6_less_71 : decode cX6_less 71 = .ok (.goto 7, 3) := by decide +kernel
theorem dX6_less_74 : decode cX6_less 74 = .ok (.iload 6, 2) := by decide +kernel
theorem dX6_less_76 : decode cX6_less 76 = .ok (.iconst 1, 1) := by decide +kernel
theorem dX6_less_77 : decode cX6_less 77 = .ok (.iadd, 1) := by decide +kernel
theorem dX6_less_78 : decode cX6_less 78 = .ok (.laload, 1) := by decide +kernel
theorem dX6_less_79 : decode cX6_less 79 = .ok (.l2i, 1) := by decide +kernel
theorem dX6_less_80 : decode cX6_less 80 = .ok (.iastore, 1) := by decide +kernel
theorem dX6_less_81 : decode cX6_less 81 = .ok (.iinc 6 1, 3) := by decide +kernel
theorem dX6_less_84 : decode cX6_less 84 = .ok (.goto (-42), 3) := by decide +kernel
theorem dX6_less_87 : decode cX6_less 87 = .ok (.aload_n 0, 1) := by decide +kernel
theorem dX6_less_88 : decode cX6_less 88 = .ok (.iload_n 3, 1) := by decide +kernel
theorem dX6_less_89 : decode cX6_less 89 = .ok (.invokevirtual 260, 3) := by decide +kernel
theorem dX6_less_92 : decode cX6_less 92 = .ok (.ifCond .eq 6, 3) := by decide +kernel
theorem dX6_less_95 : decode cX6_less 95 = .ok (.iload 5, 2) := by decide +kernel
theorem dX6_less_97 : decode cX6_less 97 = .ok (.ireturn, 1) := by decide +kernel
theorem dX6_less_98 : decode cX6_less 98 = .ok (.iinc 5 1, 3) := by decide +kernel
theorem dX6_less_101 : decode cX6_less 101 = .ok (.goto (-68), 3) := by decide +kernel
theorem dX6_less_104 : decode cX6_less 104 = .ok (.iconst (-1), 1) := by decide +kernel
theorem dX6_less_105 : decode cX6_less 105 = .ok (.ireturn, 1) := by decide +kernel
theorem dX6_fairest_0 : decode cX6_fairest 0 = .ok (.aload_n 0, 1) := by decide +kernel
theorem dX6_fairest_1 : decode cX6_fairest 1 = .ok (.iload_n 1, 1) := by decide +kernel
theorem dX6_fairest_2 : decode cX6_fairest 2 = .ok (.iload_n 2, 1) := by decide +kernel
theorem dX6_fairest_3 : decode cX6_fairest 3 = .ok (.bipush 12, 2) := by decide +kernel
theorem dX6_fairest_5 : decode cX6_fairest 5 = .ok (.iconst 1, 1) := by decide +kernel
theorem dX6_fairest_6 : decode cX6_fairest 6 = .ok (.invokevirtual 256, 3) := by decide +kernel
theorem dX6_fairest_9 : decode cX6_fairest 9 = .ok (.istore_n 3, 1) := by decide +kernel
theorem dX6_fairest_10 : decode cX6_fairest 10 = .ok (.iload_n 3, 1) := by decide +kernel
theorem dX6_fairest_11 : decode cX6_fairest 11 = .ok (.ifCond .eq 5, 3) := by decide +kernel
theorem dX6_fairest_14 : decode cX6_fairest 14 = .ok (.iload_n 3, 1) := by decide +kernel
theorem dX6_fairest_15 : decode cX6_fairest 15 = .ok (.ireturn, 1) := by decide +kernel
theorem dX6_fairest_16 : decode cX6_fairest 16 = .ok (.aload_n 0, 1) := by decide +kernel
theorem dX6_fairest_17 : decode cX6_fairest 17 = .ok (.getfield 44, 3) := by decide +kernel
theorem dX6_fairest_20 : decode cX6_fairest 20 = .ok (.istore 4, 2) := by decide +kernel
theorem dX6_fairest_22 : decode cX6_fairest 22 = .ok (.iconst (-1), 1) := by decide +kernel
theorem dX6_fairest_23 : decode cX6_fairest 23 = .ok (.istore 5, 2) := by decide +kernel
theorem dX6_fairest_25 : decode cX6_fairest 25 = .ok (.iconst (-1), 1) := by decide +kernel
theorem dX6_fairest_26 : decode cX6_fairest 26 = .ok (.istore 6, 2) := by decide +kernel
theorem dX6_fairest_28 : decode cX6_fairest 28 = .ok (.aload_n 0, 1) := by decide +kernel
theorem dX6_fairest_29 : decode cX6_fairest 29 = .ok (.getfield 144, 3) := by decide +kernel
theorem dX6_fairest_32 : decode cX6_fairest 32 = .ok (.iconst 2, 1) := by decide +kernel
theorem dX6_fairest_33 : decode cX6_fairest 33 = .ok (.if_icmp .ge 7, 3) := by decide +kernel
theorem dX6_fairest_36 : decode cX6_fairest 36 = .ok (.iconst 2, 1) := by decide +kernel
theorem dX6_fairest_37 : decode cX6_fairest 37 = .ok (.goto 9, 3) := by decide +kernel
theorem dX6_fairest_40 : decode cX6_fairest 40 = .ok (.aload_n 0, 1) := by decide +kernel
theorem dX6_fairest_41 : decode cX6_fairest 41 = .ok (.getfield 144, 3) := by decide +kernel
theorem dX6_fairest_44 : decode cX6_fairest 44 = .ok (.iconst 1, 1) := by decide +kernel
theorem dX6_fairest_45 : decode cX6_fairest 45 = .ok (.iadd, 1) := by decide +kernel
theorem dX6_fairest_46 : decode cX6_fairest 46 = .ok (.istore 7, 2) := by decide +kernel
theorem dX6_fairest_48 : decode cX6_fairest 48 = .ok (.iload 7, 2) := by decide +kernel
theorem dX6_fairest_50 : decode cX6_fairest 50 = .ok (.bipush 9, 2) := by decide +kernel
theorem dX6_fairest_52 : decode cX6_fairest 52 = .ok (.if_icmp .gt 56, 3) := by decide +kernel
theorem dX6_fairest_55 : decode cX6_fairest 55 = .ok (.aload_n 0, 1) := by decide +kernel
theorem dX6_fairest_56 : decode cX6_fairest 56 = .ok (.iload 7, 2) := by decide +kernel
theorem dX6_fairest_58 : decode cX6_fairest 58 = .ok (.putfield 44, 3) := by decide +kernel
theorem dX6_fairest_61 : decode cX6_fairest 61 = .ok (.aload_n 0, 1) := by decide +kernel
theorem dX6_fairest_62 : decode cX6_fairest 62 = .ok (.invokevirtual 263, 3) := by decide +kernel
theorem dX6_fairest_65 : decode cX6_fairest 65 = .ok (.invokestatic 306, 3) := by decide +kernel
theorem dX6_fairest_68 : decode cX6_fairest 68 = .ok (.istore 8, 2) := by decide +kernel
theorem dX6_fairest_70 : decode cX6_fairest 70 = .ok (.iload 8, 2) := by decide +kernel
theorem dX6_fairest_72 : decode cX6_fairest 72 = .ok (.iload 6, 2) := by decide +kernel
theorem dX6_fairest_74 : decode cX6_fairest 74 = .ok (.if_icmp .le 8, 3) := by decide +kernel
theorem dX6_fairest_77 : decode cX6_fairest 77 = .ok (.iload 7, 2) := by decide +kernel
theorem dX6_fairest_79 : decode cX6_fairest 79 = .ok (.goto 5, 3) := by decide +kernel
theorem dX6_fairest_82 : decode cX6_fairest 82 = .ok (.iload 5, 2) := by decide +kernel
theorem dX6_fairest_84 : decode cX6_fairest 84 = .ok (.istore 5, 2) := by decide +kernel
theorem dX6_fairest_86 : decode cX6_fairest 86 = .ok (.iload 8, 2) := by decide +kernel
theorem dX6_fairest_88 : decode cX6_fairest 88 = .ok (.iload 6, 2) := by decide +kernel
theorem dX6_fairest_90 : decode cX6_fairest 90 = .ok (.if_icmp .le 8, 3) := by decide +kernel
theorem dX6_fairest_93 : decode cX6_fairest 93 = .ok (.iload 8, 2) := by decide +kernel
theorem dX6_fairest_95 : decode cX6_fairest 95 = .ok (.goto 5, 3) := by decide +kernel
theorem dX6_fairest_98 : decode cX6_fairest 98 = .ok (.iload 6, 2) := by decide +kernel
theorem dX6_fairest_100 : decode cX6_fairest 100 = .ok (.istore 6, 2) := by decide +kernel
theorem dX6_fairest_102 : decode cX6_fairest 102 = .ok (.iinc 7 1, 3) := by decide +kernel
theorem dX6_fairest_105 : decode cX6_fairest 105 = .ok (.goto (-57), 3) := by decide +kernel
theorem dX6_fairest_108 : decode cX6_fairest 108 = .ok (.aload_n 0, 1) := by decide +kernel
theorem dX6_fairest_109 : decode cX6_fairest 109 = .ok (.iload 4, 2) := by decide +kernel
theorem dX6_fairest_111 : decode cX6_fairest 111 = .ok (.putfield 44, 3) := by decide +kernel
theorem dX6_fairest_114 : decode cX6_fairest 114 = .ok (.iload 5, 2) := by decide +kernel
theorem dX6_fairest_116 : decode cX6_fairest 116 = .ok (.ireturn, 1) := by decide +kernel
theorem dX6_finds_0 : decode cX6_finds 0 = .ok (.aload_n 0, 1) := by decide +kernel
theorem dX6_finds_1 : decode cX6_finds 1 = .ok (.iload_n 2, 1) := by decide +kernel
theorem dX6_finds_2 : decode cX6_finds 2 = .ok (.putfield 123, 3) := by decide +kernel
theorem dX6_finds_5 : decode cX6_finds 5 = .ok (.iconst 0, 1) := by decide +kernel
theorem dX6_finds_6 : decode cX6_finds 6 = .ok (.istore_n 3, 1) := by decide +kernel
theorem dX6_finds_7 : decode cX6_finds 7 = .ok (.iload_n 3, 1) := by decide +kernel
theorem dX6_finds_8 : decode cX6_finds 8 = .ok (.iload_n 2, 1) := by decide +kernel
theorem dX6_finds_9 : decode cX6_finds 9 = .ok (.iconst 1, 1) := by decide +kernel
theorem dX6_finds_10 : decode cX6_finds 10 = .ok (.if_icmp .ne 8, 3) := by decide +kernel
theorem dX6_finds_13 : decode cX6_finds 13 = .ok (.bipush 40, 2) := by decide +kernel
theorem dX6_finds_15 : decode cX6_finds 15 = .ok (.goto 6, 3) := by decide +kernel
theorem dX6_finds_18 : decode cX6_finds 18 = .ok (.sipush 1600, 3) := by decide +kernel
theorem dX6_finds_21 : decode cX6_finds 21 = .ok (.if_icmp .ge 53, 3) := by decide +kernel
theorem dX6_finds_24 : decode cX6_finds 24 = .ok (.aload_n 0, 1) := by decide +kernel
theorem dX6_finds_25 : decode cX6_finds 25 = .ok (.getfield 62, 3) := by decide +kernel
theorem dX6_finds_28 : decode cX6_finds 28 = .ok (.iconst 0, 1) := by decide +kernel
theorem dX6_finds_29 : decode cX6_finds 29 = .ok (.iload_n 2, 1) := by decide +kernel
theorem dX6_finds_30 : decode cX6_finds 30 = .ok (.iconst 1, 1) := by decide +kernel
theorem dX6_finds_31 : decode cX6_finds 31 = .ok (.if_icmp .ne 7, 3) := by decide +kernel
theorem dX6_finds_34 : decode cX6_finds 34 = .ok (.iload_n 3, 1) := by decide +kernel
theorem dX6_finds_35 : decode cX6_finds 35 = .ok (.goto 7, 3) := by decide +kernel
theorem dX6_finds_38 : decode cX6_finds 38 = .ok (.iload_n 3, 1) := by decide +kernel
theorem dX6_finds_39 : decode cX6_finds 39 = .ok (.bipush 40, 2) := by decide +kernel
theorem dX6_finds_41 : decode cX6_finds 41 = .ok (.idiv, 1) := by decide +kernel
theorem dX6_finds_42 : decode cX6_finds 42 = .ok (.iastore, 1) := by decide +kernel
theorem dX6_finds_43 : decode cX6_finds 43 = .ok (.aload_n 0, 1) := by decide +kernel
theorem dX6_finds_44 : decode cX6_finds 44 = .ok (.getfield 62, 3) := by decide +kernel
theorem dX6_finds_47 : decode cX6_finds 47 = .ok (.iconst 1, 1) := by decide +kernel
theorem dX6_finds_48 : decode cX6_finds 48 = .ok (.iload_n 3, 1) := by decide +kernel
theorem dX6_finds_49 : decode cX6_finds 49 = .ok (.bipush 40, 2) := by decide +kernel
theorem dX6_finds_51 : decode cX6_finds 51 = .ok (.irem, 1) := by decide +kernel
theorem dX6_finds_52 : decode cX6_finds 52 = .ok (.iastore, 1) := by decide +kernel
theorem dX6_finds_53 : decode cX6_finds 53 = .ok (.aload_n 0, 1) := by decide +kernel
theorem dX6_finds_54 : decode cX6_finds 54 = .ok (.iload_n 1, 1) := by decide +kernel
theorem dX6_finds_55 : decode cX6_finds 55 = .ok (.invokevirtual 260, 3) := by decide +kernel
theorem dX6_finds_58 : decode cX6_finds 58 = .ok (.ifCond .eq 10, 3) := by decide +kernel
theorem dX6_finds_61 : decode cX6_finds 61 = .ok (.aload_n 0, 1) := by decide +kernel
theorem dX6_finds_62 : decode cX6_finds 62 = .ok (.iload_n 2, 1) := by decide +kernel
theorem dX6_finds_63 : decode cX6_finds 63 = .ok (.putfield 309, 3) := by decide +kernel
theorem dX6_finds_66 : decode cX6_finds 66 = .ok (.iconst 1, 1) := by decide +kernel
theorem dX6_finds_67 : decode cX6_finds 67 = .ok (.ireturn, 1) := by decide +kernel
theorem dX6_finds_68 : decode cX6_finds 68 = .ok (.iinc 3 1, 3) := by decide +kernel
theorem dX6_finds_71 : decode cX6_finds 71 = .ok (.goto (-64), 3) := by decide +kernel
theorem dX6_finds_74 : decode cX6_finds 74 = .ok (.iconst 0, 1) := by decide +kernel
theorem dX6_finds_75 : decode cX6_finds 75 = .ok (.ireturn, 1) := by decide +kernel
theorem dX6_ask_0 : decode cX6_ask 0 = .ok (.aload_n 0, 1) := by decide +kernel
theorem dX6_ask_1 : decode cX6_ask 1 = .ok (.iload_n 1, 1) := by decide +kernel
theorem dX6_ask_2 : decode cX6_ask 2 = .ok (.invokevirtual 113, 3) := by decide +kernel
theorem dX6_ask_5 : decode cX6_ask 5 = .ok (.ifCond .eq 8, 3) := by decide +kernel
theorem dX6_ask_8 : decode cX6_ask 8 = .ok (.iload_n 2, 1) := by decide +kernel
theorem dX6_ask_9 : decode cX6_ask 9 = .ok (.iconst (-1), 1) := by decide +kernel
theorem dX6_ask_10 : decode cX6_ask 10 = .ok (.if_icmp .ge 10, 3) := by decide +kernel
theorem dX6_ask_13 : decode cX6_ask 13 = .ok (.aload_n 0, 1) := by decide +kernel
theorem dX6_ask_14 : decode cX6_ask 14 = .ok (.bipush (-2), 2) := by decide +kernel
theorem dX6_ask_16 : decode cX6_ask 16 = .ok (.invokevirtual 102, 3) := by decide +kernel
theorem dX6_ask_19 : decode cX6_ask 19 = .ok (.ireturn, 1) := by decide +kernel
theorem dX6_ask_20 : decode cX6_ask 20 = .ok (.aload_n 0, 1) := by decide +kernel
theorem dX6_ask_21 : decode cX6_ask 21 = .ok (.iconst (-1), 1) := by decide +kernel
theorem dX6_ask_22 : decode cX6_ask 22 = .ok (.putfield 309, 3) := by decide +kernel
theorem dX6_ask_25 : decode cX6_ask 25 = .ok (.aload_n 0, 1) := by decide +kernel
theorem dX6_ask_26 : decode cX6_ask 26 = .ok (.iload_n 1, 1) := by decide +kernel
theorem dX6_ask_27 : decode cX6_ask 27 = .ok (.iconst 1, 1) := by decide +kernel
theorem dX6_ask_28 : decode cX6_ask 28 = .ok (.invokevirtual 312, 3) := by decide +kernel
theorem dX6_ask_31 : decode cX6_ask 31 = .ok (.ifCond .ne 12, 3) := by decide +kernel
theorem dX6_ask_34 : decode cX6_ask 34 = .ok (.aload_n 0, 1) := by decide +kernel
theorem dX6_ask_35 : decode cX6_ask 35 = .ok (.iload_n 1, 1) := by decide +kernel
theorem dX6_ask_36 : decode cX6_ask 36 = .ok (.iconst 2, 1) := by decide +kernel
theorem dX6_ask_37 : decode cX6_ask 37 = .ok (.invokevirtual 312, 3) := by decide +kernel
theorem dX6_ask_40 : decode cX6_ask 40 = .ok (.ifCond .eq 7, 3) := by decide +kernel
theorem dX6_ask_43 : decode cX6_ask 43 = .ok (.iconst 1, 1) := by decide +kernel
theorem dX6_ask_44 : decode cX6_ask 44 = .ok (.goto 4, 3) := by decide +kernel
theorem dX6_ask_47 : decode cX6_ask 47 = .ok (.iconst 0, 1) := by decide +kernel
theorem dX6_ask_48 : decode cX6_ask 48 = .ok (.istore_n 3, 1) := by decide +kernel
theorem dX6_ask_49 : decode cX6_ask 49 = .ok (.iload_n 2, 1) := by decide +kernel
theorem dX6_ask_50 : decode cX6_ask 50 = .ok (.iconst (-1), 1) := by decide +kernel
theorem dX6_ask_51 : decode cX6_ask 51 = .ok (.if_icmp .ne 16, 3) := by decide +kernel
theorem dX6_ask_54 : decode cX6_ask 54 = .ok (.iload_n 3, 1) := by decide +kernel
theorem dX6_ask_55 : decode cX6_ask 55 = .ok (.ifCond .eq 10, 3) := by decide +kernel
theorem dX6_ask_58 : decode cX6_ask 58 = .ok (.aload_n 0, 1) := by decide +kernel
theorem dX6_ask_59 : decode cX6_ask 59 = .ok (.getfield 309, 3) := by decide +kernel
theorem dX6_ask_62 : decode cX6_ask 62 = .ok (.goto 4, 3) := by decide +kernel
theorem dX6_ask_65 : decode cX6_ask 65 = .ok (.iconst (-1), 1) := by decide +kernel
theorem dX6_ask_66 : decode cX6_ask 66 = .ok (.ireturn, 1) := by decide +kernel
theorem dX6_ask_67 : decode cX6_ask 67 = .ok (.iload_n 2, 1) := by decide +kernel
theorem dX6_ask_68 : decode cX6_ask 68 = .ok (.aload_n 0, 1) := by decide +kernel
theorem dX6_ask_69 : decode cX6_ask 69 = .ok (.getfield 309, 3) := by decide +kernel
theorem dX6_ask_72 : decode cX6_ask 72 = .ok (.if_icmp .ge 12, 3) := by decide +kernel
theorem dX6_ask_75 : decode cX6_ask 75 = .ok (.aload_n 0, 1) := by decide +kernel
theorem dX6_ask_76 : decode cX6_ask 76 = .ok (.getfield 62, 3) := by decide +kernel
theorem dX6_ask_79 : decode cX6_ask 79 = .ok (.iload_n 2, 1) := by decide +kernel
theorem dX6_ask_80 : decode cX6_ask 80 = .ok (.iaload, 1) := by decide +kernel
theorem dX6_ask_81 : decode cX6_ask 81 = .ok (.goto 9, 3) := by decide +kernel
theorem dX6_ask_84 : decode cX6_ask 84 = .ok (.aload_n 0, 1) := by decide +kernel
theorem dX6_ask_85 : decode cX6_ask 85 = .ok (.bipush (-5), 2) := by decide +kernel
theorem dX6_ask_87 : decode cX6_ask 87 = .ok (.invokevirtual 102, 3) := by decide +kernel
theorem dX6_ask_90 : decode cX6_ask 90 = .ok (.ireturn, 1) := by decide +kernel
theorem dX6_isEcho_0 : decode cX6_isEcho 0 = .ok (.aload_n 0, 1) := by decide +kernel
theorem dX6_isEcho_1 : decode cX6_isEcho 1 = .ok (.iload_n 1, 1) := by decide +kernel
theorem dX6_isEcho_2 : decode cX6_isEcho 2 = .ok (.invokevirtual 244, 3) := by decide +kernel
theorem dX6_isEcho_5 : decode cX6_isEcho 5 = .ok (.aload_n 0, 1) := by decide +kernel
theorem dX6_isEcho_6 : decode cX6_isEcho 6 = .ok (.getfield 241, 3) := by decide +kernel
theorem dX6_isEcho_9 : decode cX6_isEcho 9 = .ok (.iload_n 3, 1) := by decide +kernel
theorem dX6_isEcho_10 : decode cX6_isEcho 10 = .ok (.if_icmp .eq 5, 3) := by decide +kernel
theorem dX6_isEcho_13 : decode cX6_isEcho 13 = .ok (.iconst 0, 1) := by decide +kernel
theorem dX6_isEcho_14 : decode cX6_isEcho 14 = .ok (.ireturn, 1) := by decide +kernel
theorem dX6_isEcho_15 : decode cX6_isEcho 15 = .ok (.iconst 0, 1) := by decide +kernel
theorem dX6_isEcho_16 : decode cX6_isEcho 16 = .ok (.istore 4, 2) := by decide +kernel
theorem dX6_isEcho_18 : decode cX6_isEcho 18 = .ok (.iload 4, 2) := by decide +kernel
theorem dX6_isEcho_20 : decode cX6_isEcho 20 = .ok (.iload_n 3, 1) := by decide +kernel
theorem dX6_isEcho_21 : decode cX6_isEcho 21 = .ok (.if_icmp .ge 32, 3) := by decide +kernel
theorem dX6_isEcho_24 : decode cX6_isEcho 24 = .ok (.aload_n 0, 1) := by decide +kernel
theorem dX6_isEcho_25 : decode cX6_isEcho 25 = .ok (.getfield 65, 3) := by decide +kernel
theorem dX6_isEcho_28 : decode cX6_isEcho 28 = .ok (.iload 4, 2) := by decide +kernel
theorem dX6_isEcho_30 : decode cX6_isEcho 30 = .ok (.iaload, 1) := by decide +kernel
theorem dX6_isEcho_31 : decode cX6_isEcho 31 = .ok (.i2l, 1) := by decide +kernel
theorem dX6_isEcho_32 : decode cX6_isEcho 32 = .ok (.aload_n 0, 1) := by decide +kernel
theorem dX6_isEcho_33 : decode cX6_isEcho 33 = .ok (.getfield 21, 3) := by decide +kernel
theorem dX6_isEcho_36 : decode cX6_isEcho 36 = .ok (.iload_n 2, 1) := by decide +kernel
theorem dX6_isEcho_37 : decode cX6_isEcho 37 = .ok (.aaload, 1) := by decide +kernel
theorem dX6_isEcho_38 : decode cX6_isEcho 38 = .ok (.iload 4, 2) := by decide +kernel
theorem dX6_isEcho_40 : decode cX6_isEcho 40 = .ok (.laload, 1) := by decide +kernel
theorem dX6_isEcho_41 : decode cX6_isEcho 41 = .ok (.lcmp, 1) := by decide +kernel
theorem dX6_isEcho_42 : decode cX6_isEcho 42 = .ok (.ifCond .eq 5, 3) := by decide +kernel
theorem dX6_isEcho_45 : decode cX6_isEcho 45 = .ok (.iconst 0, 1) := by decide +kernel
theorem dX6_isEcho_46 : decode cX6_isEcho 46 = .ok (.ireturn, 1) := by decide +kernel
theorem dX6_isEcho_47 : decode cX6_isEcho 47 = .ok (.iinc 4 1, 3) := by decide +kernel
theorem dX6_isEcho_50 : decode cX6_isEcho 50 = .ok (.goto (-32), 3) := by decide +kernel
theorem dX6_isEcho_53 : decode cX6_isEcho 53 = .ok (.iconst 1, 1) := by decide +kernel
theorem dX6_isEcho_54 : decode cX6_isEcho 54 = .ok (.ireturn, 1) := by decide +kernel
theorem dX6_findDepths_0 : decode cX6_findDepths 0 = .ok (.aload_n 0, 1) := by decide +kernel
theorem dX6_findDepths_1 : decode cX6_findDepths 1 = .ok (.invokevirtual 280, 3) := by decide +kernel
theorem dX6_findDepths_4 : decode cX6_findDepths 4 = .ok (.aload_n 0, 1) := by decide +kernel
theorem dX6_findDepths_5 : decode cX6_findDepths 5 = .ok (.iconst 0, 1) := by decide +kernel
theorem dX6_findDepths_6 : decode cX6_findDepths 6 = .ok (.putfield 315, 3) := by decide +kernel
theorem dX6_findDepths_9 : decode cX6_findDepths 9 = .ok (.aload_n 0, 1) := by decide +kernel
theorem dX6_findDepths_10 : decode cX6_findDepths 10 = .ok (.iconst (-1), 1) := by decide +kernel
theorem dX6_findDepths_11 : decode cX6_findDepths 11 = .ok (.putfield 318, 3) := by decide +kernel
theorem dX6_findDepths_14 : decode cX6_findDepths 14 = .ok (.aload_n 0, 1) := by decide +kernel
theorem dX6_findDepths_15 : decode cX6_findDepths 15 = .ok (.iconst (-1), 1) := by decide +kernel
theorem dX6_findDepths_16 : decode cX6_findDepths 16 = .ok (.putfield 321, 3) := by decide +kernel
theorem dX6_findDepths_19 : decode cX6_findDepths 19 = .ok (.aload_n 0, 1) := by decide +kernel
theorem dX6_findDepths_20 : decode cX6_findDepths 20 = .ok (.iconst 0, 1) := by decide +kernel
theorem dX6_findDepths_21 : decode cX6_findDepths 21 = .ok (.putfield 37, 3) := by decide +kernel
theorem dX6_findDepths_24 : decode cX6_findDepths 24 = .ok (.aload_n 0, 1) := by decide +kernel
theorem dX6_findDepths_25 : decode cX6_findDepths 25 = .ok (.getfield 37, 3) := by decide +kernel
theorem dX6_findDepths_28 : decode cX6_findDepths 28 = .ok (.bipush 40, 2) := by decide +kernel
theorem dX6_findDepths_30 : decode cX6_findDepths 30 = .ok (.if_icmp .gt 120, 3) := by decide +kernel
theorem dX6_findDepths_33 : decode cX6_findDepths 33 = .ok (.aload_n 0, 1) := by decide +kernel
theorem dX6_findDepths_34 : decode cX6_findDepths 34 = .ok (.getfield 71, 3) := by decide +kernel
theorem dX6_findDepths_37 : decode cX6_findDepths 37 = .ok (.aload_n 0, 1) := by decide +kernel
theorem dX6_findDepths_38 : decode cX6_findDepths 38 = .ok (.getfield 37, 3) := by decide +kernel
theorem dX6_findDepths_41 : decode cX6_findDepths 41 = .ok (.aload_n 0, 1) := by decide +kernel
theorem dX6_findDepths_42 : decode cX6_findDepths 42 = .ok (.iload_n 1, 1) := by decide +kernel
theorem dX6_findDepths_43 : decode cX6_findDepths 43 = .ok (.iload_n 2, 1) := by decide +kernel
theorem dX6_findDepths_44 : decode cX6_findDepths 44 = .ok (.iload_n 3, 1) := by decide +kernel
theorem dX6_findDepths_45 : decode cX6_findDepths 45 = .ok (.invokevirtual 324, 3) := by decide +kernel
theorem dX6_findDepths_48 : decode cX6_findDepths 48 = .ok (.bastore, 1) := by decide +kernel
theorem dX6_findDepths_49 : decode cX6_findDepths 49 = .ok (.aload_n 0, 1) := by decide +kernel
theorem dX6_findDepths_50 : decode cX6_findDepths 50 = .ok (.dup, 1) := by decide +kernel
theorem dX6_findDepths_51 : decode cX6_findDepths 51 = .ok (.getfield 315, 3) := by decide +kernel
theorem dX6_findDepths_54 : decode cX6_findDepths 54 = .ok (.aload_n 0, 1) := by decide +kernel
theorem dX6_findDepths_55 : decode cX6_findDepths 55 = .ok (.getfield 71, 3) := by decide +kernel
theorem dX6_findDepths_58 : decode cX6_findDepths 58 = .ok (.aload_n 0, 1) := by decide +kernel
theorem dX6_findDepths_59 : decode cX6_findDepths 59 = .ok (.getfield 37, 3) := by decide +kernel
theorem dX6_findDepths_62 : decode cX6_findDepths 62 = .ok (.baload, 1) := by decide +kernel
theorem dX6_findDepths_63 : decode cX6_findDepths 63 = .ok (.ifCond .eq 7, 3) := by decide +kernel
theorem dX6_findDepths_66 : decode cX6_findDepths 66 = .ok (.iconst 1, 1) := by decide +kernel
theorem dX6_findDepths_67 : decode cX6_findDepths 67 = .ok (.goto 4, 3) := by decide +kernel
theorem dX6_findDepths_70 : decode cX6_findDepths 70 = .ok (.iconst 0, 1) := by decide +kernel
theorem dX6_findDepths_71 : decode cX6_findDepths 71 = .ok (.iadd, 1) := by decide +kernel
theorem dX6_findDepths_72 : decode cX6_findDepths 72 = .ok (.putfield 315, 3) := by decide +kernel
theorem dX6_findDepths_75 : decode cX6_findDepths 75 = .ok (.aload_n 0, 1) := by decide +kernel
theorem dX6_findDepths_76 : decode cX6_findDepths 76 = .ok (.aload_n 0, 1) := by decide +kernel
theorem dX6_findDepths_77 : decode cX6_findDepths 77 = .ok (.getfield 71, 3) := by decide +kernel
theorem dX6_findDepths_80 : decode cX6_findDepths 80 = .ok (.aload_n 0, 1) := by decide +kernel
theorem dX6_findDepths_81 : decode cX6_findDepths 81 = .ok (.getfield 37, 3) := by decide +kernel
theorem dX6_findDepths_84 : decode cX6_findDepths 84 = .ok (.baload, 1) := by decide +kernel
theorem dX6_findDepths_85 : decode cX6_findDepths 85 = .ok (.ifCond .eq 18, 3) := by decide +kernel
theorem dX6_findDepths_88 : decode cX6_findDepths 88 = .ok (.aload_n 0, 1) := by decide +kernel
theorem dX6_findDepths_89 : decode cX6_findDepths 89 = .ok (.getfield 318, 3) := by decide +kernel
theorem dX6_findDepths_92 : decode cX6_findDepths 92 = .ok (.iconst (-1), 1) := by decide +kernel
theorem dX6_findDepths_93 : decode cX6_findDepths 93 = .ok (.if_icmp .ne 10, 3) := by decide +kernel
theorem dX6_findDepths_96 : decode cX6_findDepths 96 = .ok (.aload_n 0, 1) := by decide +kernel
theorem dX6_findDepths_97 : decode cX6_findDepths 97 = .ok (.getfield 37, 3) := by decide +kernel
theorem dX6_findDepths_100 : decode cX6_findDepths 100 = .ok (.goto 7, 3) := by decide +kernel
theorem dX6_findDepths_103 : decode cX6_findDepths 103 = .ok (.aload_n 0, 1) := by decide +kernel
theorem dX6_findDepths_104 : decode cX6_findDepths 104 = .ok (.getfield 318, 3) := by decide +kernel
theorem dX6_findDepths_107 : decode cX6_findDepths 107 = .ok (.putfield 318, 3) := by decide +kernel
theorem dX6_findDepths_110 : decode cX6_findDepths 110 = .ok (.aload_n 0, 1) := by decide +kernel
theorem dX6_findDepths_111 : decode cX6_findDepths 111 = .ok (.aload_n 0, 1) := by decide +kernel
theorem dX6_findDepths_112 : decode cX6_findDepths 112 = .ok (.getfield 71, 3) := by decide +kernel
theorem dX6_findDepths_115 : decode cX6_findDepths 115 = .ok (.aload_n 0, 1) := by decide +kernel
theorem dX6_findDepths_116 : decode cX6_findDepths 116 = .ok (.getfield 37, 3) := by decide +kernel
theorem dX6_findDepths_119 : decode cX6_findDepths 119 = .ok (.baload, 1) := by decide +kernel
theorem dX6_findDepths_120 : decode cX6_findDepths 120 = .ok (.ifCond .eq 10, 3) := by decide +kernel
theorem dX6_findDepths_123 : decode cX6_findDepths 123 = .ok (.aload_n 0, 1) := by decide +kernel
theorem dX6_findDepths_124 : decode cX6_findDepths 124 = .ok (.getfield 37, 3) := by decide +kernel
theorem dX6_findDepths_127 : decode cX6_findDepths 127 = .ok (.goto 7, 3) := by decide +kernel
theorem dX6_findDepths_130 : decode cX6_findDepths 130 = .ok (.aload_n 0, 1) := by decide +kernel
theorem dX6_findDepths_131 : decode cX6_findDepths 131 = .ok (.getfield 321, 3) := by decide +kernel
theorem dX6_findDepths_134 : decode cX6_findDepths 134 = .ok (.putfield 321, 3) := by decide +kernel
theorem dX6_findDepths_137 : decode cX6_findDepths 137 = .ok (.aload_n 0, 1) := by decide +kernel
theorem dX6_findDepths_138 : decode cX6_findDepths 138 = .ok (.dup, 1) := by decide +kernel
theorem dX6_findDepths_139 : decode cX6_findDepths 139 = .ok (.getfield 37, 3) := by decide +kernel
theorem dX6_findDepths_142 : decode cX6_findDepths 142 = .ok (.iconst 1, 1) := by decide +kernel
theorem dX6_findDepths_143 : decode cX6_findDepths 143 = .ok (.iadd, 1) := by decide +kernel
theorem dX6_findDepths_144 : decode cX6_findDepths 144 = .ok (.putfield 37, 3) := by decide +kernel
theorem dX6_findDepths_147 : decode cX6_findDepths 147 = .ok (.goto (-123), 3) := by decide +kernel
theorem dX6_findDepths_150 : decode cX6_findDepths 150 = .ok (.aload_n 0, 1) := by decide +kernel
theorem dX6_findDepths_151 : decode cX6_findDepths 151 = .ok (.invokevirtual 286, 3) := by decide +kernel
theorem dX6_findDepths_154 : decode cX6_findDepths 154 = .ok (.return_, 1) := by decide +kernel
theorem dX6_depths_0 : decode cX6_depths 0 = .ok (.aload_n 0, 1) := by decide +kernel
theorem dX6_depths_1 : decode cX6_depths 1 = .ok (.iload_n 1, 1) := by decide +kernel
theorem dX6_depths_2 : decode cX6_depths 2 = .ok (.iload_n 2, 1) := by decide +kernel
theorem dX6_depths_3 : decode cX6_depths 3 = .ok (.iload_n 3, 1) := by decide +kernel
theorem dX6_depths_4 : decode cX6_depths 4 = .ok (.iload 4, 2) := by decide +kernel
theorem dX6_depths_6 : decode cX6_depths 6 = .ok (.bipush 13, 2) := by decide +kernel
theorem dX6_depths_8 : decode cX6_depths 8 = .ok (.iconst 1, 1) := by decide +kernel
theorem dX6_depths_9 : decode cX6_depths 9 = .ok (.aload_n 0, 1) := by decide +kernel
theorem dX6_depths_10 : decode cX6_depths 10 = .ok (.iload 5, 2) := by decide +kernel
theorem dX6_depths_12 : decode cX6_depths 12 = .ok (.invokevirtual 113, 3) := by decide +kernel
theorem dX6_depths_15 : decode cX6_depths 15 = .ok (.ifCond .eq 20, 3) := by decide +kernel
theorem dX6_depths_18 : decode cX6_depths 18 = .ok (.iload 6, 2) := by decide +kernel
theorem dX6_depths_20 : decode cX6_depths 20 = .ok (.i2l, 1) := by decide +kernel
theorem dX6_depths_21 : decode cX6_depths 21 = .ok (.lconst 0, 1) := by decide +kernel
theorem dX6_depths_22 : decode cX6_depths 22 = .ok (.ldc2_w 137, 3) := by decide +kernel
theorem dX6_depths_25 : decode cX6_depths 25 = .ok (.invokestatic 92, 3) := by decide +kernel
theorem dX6_depths_28 : decode cX6_depths 28 = .ok (.ifCond .eq 7, 3) := by decide +kernel
theorem dX6_depths_31 : decode cX6_depths 31 = .ok (.iconst 1, 1) := by decide +kernel
theorem dX6_depths_32 : decode cX6_depths 32 = .ok (.goto 4, 3) := by decide +kernel
theorem dX6_depths_35 : decode cX6_depths 35 = .ok (.iconst 0, 1) := by decide +kernel
theorem dX6_depths_36 : decode cX6_depths 36 = .ok (.invokevirtual 327, 3) := by decide +kernel
theorem dX6_depths_39 : decode cX6_depths 39 = .ok (.istore 7, 2) := by decide +kernel
theorem dX6_depths_41 : decode cX6_depths 41 = .ok (.iload 7, 2) := by decide +kernel
theorem dX6_depths_43 : decode cX6_depths 43 = .ok (.ifCond .eq 6, 3) := by decide +kernel
theorem dX6_depths_46 : decode cX6_depths 46 = .ok (.iload 7, 2) := by decide +kernel
theorem dX6_depths_48 : decode cX6_depths 48 = .ok (.ireturn, 1) := by decide +kernel
theorem dX6_depths_49 : decode cX6_depths 49 = .ok (.aload_n 0, 1) := by decide +kernel
theorem dX6_depths_50 : decode cX6_depths 50 = .ok (.iload 5, 2) := by decide +kernel
theorem dX6_depths_52 : decode cX6_depths 52 = .ok (.iload_n 3, 1) := by decide +kernel
theorem dX6_depths_53 : decode cX6_depths 53 = .ok (.iload 4, 2) := by decide +kernel
theorem dX6_depths_55 : decode cX6_depths 55 = .ok (.invokevirtual 331, 3) := by decide +kernel
theorem dX6_depths_58 : decode cX6_depths 58 = .ok (.iload 6, 2) := by decide +kernel
theorem dX6_depths_60 : decode cX6_depths 60 = .ok (.ifCond .ne 10, 3) := by decide +kernel
theorem dX6_depths_63 : decode cX6_depths 63 = .ok (.aload_n 0, 1) := by decide +kernel
theorem dX6_depths_64 : decode cX6_depths 64 = .ok (.getfield 315, 3) := by decide +kernel
theorem dX6_depths_67 : decode cX6_depths 67 = .ok (.goto 20, 3) := by decide +kernel
theorem dX6_depths_70 : decode cX6_depths 70 = .ok (.iload 6, 2) := by decide +kernel
theorem dX6_depths_72 : decode cX6_depths 72 = .ok (.iconst 1, 1) := by decide +kernel
theorem dX6_depths_73 : decode cX6_depths 73 = .ok (.if_icmp .ne 10, 3) := by decide +kernel
theorem dX6_depths_76 : decode cX6_depths 76 = .ok (.aload_n 0, 1) := by decide +kernel
theorem dX6_depths_77 : decode cX6_depths 77 = .ok (.getfield 318, 3) := by decide +kernel
theorem dX6_depths_80 : decode cX6_depths 80 = .ok (.goto 7, 3) := by decide +kernel
theorem dX6_depths_83 : decode cX6_depths 83 = .ok (.aload_n 0, 1) := by decide +kernel
theorem dX6_depths_84 : decode cX6_depths 84 = .ok (.getfield 321, 3) := by decide +kernel
theorem dX6_depths_87 : decode cX6_depths 87 = .ok (.ireturn, 1) := by decide +kernel
theorem dX6_below_0 : decode cX6_below 0 = .ok (.aload_n 0, 1) := by decide +kernel
theorem dX6_below_1 : decode cX6_below 1 = .ok (.iload_n 1, 1) := by decide +kernel
theorem dX6_below_2 : decode cX6_below 2 = .ok (.iload_n 2, 1) := by decide +kernel
theorem dX6_below_3 : decode cX6_below 3 = .ok (.iload_n 3, 1) := by decide +kernel
theorem dX6_below_4 : decode cX6_below 4 = .ok (.iload 4, 2) := by decide +kernel
theorem dX6_below_6 : decode cX6_below 6 = .ok (.bipush 13, 2) := by decide +kernel
theorem dX6_below_8 : decode cX6_below 8 = .ok (.iconst 1, 1) := by decide +kernel
theorem dX6_below_9 : decode cX6_below 9 = .ok (.aload_n 0, 1) := by decide +kernel
theorem dX6_below_10 : decode cX6_below 10 = .ok (.iload 5, 2) := by decide +kernel
theorem dX6_below_12 : decode cX6_below 12 = .ok (.invokevirtual 113, 3) := by decide +kernel
theorem dX6_below_15 : decode cX6_below 15 = .ok (.invokevirtual 327, 3) := by decide +kernel
theorem dX6_below_18 : decode cX6_below 18 = .ok (.istore 6, 2) := by decide +kernel
theorem dX6_below_20 : decode cX6_below 20 = .ok (.iload 6, 2) := by decide +kernel
theorem dX6_below_22 : decode cX6_below 22 = .ok (.ifCond .eq 6, 3) := by decide +kernel
theorem dX6_below_25 : decode cX6_below 25 = .ok (.iload 6, 2) := by decide +kernel
theorem dX6_below_27 : decode cX6_below 27 = .ok (.ireturn, 1) := by decide +kernel
theorem dX6_below_28 : decode cX6_below 28 = .ok (.aload_n 0, 1) := by decide +kernel
theorem dX6_below_29 : decode cX6_below 29 = .ok (.iload 5, 2) := by decide +kernel
theorem dX6_below_31 : decode cX6_below 31 = .ok (.iload_n 3, 1) := by decide +kernel
theorem dX6_below_32 : decode cX6_below 32 = .ok (.iload 4, 2) := by decide +kernel
theorem dX6_below_34 : decode cX6_below 34 = .ok (.invokevirtual 331, 3) := by decide +kernel
theorem dX6_below_37 : decode cX6_below 37 = .ok (.aload_n 0, 1) := by decide +kernel
theorem dX6_below_38 : decode cX6_below 38 = .ok (.getfield 315, 3) := by decide +kernel
theorem dX6_below_41 : decode cX6_below 41 = .ok (.ifCond .ne 7, 3) := by decide +kernel
theorem dX6_below_44 : decode cX6_below 44 = .ok (.iconst 1, 1) := by decide +kernel
theorem dX6_below_45 : decode cX6_below 45 = .ok (.goto 4, 3) := by decide +kernel
theorem dX6_below_48 : decode cX6_below 48 = .ok (.iconst 0, 1) := by decide +kernel
theorem dX6_below_49 : decode cX6_below 49 = .ok (.ireturn, 1) := by decide +kernel
theorem dX6_fits_0 : decode cX6_fits 0 = .ok (.aload_n 0, 1) := by decide +kernel
theorem dX6_fits_1 : decode cX6_fits 1 = .ok (.iload_n 1, 1) := by decide +kernel
theorem dX6_fits_2 : decode cX6_fits 2 = .ok (.iload_n 2, 1) := by decide +kernel
theorem dX6_fits_3 : decode cX6_fits 3 = .ok (.iload_n 3, 1) := by decide +kernel
theorem dX6_fits_4 : decode cX6_fits 4 = .ok (.iload 4, 2) := by decide +kernel
theorem dX6_fits_6 : decode cX6_fits 6 = .ok (.bipush 13, 2) := by decide +kernel
theorem dX6_fits_8 : decode cX6_fits 8 = .ok (.iconst 1, 1) := by decide +kernel
theorem dX6_fits_9 : decode cX6_fits 9 = .ok (.aload_n 0, 1) := by decide +kernel
theorem dX6_fits_10 : decode cX6_fits 10 = .ok (.iload 5, 2) := by decide +kernel
theorem dX6_fits_12 : decode cX6_fits 12 = .ok (.invokevirtual 113, 3) := by decide +kernel
theorem dX6_fits_15 : decode cX6_fits 15 = .ok (.ifCond .eq 18, 3) := by decide +kernel
theorem dX6_fits_18 : decode cX6_fits 18 = .ok (.iload 6, 2) := by decide +kernel
theorem dX6_fits_20 : decode cX6_fits 20 = .ok (.i2l, 1) := by decide +kernel
theorem dX6_fits_21 : decode cX6_fits 21 = .ok (.lconst 0, 1) := by decide +kernel
theorem dX6_fits_22 : decode cX6_fits 22 = .ok (.lconst 1, 1) := by decide +kernel
theorem dX6_fits_23 : decode cX6_fits 23 = .ok (.invokestatic 92, 3) := by decide +kernel
theorem dX6_fits_26 : decode cX6_fits 26 = .ok (.ifCond .eq 7, 3) := by decide +kernel
theorem dX6_fits_29 : decode cX6_fits 29 = .ok (.iconst 1, 1) := by decide +kernel
theorem dX6_fits_30 : decode cX6_fits 30 = .ok (.goto 4, 3) := by decide +kernel
theorem dX6_fits_33 : decode cX6_fits 33 = .ok (.iconst 0, 1) := by decide +kernel
theorem dX6_fits_34 : decode cX6_fits 34 = .ok (.invokevirtual 327, 3) := by decide +kernel
theorem dX6_fits_37 : decode cX6_fits 37 = .ok (.istore 7, 2) := by decide +kernel
theorem dX6_fits_39 : decode cX6_fits 39 = .ok (.iload 7, 2) := by decide +kernel
theorem dX6_fits_41 : decode cX6_fits 41 = .ok (.ifCond .eq 6, 3) := by decide +kernel
theorem dX6_fits_44 : decode cX6_fits 44 = .ok (.iload 7, 2) := by decide +kernel
theorem dX6_fits_46 : decode cX6_fits 46 = .ok (.ireturn, 1) := by decide +kernel
theorem dX6_fits_47 : decode cX6_fits 47 = .ok (.aload_n 0, 1) := by decide +kernel
theorem dX6_fits_48 : decode cX6_fits 48 = .ok (.getfield 47, 3) := by decide +kernel
theorem dX6_fits_51 : decode cX6_fits 51 = .ok (.iload 5, 2) := by decide +kernel
theorem dX6_fits_53 : decode cX6_fits 53 = .ok (.iaload, 1) := by decide +kernel
theorem dX6_fits_54 : decode cX6_fits 54 = .ok (.istore 8, 2) := by decide +kernel
theorem dX6_fits_56 : decode cX6_fits 56 = .ok (.aload_n 0, 1) := by decide +kernel
theorem dX6_fits_57 : decode cX6_fits 57 = .ok (.getfield 53, 3) := by decide +kernel
theorem dX6_fits_60 : decode cX6_fits 60 = .ok (.iload 5, 2) := by decide +kernel
theorem dX6_fits_62 : decode cX6_fits 62 = .ok (.iaload, 1) := by decide +kernel
theorem dX6_fits_63 : decode cX6_fits 63 = .ok (.istore 9, 2) := by decide +kernel
theorem dX6_fits_65 : decode cX6_fits 65 = .ok (.iconst 0, 1) := by decide +kernel
theorem dX6_fits_66 : decode cX6_fits 66 = .ok (.istore 10, 2) := by decide +kernel
theorem dX6_fits_68 : decode cX6_fits 68 = .ok (.iconst 0, 1) := by decide +kernel
theorem dX6_fits_69 : decode cX6_fits 69 = .ok (.istore 11, 2) := by decide +kernel
theorem dX6_fits_71 : decode cX6_fits 71 = .ok (.iload 11, 2) := by decide +kernel
theorem dX6_fits_73 : decode cX6_fits 73 = .ok (.iload 6, 2) := by decide +kernel
theorem dX6_fits_75 : decode cX6_fits 75 = .ok (.ifCond .ne 7, 3) := by decide +kernel
theorem dX6_fits_78 : decode cX6_fits 78 = .ok (.iconst 5, 1) := by decide +kernel
theorem dX6_fits_79 : decode cX6_fits 79 = .ok (.goto 5, 3) := by decide +kernel
theorem dX6_fits_82 : decode cX6_fits 82 = .ok (.bipush 20, 2) := by decide +kernel
theorem dX6_fits_84 : decode cX6_fits 84 = .ok (.if_icmp .gt 73, 3) := by decide +kernel
theorem dX6_fits_87 : decode cX6_fits 87 = .ok (.aload_n 0, 1) := by decide +kernel
theorem dX6_fits_88 : decode cX6_fits 88 = .ok (.getfield 47, 3) := by decide +kernel
theorem dX6_fits_91 : decode cX6_fits 91 = .ok (.iload 5, 2) := by decide +kernel
theorem dX6_fits_93 : decode cX6_fits 93 = .ok (.iload 6, 2) := by decide +kernel
theorem dX6_fits_95 : decode cX6_fits 95 = .ok (.ifCond .ne 8, 3) := by decide +kernel
theorem dX6_fits_98 : decode cX6_fits 98 = .ok (.iload 11, 2) := by decide +kernel
theorem dX6_fits_100 : decode cX6_fits 100 = .ok (.goto 5, 3) := by decide +kernel
theorem dX6_fits_103 : decode cX6_fits 103 = .ok (.iload 8, 2) := by decide +kernel
theorem dX6_fits_105 : decode cX6_fits 105 = .ok (.iastore, 1) := by decide +kernel
theorem dX6_fits_106 : decode cX6_fits 106 = .ok (.aload_n 0, 1) := by decide +kernel
theorem dX6_fits_107 : decode cX6_fits 107 = .ok (.getfield 53, 3) := by decide +kernel
theorem dX6_fits_110 : decode cX6_fits 110 = .ok (.iload 5, 2) := by decide +kernel
theorem dX6_fits_112 : decode cX6_fits 112 = .ok (.iload 6, 2) := by decide +kernel
theorem dX6_fits_114 : decode cX6_fits 114 = .ok (.iconst 1, 1) := by decide +kernel
theorem dX6_fits_115 : decode cX6_fits 115 = .ok (.if_icmp .ne 8, 3) := by decide +kernel
theorem dX6_fits_118 : decode cX6_fits 118 = .ok (.iload 11, 2) := by decide +kernel
theorem dX6_fits_120 : decode cX6_fits 120 = .ok (.goto 5, 3) := by decide +kernel
theorem dX6_fits_123 : decode cX6_fits 123 = .ok (.iload 9, 2) := by decide +kernel
theorem dX6_fits_125 : decode cX6_fits 125 = .ok (.iastore, 1) := by decide +kernel
theorem dX6_fits_126 : decode cX6_fits 126 = .ok (.iload 10, 2) := by decide +kernel
theorem dX6_fits_128 : decode cX6_fits 128 = .ok (.aload_n 0, 1) := by decide +kernel
theorem dX6_fits_129 : decode cX6_fits 129 = .ok (.iload 5, 2) := by decide +kernel
theorem dX6_fits_131 : decode cX6_fits 131 = .ok (.iload_n 3, 1) := by decide +kernel
theorem dX6_fits_132 : decode cX6_fits 132 = .ok (.iload 4, 2) := by decide +kernel
theorem dX6_fits_134 : decode cX6_fits 134 = .ok (.invokevirtual 324, 3) := by decide +kernel
theorem dX6_fits_137 : decode cX6_fits 137 = .ok (.ifCond .eq 10, 3) := by decide +kernel
theorem dX6_fits_140 : decode cX6_fits 140 = .ok (.iconst 1, 1) := by decide +kernel
theorem dX6_fits_141 : decode cX6_fits 141 = .ok (.iload 11, 2) := by decide +kernel
theorem dX6_fits_143 : decode cX6_fits 143 = .ok (.ishl, 1) := by decide +kernel
theorem dX6_fits_144 : decode cX6_fits 144 = .ok (.goto 4, 3) := by decide +kernel
theorem dX6_fits_147 : decode cX6_fits 147 = .ok (.iconst 0, 1) := by decide +kernel
theorem dX6_fits_148 : decode cX6_fits 148 = .ok (.ior, 1) := by decide +kernel
theorem dX6_fits_149 : decode cX6_fits 149 = .ok (.istore 10, 2) := by decide +kernel
theorem dX6_fits_151 : decode cX6_fits 151 = .ok (.iinc 11 1, 3) := by decide +kernel
theorem dX6_fits_154 : decode cX6_fits 154 = .ok (.goto (-83), 3) := by decide +kernel
theorem dX6_fits_157 : decode cX6_fits 157 = .ok (.aload_n 0, 1) := by decide +kernel
theorem dX6_fits_158 : decode cX6_fits 158 = .ok (.getfield 47, 3) := by decide +kernel
theorem dX6_fits_161 : decode cX6_fits 161 = .ok (.iload 5, 2) := by decide +kernel
theorem dX6_fits_163 : decode cX6_fits 163 = .ok (.iload 8, 2) := by decide +kernel
theorem dX6_fits_165 : decode cX6_fits 165 = .ok (.iastore, 1) := by decide +kernel
theorem dX6_fits_166 : decode cX6_fits 166 = .ok (.aload_n 0, 1) := by decide +kernel
theorem dX6_fits_167 : decode cX6_fits 167 = .ok (.getfield 53, 3) := by decide +kernel
theorem dX6_fits_170 : decode cX6_fits 170 = .ok (.iload 5, 2) := by decide +kernel
theorem dX6_fits_172 : decode cX6_fits 172 = .ok (.iload 9, 2) := by decide +kernel
theorem dX6_fits_174 : decode cX6_fits 174 = .ok (.iastore, 1) := by decide +kernel
theorem dX6_fits_175 : decode cX6_fits 175 = .ok (.iload 10, 2) := by decide +kernel
theorem dX6_fits_177 : decode cX6_fits 177 = .ok (.ireturn, 1) := by decide +kernel
theorem dX6_worstBy_0 : decode cX6_worstBy 0 = .ok (.aload_n 0, 1) := by decide +kernel
theorem dX6_worstBy_1 : decode cX6_worstBy 1 = .ok (.iconst 0, 1) := by decide +kernel
theorem dX6_worstBy_2 : decode cX6_worstBy 2 = .ok (.putfield 37, 3) := by decide +kernel
theorem dX6_worstBy_5 : decode cX6_worstBy 5 = .ok (.aload_n 0, 1) := by decide +kernel
theorem dX6_worstBy_6 : decode cX6_worstBy 6 = .ok (.getfield 37, 3) := by decide +kernel
theorem dX6_worstBy_9 : decode cX6_worstBy 9 = .ok (.bipush 40, 2) := by decide +kernel
theorem dX6_worstBy_11 : decode cX6_worstBy 11 = .ok (.if_icmp .gt 31, 3) := by decide +kernel
theorem dX6_worstBy_14 : decode cX6_worstBy 14 = .ok (.aload_n 0, 1) := by decide +kernel
theorem dX6_worstBy_15 : decode cX6_worstBy 15 = .ok (.getfield 75, 3) := by decide +kernel
theorem dX6_worstBy_18 : decode cX6_worstBy 18 = .ok (.aload_n 0, 1) := by decide +kernel
theorem dX6_worstBy_19 : decode cX6_worstBy 19 = .ok (.getfield 37, 3) := by decide +kernel
theorem dX6_worstBy_22 : decode cX6_worstBy 22 = .ok (.aload_n 0, 1) := by decide +kernel
theorem dX6_worstBy_23 : decode cX6_worstBy 23 = .ok (.iload_n 1, 1) := by decide +kernel
theorem dX6_worstBy_24 : decode cX6_worstBy 24 = .ok (.iload_n 2, 1) := by decide +kernel
theorem dX6_worstBy_25 : decode cX6_worstBy 25 = .ok (.invokevirtual 234, 3) := by decide +kernel
theorem dX6_worstBy_28 : decode cX6_worstBy 28 = .ok (.iastore, 1) := by decide +kernel
theorem dX6_worstBy_29 : decode cX6_worstBy 29 = .ok (.aload_n 0, 1) := by decide +kernel
theorem dX6_worstBy_30 : decode cX6_worstBy 30 = .ok (.dup, 1) := by decide +kernel
theorem dX6_worstBy_31 : decode cX6_worstBy 31 = .ok (.getfield 37, 3) := by decide +kernel
theorem dX6_worstBy_34 : decode cX6_worstBy 34 = .ok (.iconst 1, 1) := by decide +kernel
theorem dX6_worstBy_35 : decode cX6_worstBy 35 = .ok (.iadd, 1) := by decide +kernel
theorem dX6_worstBy_36 : decode cX6_worstBy 36 = .ok (.putfield 37, 3) := by decide +kernel
theorem dX6_worstBy_39 : decode cX6_worstBy 39 = .ok (.goto (-34), 3) := by decide +kernel
theorem dX6_worstBy_42 : decode cX6_worstBy 42 = .ok (.iconst 0, 1) := by decide +kernel
theorem dX6_worstBy_43 : decode cX6_worstBy 43 = .ok (.istore_n 3, 1) := by decide +kernel
theorem dX6_worstBy_44 : decode cX6_worstBy 44 = .ok (.iconst 0, 1) := by decide +kernel
theorem dX6_worstBy_45 : decode cX6_worstBy 45 = .ok (.istore 4, 2) := by decide +kernel
theorem dX6_worstBy_47 : decode cX6_worstBy 47 = .ok (.iload 4, 2) := by decide +kernel
theorem dX6_worstBy_49 : decode cX6_worstBy 49 = .ok (.bipush 40, 2) := by decide +kernel
theorem dX6_worstBy_51 : decode cX6_worstBy 51 = .ok (.if_icmp .gt 88, 3) := by decide +kernel
theorem dX6_worstBy_54 : decode cX6_worstBy 54 = .ok (.iconst 0, 1) := by decide +kernel
theorem dX6_worstBy_55 : decode cX6_worstBy 55 = .ok (.istore 5, 2) := by decide +kernel
theorem dX6_worstBy_57 : decode cX6_worstBy 57 = .ok (.iconst 0, 1) := by decide +kernel
theorem dX6_worstBy_58 : decode cX6_worstBy 58 = .ok (.istore 6, 2) := by decide +kernel
theorem dX6_worstBy_60 : decode cX6_worstBy 60 = .ok (.iload 6, 2) := by decide +kernel
theorem dX6_worstBy_62 : decode cX6_worstBy 62 = .ok (.bipush 40, 2) := by decide +kernel
theorem dX6_worstBy_64 : decode cX6_worstBy 64 = .ok (.if_icmp .gt 56, 3) := by decide +kernel
theorem dX6_worstBy_67 : decode cX6_worstBy 67 = .ok (.aload_n 0, 1) := by decide +kernel
theorem dX6_worstBy_68 : decode cX6_worstBy 68 = .ok (.getfield 71, 3) := by decide +kernel
theorem dX6_worstBy_71 : decode cX6_worstBy 71 = .ok (.iload 4, 2) := by decide +kernel
theorem dX6_worstBy_73 : decode cX6_worstBy 73 = .ok (.baload, 1) := by decide +kernel
theorem dX6_worstBy_74 : decode cX6_worstBy 74 = .ok (.ifCond .eq 46, 3) := by decide +kernel
theorem dX6_worstBy_77 : decode cX6_worstBy 77 = .ok (.iload 5, 2) := by decide +kernel
theorem dX6_worstBy_79 : decode cX6_worstBy 79 = .ok (.aload_n 0, 1) := by decide +kernel
theorem dX6_worstBy_80 : decode cX6_worstBy 80 = .ok (.getfield 71, 3) := by decide +kernel
theorem dX6_worstBy_83 : decode cX6_worstBy 83 = .ok (.iload 6, 2) := by decide +kernel
theorem dX6_worstBy_85 : decode cX6_worstBy 85 = .ok (.baload, 1) := by decide +kernel
theorem dX6_worstBy_86 : decode cX6_worstBy 86 = .ok (.ifCond .eq 24, 3) := by decide +kernel
theorem dX6_worstBy_89 : decode cX6_worstBy 89 = .ok (.aload_n 0, 1) := by decide +kernel
theorem dX6_worstBy_90 : decode cX6_worstBy 90 = .ok (.getfield 75, 3) := by decide +kernel
theorem dX6_worstBy_93 : decode cX6_worstBy 93 = .ok (.iload 6, 2) := by decide +kernel
theorem dX6_worstBy_95 : decode cX6_worstBy 95 = .ok (.iaload, 1) := by decide +kernel
theorem dX6_worstBy_96 : decode cX6_worstBy 96 = .ok (.aload_n 0, 1) := by decide +kernel
theorem dX6_worstBy_97 : decode cX6_worstBy 97 = .ok (.getfield 75, 3) := by decide +kernel
theorem dX6_worstBy_100 : decode cX6_worstBy 100 = .ok (.iload 4, 2) := by decide +kernel
theorem dX6_worstBy_102 : decode cX6_worstBy 102 = .ok (.iaload, 1) := by decide +kernel
theorem dX6_worstBy_103 : decode cX6_worstBy 103 = .ok (.if_icmp .ne 7, 3) := by decide +kernel
theorem dX6_worstBy_106 : decode cX6_worstBy 106 = .ok (.iconst 1, 1) := by decide +kernel
theorem dX6_worstBy_107 : decode cX6_worstBy 107 = .ok (.goto 4, 3) := by decide +kernel
theorem dX6_worstBy_110 : decode cX6_worstBy 110 = .ok (.iconst 0, 1) := by decide +kernel
theorem dX6_worstBy_111 : decode cX6_worstBy 111 = .ok (.iadd, 1) := by decide +kernel
theorem dX6_worstBy_112 : decode cX6_worstBy 112 = .ok (.istore 5, 2) := by decide +kernel
theorem dX6_worstBy_114 : decode cX6_worstBy 114 = .ok (.iinc 6 1, 3) := by decide +kernel
theorem dX6_worstBy_117 : decode cX6_worstBy 117 = .ok (.goto (-57), 3) := by decide +kernel
theorem dX6_worstBy_120 : decode cX6_worstBy 120 = .ok (.iload 5, 2) := by decide +kernel
theorem dX6_worstBy_122 : decode cX6_worstBy 122 = .ok (.iload_n 3, 1) := by decide +kernel
theorem dX6_worstBy_123 : decode cX6_worstBy 123 = .ok (.if_icmp .le 8, 3) := by decide +kernel
theorem dX6_worstBy_126 : decode cX6_worstBy 126 = .ok (.iload 5, 2) := by decide +kernel
theorem dX6_worstBy_128 : decode cX6_worstBy 128 = .ok (.goto 4, 3) := by decide +kernel
theorem dX6_worstBy_131 : decode cX6_worstBy 131 = .ok (.iload_n 3, 1) := by decide +kernel
theorem dX6_worstBy_132 : decode cX6_worstBy 132 = .ok (.istore_n 3, 1) := by decide +kernel
theorem dX6_worstBy_133 : decode cX6_worstBy 133 = .ok (.iinc 4 1, 3) := by decide +kernel
theorem dX6_worstBy_136 : decode cX6_worstBy 136 = .ok (.goto (-89), 3) := by decide +kernel
theorem dX6_worstBy_139 : decode cX6_worstBy 139 = .ok (.iload_n 3, 1) := by decide +kernel
theorem dX6_worstBy_140 : decode cX6_worstBy 140 = .ok (.ireturn, 1) := by decide +kernel
theorem dX6_next_0 : decode cX6_next 0 = .ok (.aload_n 0, 1) := by decide +kernel
theorem dX6_next_1 : decode cX6_next 1 = .ok (.iload_n 1, 1) := by decide +kernel
theorem dX6_next_2 : decode cX6_next 2 = .ok (.iload_n 2, 1) := by decide +kernel
theorem dX6_next_3 : decode cX6_next 3 = .ok (.iload_n 3, 1) := by decide +kernel
theorem dX6_next_4 : decode cX6_next 4 = .ok (.iload 4, 2) := by decide +kernel
theorem dX6_next_6 : decode cX6_next 6 = .ok (.bipush 13, 2) := by decide +kernel
theorem dX6_next_8 : decode cX6_next 8 = .ok (.iconst 1, 1) := by decide +kernel
theorem dX6_next_9 : decode cX6_next 9 = .ok (.aload_n 0, 1) := by decide +kernel
theorem dX6_next_10 : decode cX6_next 10 = .ok (.iload 5, 2) := by decide +kernel
theorem dX6_next_12 : decode cX6_next 12 = .ok (.invokevirtual 113, 3) := by decide +kernel
theorem dX6_next_15 : decode cX6_next 15 = .ok (.invokevirtual 327, 3) := by decide +kernel
theorem dX6_next_18 : decode cX6_next 18 = .ok (.istore 6, 2) := by decide +kernel
theorem dX6_next_20 : decode cX6_next 20 = .ok (.iload 6, 2) := by decide +kernel
theorem dX6_next_22 : decode cX6_next 22 = .ok (.ifCond .eq 6, 3) := by decide +kernel
theorem dX6_next_25 : decode cX6_next 25 = .ok (.iload 6, 2) := by decide +kernel
theorem dX6_next_27 : decode cX6_next 27 = .ok (.ireturn, 1) := by decide +kernel
theorem dX6_next_28 : decode cX6_next 28 = .ok (.aload_n 0, 1) := by decide +kernel
theorem dX6_next_29 : decode cX6_next 29 = .ok (.iload 5, 2) := by decide +kernel
theorem dX6_next_31 : decode cX6_next 31 = .ok (.iload_n 3, 1) := by decide +kernel
theorem dX6_next_32 : decode cX6_next 32 = .ok (.iload 4, 2) := by decide +kernel
theorem dX6_next_34 : decode cX6_next 34 = .ok (.invokevirtual 331, 3) := by decide +kernel
theorem dX6_next_37 : decode cX6_next 37 = .ok (.iconst (-1), 1) := by decide +kernel
theorem dX6_next_38 : decode cX6_next 38 = .ok (.istore 7, 2) := by decide +kernel
theorem dX6_next_40 : decode cX6_next 40 = .ok (.bipush 42, 2) := by decide +kernel
theorem dX6_next_42 : decode cX6_next 42 = .ok (.istore 8, 2) := by decide +kernel
theorem dX6_next_44 : decode cX6_next 44 = .ok (.iconst 0, 1) := by decide +kernel
theorem dX6_next_45 : decode cX6_next 45 = .ok (.istore 9, 2) := by decide +kernel
theorem dX6_next_47 : decode cX6_next 47 = .ok (.iload 9, 2) := by decide +kernel
theorem dX6_next_49 : decode cX6_next 49 = .ok (.bipush 40, 2) := by decide +kernel
theorem dX6_next_51 : decode cX6_next 51 = .ok (.if_icmp .ge 59, 3) := by decide +kernel
theorem dX6_next_54 : decode cX6_next 54 = .ok (.aload_n 0, 1) := by decide +kernel
theorem dX6_next_55 : decode cX6_next 55 = .ok (.getfield 315, 3) := by decide +kernel
theorem dX6_next_58 : decode cX6_next 58 = .ok (.iconst 1, 1) := by decide +kernel
theorem dX6_next_59 : decode cX6_next 59 = .ok (.if_icmp .le 51, 3) := by decide +kernel
theorem dX6_next_62 : decode cX6_next 62 = .ok (.aload_n 0, 1) := by decide +kernel
theorem dX6_next_63 : decode cX6_next 63 = .ok (.iload 5, 2) := by decide +kernel
theorem dX6_next_65 : decode cX6_next 65 = .ok (.iload 9, 2) := by decide +kernel
theorem dX6_next_67 : decode cX6_next 67 = .ok (.invokevirtual 334, 3) := by decide +kernel
theorem dX6_next_70 : decode cX6_next 70 = .ok (.istore 10, 2) := by decide +kernel
theorem dX6_next_72 : decode cX6_next 72 = .ok (.iload 10, 2) := by decide +kernel
theorem dX6_next_74 : decode cX6_next 74 = .ok (.iload 8, 2) := by decide +kernel
theorem dX6_next_76 : decode cX6_next 76 = .ok (.if_icmp .ge 8, 3) := by decide +kernel
theorem dX6_next_79 : decode cX6_next 79 = .ok (.iload 9, 2) := by decide +kernel
theorem dX6_next_81 : decode cX6_next 81 = .ok (.goto 5, 3) := by decide +kernel
theorem dX6_next_84 : decode cX6_next 84 = .ok (.iload 7, 2) := by decide +kernel
theorem dX6_next_86 : decode cX6_next 86 = .ok (.istore 7, 2) := by decide +kernel
theorem dX6_next_88 : decode cX6_next 88 = .ok (.iload 10, 2) := by decide +kernel
theorem dX6_next_90 : decode cX6_next 90 = .ok (.iload 8, 2) := by decide +kernel
theorem dX6_next_92 : decode cX6_next 92 = .ok (.if_icmp .ge 8, 3) := by decide +kernel
theorem dX6_next_95 : decode cX6_next 95 = .ok (.iload 10, 2) := by decide +kernel
theorem dX6_next_97 : decode cX6_next 97 = .ok (.goto 5, 3) := by decide +kernel
theorem dX6_next_100 : decode cX6_next 100 = .ok (.iload 8, 2) := by decide +kernel
theorem dX6_next_102 : decode cX6_next 102 = .ok (.istore 8, 2) := by decide +kernel
theorem dX6_next_104 : decode cX6_next 104 = .ok (.iinc 9 1, 3) := by decide +kernel
theorem dX6_next_107 : decode cX6_next 107 = .ok (.goto (-60), 3) := by decide +kernel
theorem dX6_next_110 : decode cX6_next 110 = .ok (.aload_n 0, 1) := by decide +kernel
theorem dX6_next_111 : decode cX6_next 111 = .ok (.invokevirtual 286, 3) := by decide +kernel
theorem dX6_next_114 : decode cX6_next 114 = .ok (.iload 7, 2) := by decide +kernel
theorem dX6_next_116 : decode cX6_next 116 = .ok (.ireturn, 1) := by decide +kernel
theorem dX6_findSuits_0 : decode cX6_findSuits 0 = .ok (.aload_n 0, 1) := by decide +kernel
theorem dX6_findSuits_1 : decode cX6_findSuits 1 = .ok (.invokevirtual 280, 3) := by decide +kernel
theorem dX6_findSuits_4 : decode cX6_findSuits 4 = .ok (.iconst 0, 1) := by decide +kernel
theorem dX6_findSuits_5 : decode cX6_findSuits 5 = .ok (.istore_n 1, 1) := by decide +kernel
theorem dX6_findSuits_6 : decode cX6_findSuits 6 = .ok (.iload_n 1, 1) := by decide +kernel
theorem dX6_findSuits_7 : decode cX6_findSuits 7 = .ok (.aload_n 0, 1) := by decide +kernel
theorem dX6_findSuits_8 : decode cX6_findSuits 8 = .ok (.getfield 89, 3) := by decide +kernel
theorem dX6_findSuits_11 : decode cX6_findSuits 11 = .ok (.if_icmp .ge 51, 3) := by decide +kernel
theorem dX6_findSuits_14 : decode cX6_findSuits 14 = .ok (.aload_n 0, 1) := by decide +kernel
theorem dX6_findSuits_15 : decode cX6_findSuits 15 = .ok (.aload_n 0, 1) := by decide +kernel
theorem dX6_findSuits_16 : decode cX6_findSuits 16 = .ok (.getfield 269, 3) := by decide +kernel
theorem dX6_findSuits_19 : decode cX6_findSuits 19 = .ok (.iload_n 1, 1) := by decide +kernel
theorem dX6_findSuits_20 : decode cX6_findSuits 20 = .ok (.iadd, 1) := by decide +kernel
theorem dX6_findSuits_21 : decode cX6_findSuits 21 = .ok (.invokestatic 266, 3) := by decide +kernel
theorem dX6_findSuits_24 : decode cX6_findSuits 24 = .ok (.putfield 37, 3) := by decide +kernel
theorem dX6_findSuits_27 : decode cX6_findSuits 27 = .ok (.iconst 0, 1) := by decide +kernel
theorem dX6_findSuits_28 : decode cX6_findSuits 28 = .ok (.istore_n 2, 1) := by decide +kernel
theorem dX6_findSuits_29 : decode cX6_findSuits 29 = .ok (.iload_n 2, 1) := by decide +kernel
theorem dX6_findSuits_30 : decode cX6_findSuits 30 = .ok (.aload_n 0, 1) := by decide +kernel
theorem dX6_findSuits_31 : decode cX6_findSuits 31 = .ok (.getfield 89, 3) := by decide +kernel
theorem dX6_findSuits_34 : decode cX6_findSuits 34 = .ok (.if_icmp .ge 22, 3) := by decide +kernel
theorem dX6_findSuits_37 : decode cX6_findSuits 37 = .ok (.aload_n 0, 1) := by decide +kernel
theorem dX6_findSuits_38 : decode cX6_findSuits 38 = .ok (.getfield 80, 3) := by decide +kernel
theorem dX6_findSuits_41 : decode cX6_findSuits 41 = .ok (.iload_n 2, 1) := by decide +kernel
theorem dX6_findSuits_42 : decode cX6_findSuits 42 = .ok (.aaload, 1) := by decide +kernel
theorem dX6_findSuits_43 : decode cX6_findSuits 43 = .ok (.iload_n 1, 1) := by decide +kernel
theorem dX6_findSuits_44 : decode cX6_findSuits 44 = .ok (.aload_n 0, 1) := by decide +kernel
theorem dX6_findSuits_45 : decode cX6_findSuits 45 = .ok (.iload_n 2, 1) := by decide +kernel
theorem dX6_findSuits_46 : decode cX6_findSuits 46 = .ok (.invokevirtual 260, 3) := by decide +kernel
theorem dX6_findSuits_49 : decode cX6_findSuits 49 = .ok (.bastore, 1) := by decide +kernel
theorem dX6_findSuits_50 : decode cX6_findSuits 50 = .ok (.iinc 2 1, 3) := by decide +kernel
theorem dX6_findSuits_53 : decode cX6_findSuits 53 = .ok (.goto (-24), 3) := by decide +kernel
theorem dX6_findSuits_56 : decode cX6_findSuits 56 = .ok (.iinc 1 1, 3) := by decide +kernel
theorem dX6_findSuits_59 : decode cX6_findSuits 59 = .ok (.goto (-53), 3) := by decide +kernel
theorem dX6_findSuits_62 : decode cX6_findSuits 62 = .ok (.aload_n 0, 1) := by decide +kernel
theorem dX6_findSuits_63 : decode cX6_findSuits 63 = .ok (.invokevirtual 286, 3) := by decide +kernel
theorem dX6_findSuits_66 : decode cX6_findSuits 66 = .ok (.iconst 1, 1) := by decide +kernel
theorem dX6_findSuits_67 : decode cX6_findSuits 67 = .ok (.aload_n 0, 1) := by decide +kernel
theorem dX6_findSuits_68 : decode cX6_findSuits 68 = .ok (.getfield 89, 3) := by decide +kernel
theorem dX6_findSuits_71 : decode cX6_findSuits 71 = .ok (.ishl, 1) := by decide +kernel
theorem dX6_findSuits_72 : decode cX6_findSuits 72 = .ok (.iconst 1, 1) := by decide +kernel
theorem dX6_findSuits_73 : decode cX6_findSuits 73 = .ok (.isub, 1) := by decide +kernel
theorem dX6_findSuits_74 : decode cX6_findSuits 74 = .ok (.istore_n 1, 1) := by decide +kernel
theorem dX6_findSuits_75 : decode cX6_findSuits 75 = .ok (.aload_n 0, 1) := by decide +kernel
theorem dX6_findSuits_76 : decode cX6_findSuits 76 = .ok (.getfield 83, 3) := by decide +kernel
theorem dX6_findSuits_79 : decode cX6_findSuits 79 = .ok (.iload_n 1, 1) := by decide +kernel
theorem dX6_findSuits_80 : decode cX6_findSuits 80 = .ok (.iconst 0, 1) := by decide +kernel
theorem dX6_findSuits_81 : decode cX6_findSuits 81 = .ok (.iastore, 1) := by decide +kernel
theorem dX6_findSuits_82 : decode cX6_findSuits 82 = .ok (.iload_n 1, 1) := by decide +kernel
theorem dX6_findSuits_83 : decode cX6_findSuits 83 = .ok (.iconst 1, 1) := by decide +kernel
theorem dX6_findSuits_84 : decode cX6_findSuits 84 = .ok (.isub, 1) := by decide +kernel
theorem dX6_findSuits_85 : decode cX6_findSuits 85 = .ok (.istore_n 2, 1) := by decide +kernel
theorem dX6_findSuits_86 : decode cX6_findSuits 86 = .ok (.iload_n 2, 1) := by decide +kernel
theorem dX6_findSuits_87 : decode cX6_findSuits 87 = .ok (.ifCond .lt 104, 3) := by decide +kernel
theorem dX6_findSuits_90 : decode cX6_findSuits 90 = .ok (.aload_n 0, 1) := by decide +kernel
theorem dX6_findSuits_91 : decode cX6_findSuits 91 = .ok (.getfield 83, 3) := by decide +kernel
theorem dX6_findSuits_94 : decode cX6_findSuits 94 = .ok (.iload_n 2, 1) := by decide +kernel
theorem dX6_findSuits_95 : decode cX6_findSuits 95 = .ok (.iconst 0, 1) := by decide +kernel
theorem dX6_findSuits_96 : decode cX6_findSuits 96 = .ok (.iastore, 1) := by decide +kernel
theorem dX6_findSuits_97 : decode cX6_findSuits 97 = .ok (.iconst 0, 1) := by decide +kernel
theorem dX6_findSuits_98 : decode cX6_findSuits 98 = .ok (.istore_n 3, 1) := by decide +kernel
theorem dX6_findSuits_99 : decode cX6_findSuits 99 = .ok (.iload_n 3, 1) := by decide +kernel
theorem dX6_findSuits_100 : decode cX6_findSuits 100 = .ok (.aload_n 0, 1) := by decide +kernel
theorem dX6_findSuits_101 : decode cX6_findSuits 101 = .ok (.getfield 89, 3) := by decide +kernel
theorem dX6_findSuits_104 : decode cX6_findSuits 104 = .ok (.if_icmp .ge 81, 3) := by decide +kernel
theorem dX6_findSuits_107 : decode cX6_findSuits 107 = .ok (.iload_n 2, 1) := by decide +kernel
theorem dX6_findSuits_108 : decode cX6_findSuits 108 = .ok (.iload_n 3, 1) := by decide +kernel
theorem dX6_findSuits_109 : decode cX6_findSuits 109 = .ok (.ishr, 1) := by decide +kernel
theorem dX6_findSuits_110 : decode cX6_findSuits 110 = .ok (.iconst 1, 1) := by decide +kernel
theorem dX6_findSuits_111 : decode cX6_findSuits 111 = .ok (.iand, 1) := by decide +kernel
theorem dX6_findSuits_112 : decode cX6_findSuits 112 = .ok (.ifCond .ne 36, 3) := by decide +kernel
theorem dX6_findSuits_115 : decode cX6_findSuits 115 = .ok (.aload_n 0, 1) := by decide +kernel
theorem dX6_findSuits_116 : decode cX6_findSuits 116 = .ok (.getfield 83, 3) := by decide +kernel
theorem dX6_findSuits_119 : decode cX6_findSuits 119 = .ok (.iload_n 2, 1) := by decide +kernel
theorem dX6_findSuits_120 : decode cX6_findSuits 120 = .ok (.iconst 1, 1) := by decide +kernel
theorem dX6_findSuits_121 : decode cX6_findSuits 121 = .ok (.iload_n 3, 1) := by decide +kernel
theorem dX6_findSuits_122 : decode cX6_findSuits 122 = .ok (.ishl, 1) := by decide +kernel
theorem dX6_findSuits_123 : decode cX6_findSuits 123 = .ok (.ior, 1) := by decide +kernel
theorem dX6_findSuits_124 : decode cX6_findSuits 124 = .ok (.iaload, 1) := by decide +kernel
theorem dX6_findSuits_125 : decode cX6_findSuits 125 = .ok (.aload_n 0, 1) := by decide +kernel
theorem dX6_findSuits_126 : decode cX6_findSuits 126 = .ok (.getfield 80, 3) := by decide +kernel
theorem dX6_findSuits_129 : decode cX6_findSuits 129 = .ok (.iload_n 3, 1) := by decide +kernel
theorem dX6_findSuits_130 : decode cX6_findSuits 130 = .ok (.aaload, 1) := by decide +kernel
theorem dX6_findSuits_131 : decode cX6_findSuits 131 = .ok (.iload_n 2, 1) := by decide +kernel
theorem dX6_findSuits_132 : decode cX6_findSuits 132 = .ok (.invokestatic 306, 3) := by decide +kernel
theorem dX6_findSuits_135 : decode cX6_findSuits 135 = .ok (.baload, 1) := by decide +kernel
theorem dX6_findSuits_136 : decode cX6_findSuits 136 = .ok (.ifCond .eq 7, 3) := by decide +kernel
theorem dX6_findSuits_139 : decode cX6_findSuits 139 = .ok (.iconst 1, 1) := by decide +kernel
theorem dX6_findSuits_140 : decode cX6_findSuits 140 = .ok (.goto 4, 3) := by decide +kernel
theorem dX6_findSuits_143 : decode cX6_findSuits 143 = .ok (.iconst 0, 1) := by decide +kernel
theorem dX6_findSuits_144 : decode cX6_findSuits 144 = .ok (.iadd, 1) := by decide +kernel
theorem dX6_findSuits_145 : decode cX6_findSuits 145 = .ok (.goto 4, 3) := by decide +kernel
theorem dX6_findSuits_148 : decode cX6_findSuits 148 = .ok (.iconst 0, 1) := by decide +kernel
theorem dX6_findSuits_149 : decode cX6_findSuits 149 = .ok (.istore 4, 2) := by decide +kernel
theorem dX6_findSuits_151 : decode cX6_findSuits 151 = .ok (.aload_n 0, 1) := by decide +kernel
theorem dX6_findSuits_152 : decode cX6_findSuits 152 = .ok (.getfield 83, 3) := by decide +kernel
theorem dX6_findSuits_155 : decode cX6_findSuits 155 = .ok (.iload_n 2, 1) := by decide +kernel
theorem dX6_findSuits_156 : decode cX6_findSuits 156 = .ok (.iload 4, 2) := by decide +kernel
theorem dX6_findSuits_158 : decode cX6_findSuits 158 = .ok (.aload_n 0, 1) := by decide +kernel
theorem dX6_findSuits_159 : decode cX6_findSuits 159 = .ok (.getfield 83, 3) := by decide +kernel
theorem dX6_findSuits_162 : decode cX6_findSuits 162 = .ok (.iload_n 2, 1) := by decide +kernel
theorem dX6_findSuits_163 : decode cX6_findSuits 163 = .ok (.iaload, 1) := by decide +kernel
theorem dX6_findSuits_164 : decode cX6_findSuits 164 = .ok (.if_icmp .le 8, 3) := by decide +kernel
theorem dX6_findSuits_167 : decode cX6_findSuits 167 = .ok (.iload 4, 2) := by decide +kernel
theorem dX6_findSuits_169 : decode cX6_findSuits 169 = .ok (.goto 9, 3) := by decide +kernel
theorem dX6_findSuits_172 : decode cX6_findSuits 172 = .ok (.aload_n 0, 1) := by decide +kernel
theorem dX6_findSuits_173 : decode cX6_findSuits 173 = .ok (.getfield 83, 3) := by decide +kernel
theorem dX6_findSuits_176 : decode cX6_findSuits 176 = .ok (.iload_n 2, 1) := by decide +kernel
theorem dX6_findSuits_177 : decode cX6_findSuits 177 = .ok (.iaload, 1) := by decide +kernel
theorem dX6_findSuits_178 : decode cX6_findSuits 178 = .ok (.iastore, 1) := by decide +kernel
theorem dX6_findSuits_179 : decode cX6_findSuits 179 = .ok (.iinc 3 1, 3) := by decide +kernel
theorem dX6_findSuits_182 : decode cX6_findSuits 182 = .ok (.goto (-83), 3) := by decide +kernel
theorem dX6_findSuits_185 : decode cX6_findSuits 185 = .ok (.iinc 2 (-1), 3) := by decide +kernel
theorem dX6_findSuits_188 : decode cX6_findSuits 188 = .ok (.goto (-102), 3) := by decide +kernel
theorem dX6_findSuits_191 : decode cX6_findSuits 191 = .ok (.return_, 1) := by decide +kernel
theorem dX6_suits_0 : decode cX6_suits 0 = .ok (.aload_n 0, 1) := by decide +kernel
theorem dX6_suits_1 : decode cX6_suits 1 = .ok (.iload_n 1, 1) := by decide +kernel
theorem dX6_suits_2 : decode cX6_suits 2 = .ok (.iload_n 2, 1) := by decide +kernel
theorem dX6_suits_3 : decode cX6_suits 3 = .ok (.bipush 12, 2) := by decide +kernel
theorem dX6_suits_5 : decode cX6_suits 5 = .ok (.iload_n 3, 1) := by decide +kernel
theorem dX6_suits_6 : decode cX6_suits 6 = .ok (.iconst (-1), 1) := by decide +kernel
theorem dX6_suits_7 : decode cX6_suits 7 = .ok (.if_icmp .lt 7, 3) := by decide +kernel
theorem dX6_suits_10 : decode cX6_suits 10 = .ok (.iconst 1, 1) := by decide +kernel
theorem dX6_suits_11 : decode cX6_suits 11 = .ok (.goto 4, 3) := by decide +kernel
theorem dX6_suits_14 : decode cX6_suits 14 = .ok (.iconst 0, 1) := by decide +kernel
theorem dX6_suits_15 : decode cX6_suits 15 = .ok (.invokevirtual 256, 3) := by decide +kernel
theorem dX6_suits_18 : decode cX6_suits 18 = .ok (.istore 4, 2) := by decide +kernel
theorem dX6_suits_20 : decode cX6_suits 20 = .ok (.iload 4, 2) := by decide +kernel
theorem dX6_suits_22 : decode cX6_suits 22 = .ok (.ifCond .eq 6, 3) := by decide +kernel
theorem dX6_suits_25 : decode cX6_suits 25 = .ok (.iload 4, 2) := by decide +kernel
theorem dX6_suits_27 : decode cX6_suits 27 = .ok (.ireturn, 1) := by decide +kernel
theorem dX6_suits_28 : decode cX6_suits 28 = .ok (.aload_n 0, 1) := by decide +kernel
theorem dX6_suits_29 : decode cX6_suits 29 = .ok (.invokevirtual 337, 3) := by decide +kernel
theorem dX6_suits_32 : decode cX6_suits 32 = .ok (.iload_n 3, 1) := by decide +kernel
theorem dX6_suits_33 : decode cX6_suits 33 = .ok (.iconst (-1), 1) := by decide +kernel
theorem dX6_suits_34 : decode cX6_suits 34 = .ok (.if_icmp .ne 10, 3) := by decide +kernel
theorem dX6_suits_37 : decode cX6_suits 37 = .ok (.aload_n 0, 1) := by decide +kernel
theorem dX6_suits_38 : decode cX6_suits 38 = .ok (.getfield 83, 3) := by decide +kernel
theorem dX6_suits_41 : decode cX6_suits 41 = .ok (.iconst 0, 1) := by decide +kernel
theorem dX6_suits_42 : decode cX6_suits 42 = .ok (.iaload, 1) := by decide +kernel
theorem dX6_suits_43 : decode cX6_suits 43 = .ok (.ireturn, 1) := by decide +kernel
theorem dX6_suits_44 : decode cX6_suits 44 = .ok (.iload_n 3, 1) := by decide +kernel
theorem dX6_suits_45 : decode cX6_suits 45 = .ok (.aload_n 0, 1) := by decide +kernel
theorem dX6_suits_46 : decode cX6_suits 46 = .ok (.getfield 89, 3) := by decide +kernel
theorem dX6_suits_49 : decode cX6_suits 49 = .ok (.if_icmp .lt 10, 3) := by decide +kernel
theorem dX6_suits_52 : decode cX6_suits 52 = .ok (.aload_n 0, 1) := by decide +kernel
theorem dX6_suits_53 : decode cX6_suits 53 = .ok (.bipush (-5), 2) := by decide +kernel
theorem dX6_suits_55 : decode cX6_suits 55 = .ok (.invokevirtual 102, 3) := by decide +kernel
theorem dX6_suits_58 : decode cX6_suits 58 = .ok (.ireturn, 1) := by decide +kernel
theorem dX6_suits_59 : decode cX6_suits 59 = .ok (.iconst 0, 1) := by decide +kernel
theorem dX6_suits_60 : decode cX6_suits 60 = .ok (.istore 5, 2) := by decide +kernel
theorem dX6_suits_62 : decode cX6_suits 62 = .ok (.iconst (-1), 1) := by decide +kernel
theorem dX6_suits_63 : decode cX6_suits 63 = .ok (.istore 6, 2) := by decide +kernel
theorem dX6_suits_65 : decode cX6_suits 65 = .ok (.iconst 0, 1) := by decide +kernel
theorem dX6_suits_66 : decode cX6_suits 66 = .ok (.istore 7, 2) := by decide +kernel
theorem dX6_suits_68 : decode cX6_suits 68 = .ok (.iload 7, 2) := by decide +kernel
theorem dX6_suits_70 : decode cX6_suits 70 = .ok (.iload_n 3, 1) := by decide +kernel
theorem dX6_suits_71 : decode cX6_suits 71 = .ok (.if_icmp .gt 79, 3) := by decide +kernel
theorem dX6_suits_74 : decode cX6_suits 74 = .ok (.iconst 0, 1) := by decide +kernel
theorem dX6_suits_75 : decode cX6_suits 75 = .ok (.istore 6, 2) := by decide +kernel
theorem dX6_suits_77 : decode cX6_suits 77 = .ok (.iload 5, 2) := by decide +kernel
theorem dX6_suits_79 : decode cX6_suits 79 = .ok (.iload 6, 2) := by decide +kernel
theorem dX6_suits_81 : decode cX6_suits 81 = .ok (.ishr, 1) := by decide +kernel
theorem dX6_suits_82 : decode cX6_suits 82 = .ok (.iconst 1, 1) := by decide +kernel
theorem dX6_suits_83 : decode cX6_suits 83 = .ok (.iand, 1) := by decide +kernel
theorem dX6_suits_84 : decode cX6_suits 84 = .ok (.iconst 1, 1) := by decide +kernel
theorem dX6_suits_85 : decode cX6_suits 85 = .ok (.if_icmp .eq 44, 3) := by decide +kernel
theorem dX6_suits_88 : decode cX6_suits 88 = .ok (.aload_n 0, 1) := by decide +kernel
theorem dX6_suits_89 : decode cX6_suits 89 = .ok (.getfield 83, 3) := by decide +kernel
theorem dX6_suits_92 : decode cX6_suits 92 = .ok (.iload 5, 2) := by decide +kernel
theorem dX6_suits_94 : decode cX6_suits 94 = .ok (.iconst 1, 1) := by decide +kernel
theorem dX6_suits_95 : decode cX6_suits 95 = .ok (.iload 6, 2) := by decide +kernel
theorem dX6_suits_97 : decode cX6_suits 97 = .ok (.ishl, 1) := by decide +kernel
theorem dX6_suits_98 : decode cX6_suits 98 = .ok (.ior, 1) := by decide +kernel
theorem dX6_suits_99 : decode cX6_suits 99 = .ok (.iaload, 1) := by decide +kernel
theorem dX6_suits_100 : decode cX6_suits 100 = .ok (.aload_n 0, 1) := by decide +kernel
theorem dX6_suits_101 : decode cX6_suits 101 = .ok (.getfield 80, 3) := by decide +kernel
theorem dX6_suits_104 : decode cX6_suits 104 = .ok (.iload 6, 2) := by decide +kernel
theorem dX6_suits_106 : decode cX6_suits 106 = .ok (.aaload, 1) := by decide +kernel
theorem dX6_suits_107 : decode cX6_suits 107 = .ok (.iload 7, 2) := by decide +kernel
theorem dX6_suits_109 : decode cX6_suits 109 = .ok (.baload, 1) := by decide +kernel
theorem dX6_suits_110 : decode cX6_suits 110 = .ok (.ifCond .eq 7, 3) := by decide +kernel
theorem dX6_suits_113 : decode cX6_suits 113 = .ok (.iconst 1, 1) := by decide +kernel
theorem dX6_suits_114 : decode cX6_suits 114 = .ok (.goto 4, 3) := by decide +kernel
theorem dX6_suits_117 : decode cX6_suits 117 = .ok (.iconst 0, 1) := by decide +kernel
theorem dX6_suits_118 : decode cX6_suits 118 = .ok (.iadd, 1) := by decide +kernel
theorem dX6_suits_119 : decode cX6_suits 119 = .ok (.aload_n 0, 1) := by decide +kernel
theorem dX6_suits_120 : decode cX6_suits 120 = .ok (.getfield 83, 3) := by decide +kernel
theorem dX6_suits_123 : decode cX6_suits 123 = .ok (.iload 5, 2) := by decide +kernel
theorem dX6_suits_125 : decode cX6_suits 125 = .ok (.iaload, 1) := by decide +kernel
theorem dX6_suits_126 : decode cX6_suits 126 = .ok (.if_icmp .eq 9, 3) := by decide +kernel
theorem dX6_suits_129 : decode cX6_suits 129 = .ok (.iinc 6 1, 3) := by decide +kernel
theorem dX6_suits_132 : decode cX6_suits 132 = .ok (.goto (-55), 3) := by decide +kernel
theorem dX6_suits_135 : decode cX6_suits 135 = .ok (.iload 5, 2) := by decide +kernel
theorem dX6_suits_137 : decode cX6_suits 137 = .ok (.iconst 1, 1) := by decide +kernel
theorem dX6_suits_138 : decode cX6_suits 138 = .ok (.iload 6, 2) := by decide +kernel
theorem dX6_suits_140 : decode cX6_suits 140 = .ok (.ishl, 1) := by decide +kernel
theorem dX6_suits_141 : decode cX6_suits 141 = .ok (.ior, 1) := by decide +kernel
theorem dX6_suits_142 : decode cX6_suits 142 = .ok (.istore 5, 2) := by decide +kernel
theorem dX6_suits_144 : decode cX6_suits 144 = .ok (.iinc 7 1, 3) := by decide +kernel
theorem dX6_suits_147 : decode cX6_suits 147 = .ok (.goto (-79), 3) := by decide +kernel
theorem dX6_suits_150 : decode cX6_suits 150 = .ok (.iload 6, 2) := by decide +kernel
theorem dX6_suits_152 : decode cX6_suits 152 = .ok (.ireturn, 1) := by decide +kernel
theorem dX6_makes_0 : decode cX6_makes 0 = .ok (.iload_n 2, 1) := by decide +kernel
theorem dX6_makes_1 : decode cX6_makes 1 = .ok (.ifCond .ne 10, 3) := by decide +kernel
theorem dX6_makes_4 : decode cX6_makes 4 = .ok (.aload_n 0, 1) := by decide +kernel
theorem dX6_makes_5 : decode cX6_makes 5 = .ok (.getfield 86, 3) := by decide +kernel
theorem dX6_makes_8 : decode cX6_makes 8 = .ok (.iload_n 1, 1) := by decide +kernel
theorem dX6_makes_9 : decode cX6_makes 9 = .ok (.baload, 1) := by decide +kernel
theorem dX6_makes_10 : decode cX6_makes 10 = .ok (.ireturn, 1) := by decide +kernel
theorem dX6_makes_11 : decode cX6_makes 11 = .ok (.iconst (-1), 1) := by decide +kernel
theorem dX6_makes_12 : decode cX6_makes 12 = .ok (.istore 4, 2) := by decide +kernel
theorem dX6_makes_14 : decode cX6_makes 14 = .ok (.iload 4, 2) := by decide +kernel
theorem dX6_makes_16 : decode cX6_makes 16 = .ok (.iconst 1, 1) := by decide +kernel
theorem dX6_makes_17 : decode cX6_makes 17 = .ok (.if_icmp .gt 38, 3) := by decide +kernel
theorem dX6_makes_20 : decode cX6_makes 20 = .ok (.aload_n 0, 1) := by decide +kernel
theorem dX6_makes_21 : decode cX6_makes 21 = .ok (.iload_n 1, 1) := by decide +kernel
theorem dX6_makes_22 : decode cX6_makes 22 = .ok (.iload 4, 2) := by decide +kernel
theorem dX6_makes_24 : decode cX6_makes 24 = .ok (.iadd, 1) := by decide +kernel
theorem dX6_makes_25 : decode cX6_makes 25 = .ok (.invokestatic 266, 3) := by decide +kernel
theorem dX6_makes_28 : decode cX6_makes 28 = .ok (.iload_n 2, 1) := by decide +kernel
theorem dX6_makes_29 : decode cX6_makes 29 = .ok (.iconst 1, 1) := by decide +kernel
theorem dX6_makes_30 : decode cX6_makes 30 = .ok (.isub, 1) := by decide +kernel
theorem dX6_makes_31 : decode cX6_makes 31 = .ok (.iload_n 3, 1) := by decide +kernel
theorem dX6_makes_32 : decode cX6_makes 32 = .ok (.ifCond .ne 7, 3) := by decide +kernel
theorem dX6_makes_35 : decode cX6_makes 35 = .ok (.iconst 1, 1) := by decide +kernel
theorem dX6_makes_36 : decode cX6_makes 36 = .ok (.goto 4, 3) := by decide +kernel
theorem dX6_makes_39 : decode cX6_makes 39 = .ok (.iconst 0, 1) := by decide +kernel
theorem dX6_makes_40 : decode cX6_makes 40 = .ok (.invokevirtual 340, 3) := by decide +kernel
theorem dX6_makes_43 : decode cX6_makes 43 = .ok (.iload_n 3, 1) := by decide +kernel
theorem dX6_makes_44 : decode cX6_makes 44 = .ok (.if_icmp .ne 5, 3) := by decide +kernel
theorem dX6_makes_47 : decode cX6_makes 47 = .ok (.iload_n 3, 1) := by decide +kernel
theorem dX6_makes_48 : decode cX6_makes 48 = .ok (.ireturn, 1) := by decide +kernel
theorem dX6_makes_49 : decode cX6_makes 49 = .ok (.iinc 4 1, 3) := by decide +kernel
theorem dX6_makes_52 : decode cX6_makes 52 = .ok (.goto (-38), 3) := by decide +kernel
theorem dX6_makes_55 : decode cX6_makes 55 = .ok (.iload_n 3, 1) := by decide +kernel
theorem dX6_makes_56 : decode cX6_makes 56 = .ok (.ifCond .ne 7, 3) := by decide +kernel
theorem dX6_makes_59 : decode cX6_makes 59 = .ok (.iconst 1, 1) := by decide +kernel
theorem dX6_makes_60 : decode cX6_makes 60 = .ok (.goto 4, 3) := by decide +kernel
theorem dX6_makes_63 : decode cX6_makes 63 = .ok (.iconst 0, 1) := by decide +kernel
theorem dX6_makes_64 : decode cX6_makes 64 = .ok (.ireturn, 1) := by decide +kernel
theorem dX6_buckets_0 : decode cX6_buckets 0 = .ok (.aload_n 0, 1) := by decide +kernel
theorem dX6_buckets_1 : decode cX6_buckets 1 = .ok (.iload_n 1, 1) := by decide +kernel
theorem dX6_buckets_2 : decode cX6_buckets 2 = .ok (.iload_n 2, 1) := by decide +kernel
theorem dX6_buckets_3 : decode cX6_buckets 3 = .ok (.bipush 12, 2) := by decide +kernel
theorem dX6_buckets_5 : decode cX6_buckets 5 = .ok (.aload_n 0, 1) := by decide +kernel
theorem dX6_buckets_6 : decode cX6_buckets 6 = .ok (.iload_n 3, 1) := by decide +kernel
theorem dX6_buckets_7 : decode cX6_buckets 7 = .ok (.invokevirtual 113, 3) := by decide +kernel
theorem dX6_buckets_10 : decode cX6_buckets 10 = .ok (.ifCond .eq 31, 3) := by decide +kernel
theorem dX6_buckets_13 : decode cX6_buckets 13 = .ok (.iload 4, 2) := by decide +kernel
theorem dX6_buckets_15 : decode cX6_buckets 15 = .ok (.i2l, 1) := by decide +kernel
theorem dX6_buckets_16 : decode cX6_buckets 16 = .ok (.lconst 0, 1) := by decide +kernel
theorem dX6_buckets_17 : decode cX6_buckets 17 = .ok (.ldc2_w 344, 3) := by decide +kernel
theorem dX6_buckets_20 : decode cX6_buckets 20 = .ok (.invokestatic 92, 3) := by decide +kernel
theorem dX6_buckets_23 : decode cX6_buckets 23 = .ok (.ifCond .eq 18, 3) := by decide +kernel
theorem dX6_buckets_26 : decode cX6_buckets 26 = .ok (.iload 5, 2) := by decide +kernel
theorem dX6_buckets_28 : decode cX6_buckets 28 = .ok (.i2l, 1) := by decide +kernel
theorem dX6_buckets_29 : decode cX6_buckets 29 = .ok (.lconst 0, 1) := by decide +kernel
theorem dX6_buckets_30 : decode cX6_buckets 30 = .ok (.lconst 1, 1) := by decide +kernel
theorem dX6_buckets_31 : decode cX6_buckets 31 = .ok (.invokestatic 92, 3) := by decide +kernel
theorem dX6_buckets_34 : decode cX6_buckets 34 = .ok (.ifCond .eq 7, 3) := by decide +kernel
theorem dX6_buckets_37 : decode cX6_buckets 37 = .ok (.iconst 1, 1) := by decide +kernel
theorem dX6_buckets_38 : decode cX6_buckets 38 = .ok (.goto 4, 3) := by decide +kernel
theorem dX6_buckets_41 : decode cX6_buckets 41 = .ok (.iconst 0, 1) := by decide +kernel
theorem dX6_buckets_42 : decode cX6_buckets 42 = .ok (.invokevirtual 256, 3) := by decide +kernel
theorem dX6_buckets_45 : decode cX6_buckets 45 = .ok (.istore 6, 2) := by decide +kernel
theorem dX6_buckets_47 : decode cX6_buckets 47 = .ok (.iload 6, 2) := by decide +kernel
theorem dX6_buckets_49 : decode cX6_buckets 49 = .ok (.ifCond .eq 6, 3) := by decide +kernel
theorem dX6_buckets_52 : decode cX6_buckets 52 = .ok (.iload 6, 2) := by decide +kernel
theorem dX6_buckets_54 : decode cX6_buckets 54 = .ok (.ireturn, 1) := by decide +kernel
theorem dX6_buckets_55 : decode cX6_buckets 55 = .ok (.aload_n 0, 1) := by decide +kernel
theorem dX6_buckets_56 : decode cX6_buckets 56 = .ok (.invokevirtual 280, 3) := by decide +kernel
theorem dX6_buckets_59 : decode cX6_buckets 59 = .ok (.aload_n 0, 1) := by decide +kernel
theorem dX6_buckets_60 : decode cX6_buckets 60 = .ok (.iconst 0, 1) := by decide +kernel
theorem dX6_buckets_61 : decode cX6_buckets 61 = .ok (.putfield 37, 3) := by decide +kernel
theorem dX6_buckets_64 : decode cX6_buckets 64 = .ok (.aload_n 0, 1) := by decide +kernel
theorem dX6_buckets_65 : decode cX6_buckets 65 = .ok (.getfield 37, 3) := by decide +kernel
theorem dX6_buckets_68 : decode cX6_buckets 68 = .ok (.bipush 40, 2) := by decide +kernel
theorem dX6_buckets_70 : decode cX6_buckets 70 = .ok (.if_icmp .gt 30, 3) := by decide +kernel
theorem dX6_buckets_73 : decode cX6_buckets 73 = .ok (.aload_n 0, 1) := by decide +kernel
theorem dX6_buckets_74 : decode cX6_buckets 74 = .ok (.getfield 86, 3) := by decide +kernel
theorem dX6_buckets_77 : decode cX6_buckets 77 = .ok (.aload_n 0, 1) := by decide +kernel
theorem dX6_buckets_78 : decode cX6_buckets 78 = .ok (.getfield 37, 3) := by decide +kernel
theorem dX6_buckets_81 : decode cX6_buckets 81 = .ok (.aload_n 0, 1) := by decide +kernel
theorem dX6_buckets_82 : decode cX6_buckets 82 = .ok (.iload_n 3, 1) := by decide +kernel
theorem dX6_buckets_83 : decode cX6_buckets 83 = .ok (.invokevirtual 260, 3) := by decide +kernel
theorem dX6_buckets_86 : decode cX6_buckets 86 = .ok (.bastore, 1) := by decide +kernel
theorem dX6_buckets_87 : decode cX6_buckets 87 = .ok (.aload_n 0, 1) := by decide +kernel
theorem dX6_buckets_88 : decode cX6_buckets 88 = .ok (.dup, 1) := by decide +kernel
theorem dX6_buckets_89 : decode cX6_buckets 89 = .ok (.getfield 37, 3) := by decide +kernel
theorem dX6_buckets_92 : decode cX6_buckets 92 = .ok (.iconst 1, 1) := by decide +kernel
theorem dX6_buckets_93 : decode cX6_buckets 93 = .ok (.iadd, 1) := by decide +kernel
theorem dX6_buckets_94 : decode cX6_buckets 94 = .ok (.putfield 37, 3) := by decide +kernel
theorem dX6_buckets_97 : decode cX6_buckets 97 = .ok (.goto (-33), 3) := by decide +kernel
theorem dX6_buckets_100 : decode cX6_buckets 100 = .ok (.aload_n 0, 1) := by decide +kernel
theorem dX6_buckets_101 : decode cX6_buckets 101 = .ok (.invokevirtual 286, 3) := by decide +kernel
theorem dX6_buckets_104 : decode cX6_buckets 104 = .ok (.iload 5, 2) := by decide +kernel
theorem dX6_buckets_106 : decode cX6_buckets 106 = .ok (.ifCond .ne 23, 3) := by decide +kernel
theorem dX6_buckets_109 : decode cX6_buckets 109 = .ok (.aload_n 0, 1) := by decide +kernel
theorem dX6_buckets_110 : decode cX6_buckets 110 = .ok (.aload_n 0, 1) := by decide +kernel
theorem dX6_buckets_111 : decode cX6_buckets 111 = .ok (.getfield 37, 3) := by decide +kernel
theorem dX6_buckets_114 : decode cX6_buckets 114 = .ok (.iload 4, 2) := by decide +kernel
theorem dX6_buckets_116 : decode cX6_buckets 116 = .ok (.iconst 1, 1) := by decide +kernel
theorem dX6_buckets_117 : decode cX6_buckets 117 = .ok (.invokevirtual 340, 3) := by decide +kernel
theorem dX6_buckets_120 : decode cX6_buckets 120 = .ok (.ifCond .eq 7, 3) := by decide +kernel
theorem dX6_buckets_123 : decode cX6_buckets 123 = .ok (.iconst 1, 1) := by decide +kernel
theorem dX6_buckets_124 : decode cX6_buckets 124 = .ok (.goto 4, 3) := by decide +kernel
theorem dX6_buckets_127 : decode cX6_buckets 127 = .ok (.iconst 0, 1) := by decide +kernel
theorem dX6_buckets_128 : decode cX6_buckets 128 = .ok (.ireturn, 1) := by decide +kernel
theorem dX6_buckets_129 : decode cX6_buckets 129 = .ok (.iconst 0, 1) := by decide +kernel
theorem dX6_buckets_130 : decode cX6_buckets 130 = .ok (.istore 7, 2) := by decide +kernel
theorem dX6_buckets_132 : decode cX6_buckets 132 = .ok (.iload 7, 2) := by decide +kernel
theorem dX6_buckets_134 : decode cX6_buckets 134 = .ok (.iconst 3, 1) := by decide +kernel
theorem dX6_buckets_135 : decode cX6_buckets 135 = .ok (.if_icmp .ge 41, 3) := by decide +kernel
theorem dX6_buckets_138 : decode cX6_buckets 138 = .ok (.iload 4, 2) := by decide +kernel
theorem dX6_buckets_140 : decode cX6_buckets 140 = .ok (.ifCond .le 36, 3) := by decide +kernel
theorem dX6_buckets_143 : decode cX6_buckets 143 = .ok (.aload_n 0, 1) := by decide +kernel
theorem dX6_buckets_144 : decode cX6_buckets 144 = .ok (.aload_n 0, 1) := by decide +kernel
theorem dX6_buckets_145 : decode cX6_buckets 145 = .ok (.getfield 37, 3) := by decide +kernel
theorem dX6_buckets_148 : decode cX6_buckets 148 = .ok (.iload 7, 2) := by decide +kernel
theorem dX6_buckets_150 : decode cX6_buckets 150 = .ok (.iadd, 1) := by decide +kernel
theorem dX6_buckets_151 : decode cX6_buckets 151 = .ok (.iconst 1, 1) := by decide +kernel
theorem dX6_buckets_152 : decode cX6_buckets 152 = .ok (.isub, 1) := by decide +kernel
theorem dX6_buckets_153 : decode cX6_buckets 153 = .ok (.invokestatic 266, 3) := by decide +kernel
theorem dX6_buckets_156 : decode cX6_buckets 156 = .ok (.iload 4, 2) := by decide +kernel
theorem dX6_buckets_158 : decode cX6_buckets 158 = .ok (.iconst 1, 1) := by decide +kernel
theorem dX6_buckets_159 : decode cX6_buckets 159 = .ok (.isub, 1) := by decide +kernel
theorem dX6_buckets_160 : decode cX6_buckets 160 = .ok (.iconst 0, 1) := by decide +kernel
theorem dX6_buckets_161 : decode cX6_buckets 161 = .ok (.invokevirtual 340, 3) := by decide +kernel
theorem dX6_buckets_164 : decode cX6_buckets 164 = .ok (.ifCond .eq 6, 3) := by decide +kernel
theorem dX6_buckets_167 : decode cX6_buckets 167 = .ok (.iload 7, 2) := by decide +kernel
theorem dX6_buckets_169 : decode cX6_buckets 169 = .ok (.ireturn, 1) := by decide +kernel
theorem dX6_buckets_170 : decode cX6_buckets 170 = .ok (.iinc 7 1, 3) := by decide +kernel
theorem dX6_buckets_173 : decode cX6_buckets 173 = .ok (.goto (-41), 3) := by decide +kernel
theorem dX6_buckets_176 : decode cX6_buckets 176 = .ok (.iconst (-1), 1) := by decide +kernel
theorem dX6_buckets_177 : decode cX6_buckets 177 = .ok (.ireturn, 1) := by decide +kernel
theorem dX6_judge_0 : decode cX6_judge 0 = .ok (.aload_n 0, 1) := by decide +kernel
theorem dX6_judge_1 : decode cX6_judge 1 = .ok (.iload_n 1, 1) := by decide +kernel
theorem dX6_judge_2 : decode cX6_judge 2 = .ok (.iload_n 2, 1) := by decide +kernel
theorem dX6_judge_3 : decode cX6_judge 3 = .ok (.iload_n 3, 1) := by decide +kernel
theorem dX6_judge_4 : decode cX6_judge 4 = .ok (.iload 4, 2) := by decide +kernel
theorem dX6_judge_6 : decode cX6_judge 6 = .ok (.bipush 20, 2) := by decide +kernel
theorem dX6_judge_8 : decode cX6_judge 8 = .ok (.iconst 2, 1) := by decide +kernel
theorem dX6_judge_9 : decode cX6_judge 9 = .ok (.iconst 1, 1) := by decide +kernel
theorem dX6_judge_10 : decode cX6_judge 10 = .ok (.invokevirtual 327, 3) := by decide +kernel
theorem dX6_judge_13 : decode cX6_judge 13 = .ok (.istore 5, 2) := by decide +kernel
theorem dX6_judge_15 : decode cX6_judge 15 = .ok (.iload 5, 2) := by decide +kernel
theorem dX6_judge_17 : decode cX6_judge 17 = .ok (.ifCond .eq 6, 3) := by decide +kernel
theorem dX6_judge_20 : decode cX6_judge 20 = .ok (.iload 5, 2) := by decide +kernel
theorem dX6_judge_22 : decode cX6_judge 22 = .ok (.ireturn, 1) := by decide +kernel
theorem dX6_judge_23 : decode cX6_judge 23 = .ok (.aload_n 0, 1) := by decide +kernel
theorem dX6_judge_24 : decode cX6_judge 24 = .ok (.invokevirtual 280, 3) := by decide +kernel
theorem dX6_judge_27 : decode cX6_judge 27 = .ok (.iconst (-1), 1) := by decide +kernel
theorem dX6_judge_28 : decode cX6_judge 28 = .ok (.istore 6, 2) := by decide +kernel
theorem dX6_judge_30 : decode cX6_judge 30 = .ok (.iconst 0, 1) := by decide +kernel
theorem dX6_judge_31 : decode cX6_judge 31 = .ok (.istore 7, 2) := by decide +kernel
theorem dX6_judge_33 : decode cX6_judge 33 = .ok (.iload 7, 2) := by decide +kernel
theorem dX6_judge_35 : decode cX6_judge 35 = .ok (.iload 4, 2) := by decide +kernel
theorem dX6_judge_37 : decode cX6_judge 37 = .ok (.if_icmp .ge 93, 3) := by decide +kernel
theorem dX6_judge_40 : decode cX6_judge 40 = .ok (.iload 6, 2) := by decide +kernel
theorem dX6_judge_42 : decode cX6_judge 42 = .ok (.iconst (-1), 1) := by decide +kernel
theorem dX6_judge_43 : decode cX6_judge 43 = .ok (.if_icmp .ne 87, 3) := by decide +kernel
theorem dX6_judge_46 : decode cX6_judge 46 = .ok (.aload_n 0, 1) := by decide +kernel
theorem dX6_judge_47 : decode cX6_judge 47 = .ok (.getfield 21, 3) := by decide +kernel
theorem dX6_judge_50 : decode cX6_judge 50 = .ok (.iload_n 3, 1) := by decide +kernel
theorem dX6_judge_51 : decode cX6_judge 51 = .ok (.aaload, 1) := by decide +kernel
theorem dX6_judge_52 : decode cX6_judge 52 = .ok (.iconst 2, 1) := by decide +kernel
theorem dX6_judge_53 : decode cX6_judge 53 = .ok (.iload 7, 2) := by decide +kernel
theorem dX6_judge_55 : decode cX6_judge 55 = .ok (.imul, 1) := by decide +kernel
theorem dX6_judge_56 : decode cX6_judge 56 = .ok (.laload, 1) := by decide +kernel
theorem dX6_judge_57 : decode cX6_judge 57 = .ok (.lstore 8, 2) := by decide +kernel
theorem dX6_judge_59 : decode cX6_judge 59 = .ok (.lload 8, 2) := by decide +kernel
theorem dX6_judge_61 : decode cX6_judge 61 = .ok (.lconst 0, 1) := by decide +kernel
theorem dX6_judge_62 : decode cX6_judge 62 = .ok (.aload_n 0, 1) := by decide +kernel
theorem dX6_judge_63 : decode cX6_judge 63 = .ok (.getfield 89, 3) := by decide +kernel
theorem dX6_judge_66 : decode cX6_judge 66 = .ok (.iconst 1, 1) := by decide +kernel
theorem dX6_judge_67 : decode cX6_judge 67 = .ok (.isub, 1) := by decide +kernel
theorem dX6_judge_68 : decode cX6_judge 68 = .ok (.i2l, 1) := by decide +kernel
theorem dX6_judge_69 : decode cX6_judge 69 = .ok (.invokestatic 92, 3) := by decide +kernel
theorem dX6_judge_72 : decode cX6_judge 72 = .ok (.ifCond .eq 32, 3) := by decide +kernel
theorem dX6_judge_75 : decode cX6_judge 75 = .ok (.aload_n 0, 1) := by decide +kernel
theorem dX6_judge_76 : decode cX6_judge 76 = .ok (.lload 8, 2) := by decide +kernel
theorem dX6_judge_78 : decode cX6_judge 78 = .ok (.l2i, 1) := by decide +kernel
theorem dX6_judge_79 : decode cX6_judge 79 = .ok (.invokevirtual 248, 3) := by decide +kernel
theorem dX6_judge_82 : decode cX6_judge 82 = .ok (.i2l, 1) := by decide +kernel
theorem dX6_judge_83 : decode cX6_judge 83 = .ok (.aload_n 0, 1) := by decide +kernel
theorem dX6_judge_84 : decode cX6_judge 84 = .ok (.getfield 21, 3) := by decide +kernel
theorem dX6_judge_87 : decode cX6_judge 87 = .ok (.iload_n 3, 1) := by decide +kernel
theorem dX6_judge_88 : decode cX6_judge 88 = .ok (.aaload, 1) := by decide +kernel
theorem dX6_judge_89 : decode cX6_judge 89 = .ok (.iconst 2, 1) := by decide +kernel
theorem dX6_judge_90 : decode cX6_judge 90 = .ok (.iload 7, 2) := by decide +kernel
theorem dX6_judge_92 : decode cX6_judge 92 = .ok (.imul, 1) := by decide +kernel
theorem dX6_judge_93 : decode cX6_judge 93 = .ok (.iconst 1, 1) := by decide +kernel
theorem dX6_judge_94 : decode cX6_judge 94 = .ok (.iadd, 1) := by decide +kernel
theorem dX6_judge_95 : decode cX6_judge 95 = .ok (.laload, 1) := by decide +kernel
theorem dX6_judge_96 : decode cX6_judge 96 = .ok (.lcmp, 1) := by decide +kernel
theorem dX6_judge_97 : decode cX6_judge 97 = .ok (.ifCond .ne 7, 3) := by decide +kernel
theorem dX6_judge_100 : decode cX6_judge 100 = .ok (.iconst 1, 1) := by decide +kernel
theorem dX6_judge_101 : decode cX6_judge 101 = .ok (.goto 4, 3) := by decide +kernel
theorem dX6_judge_104 : decode cX6_judge 104 = .ok (.iconst 0, 1) := by decide +kernel
theorem dX6_judge_105 : decode cX6_judge 105 = .ok (.istore 10, 2) := by decide +kernel
theorem dX6_judge_107 : decode cX6_judge 107 = .ok (.iload 10, 2) := by decide +kernel
theorem dX6_judge_109 : decode cX6_judge 109 = .ok (.ifCond .eq 7, 3) := by decide +kernel
theorem dX6_judge_112 : decode cX6_judge 112 = .ok (.iconst (-1), 1) := by decide +kernel
theorem dX6_judge_113 : decode cX6_judge 113 = .ok (.goto 5, 3) := by decide +kernel
theorem dX6_judge_116 : decode cX6_judge 116 = .ok (.iload 7, 2) := by decide +kernel
theorem dX6_judge_118 : decode cX6_judge 118 = .ok (.istore 6, 2) := by decide +kernel
theorem dX6_judge_120 : decode cX6_judge 120 = .ok (.aload_n 0, 1) := by decide +kernel
theorem dX6_judge_121 : decode cX6_judge 121 = .ok (.invokevirtual 283, 3) := by decide +kernel
theorem dX6_judge_124 : decode cX6_judge 124 = .ok (.iinc 7 1, 3) := by decide +kernel
theorem dX6_judge_127 : decode cX6_judge 127 = .ok (.goto (-94), 3) := by decide +kernel
theorem dX6_judge_130 : decode cX6_judge 130 = .ok (.aload_n 0, 1) := by decide +kernel
theorem dX6_judge_131 : decode cX6_judge 131 = .ok (.invokevirtual 286, 3) := by decide +kernel
theorem dX6_judge_134 : decode cX6_judge 134 = .ok (.iload 6, 2) := by decide +kernel
theorem dX6_judge_136 : decode cX6_judge 136 = .ok (.ireturn, 1) := by decide +kernel
theorem dX6_shouts_0 : decode cX6_shouts 0 = .ok (.aload_n 0, 1) := by decide +kernel
theorem dX6_shouts_1 : decode cX6_shouts 1 = .ok (.iload_n 1, 1) := by decide +kernel
theorem dX6_shouts_2 : decode cX6_shouts 2 = .ok (.invokevirtual 248, 3) := by decide +kernel
theorem dX6_shouts_5 : decode cX6_shouts 5 = .ok (.istore_n 2, 1) := by decide +kernel
theorem dX6_shouts_6 : decode cX6_shouts 6 = .ok (.aload_n 0, 1) := by decide +kernel
theorem dX6_shouts_7 : decode cX6_shouts 7 = .ok (.dup, 1) := by decide +kernel
theorem dX6_shouts_8 : decode cX6_shouts 8 = .ok (.getfield 346, 3) := by decide +kernel
theorem dX6_shouts_11 : decode cX6_shouts 11 = .ok (.iload_n 2, 1) := by decide +kernel
theorem dX6_shouts_12 : decode cX6_shouts 12 = .ok (.iconst 1, 1) := by decide +kernel
theorem dX6_shouts_13 : decode cX6_shouts 13 = .ok (.if_icmp .ne 7, 3) := by decide +kernel
theorem dX6_shouts_16 : decode cX6_shouts 16 = .ok (.iconst 1, 1) := by decide +kernel
theorem dX6_shouts_17 : decode cX6_shouts 17 = .ok (.goto 4, 3) := by decide +kernel
theorem dX6_shouts_20 : decode cX6_shouts 20 = .ok (.iconst 0, 1) := by decide +kernel
theorem dX6_shouts_21 : decode cX6_shouts 21 = .ok (.iadd, 1) := by decide +kernel
theorem dX6_shouts_22 : decode cX6_shouts 22 = .ok (.putfield 346, 3) := by decide +kernel
theorem dX6_shouts_25 : decode cX6_shouts 25 = .ok (.aload_n 0, 1) := by decide +kernel
theorem dX6_shouts_26 : decode cX6_shouts 26 = .ok (.dup, 1) := by decide +kernel
theorem dX6_shouts_27 : decode cX6_shouts 27 = .ok (.getfield 349, 3) := by decide +kernel
theorem dX6_shouts_30 : decode cX6_shouts 30 = .ok (.iload_n 2, 1) := by decide +kernel
theorem dX6_shouts_31 : decode cX6_shouts 31 = .ok (.iconst 1, 1) := by decide +kernel
theorem dX6_shouts_32 : decode cX6_shouts 32 = .ok (.if_icmp .ne 7, 3) := by decide +kernel
theorem dX6_shouts_35 : decode cX6_shouts 35 = .ok (.iconst 0, 1) := by decide +kernel
theorem dX6_shouts_36 : decode cX6_shouts 36 = .ok (.goto 4, 3) := by decide +kernel
theorem dX6_shouts_39 : decode cX6_shouts 39 = .ok (.iconst 1, 1) := by decide +kernel
theorem dX6_shouts_40 : decode cX6_shouts 40 = .ok (.iadd, 1) := by decide +kernel
theorem dX6_shouts_41 : decode cX6_shouts 41 = .ok (.putfield 349, 3) := by decide +kernel
theorem dX6_shouts_44 : decode cX6_shouts 44 = .ok (.iload_n 2, 1) := by decide +kernel
theorem dX6_shouts_45 : decode cX6_shouts 45 = .ok (.ireturn, 1) := by decide +kernel
theorem dX6_shout_0 : decode cX6_shout 0 = .ok (.aload_n 0, 1) := by decide +kernel
theorem dX6_shout_1 : decode cX6_shout 1 = .ok (.iload_n 1, 1) := by decide +kernel
theorem dX6_shout_2 : decode cX6_shout 2 = .ok (.iload_n 2, 1) := by decide +kernel
theorem dX6_shout_3 : decode cX6_shout 3 = .ok (.bipush 12, 2) := by decide +kernel
theorem dX6_shout_5 : decode cX6_shout 5 = .ok (.aload_n 0, 1) := by decide +kernel
theorem dX6_shout_6 : decode cX6_shout 6 = .ok (.iload_n 3, 1) := by decide +kernel
theorem dX6_shout_7 : decode cX6_shout 7 = .ok (.invokevirtual 113, 3) := by decide +kernel
theorem dX6_shout_10 : decode cX6_shout 10 = .ok (.invokevirtual 256, 3) := by decide +kernel
theorem dX6_shout_13 : decode cX6_shout 13 = .ok (.istore 4, 2) := by decide +kernel
theorem dX6_shout_15 : decode cX6_shout 15 = .ok (.iload 4, 2) := by decide +kernel
theorem dX6_shout_17 : decode cX6_shout 17 = .ok (.ifCond .eq 8, 3) := by decide +kernel
theorem dX6_shout_20 : decode cX6_shout 20 = .ok (.iload 4, 2) := by decide +kernel
theorem dX6_shout_22 : decode cX6_shout 22 = .ok (.goto 8, 3) := by decide +kernel
theorem dX6_shout_25 : decode cX6_shout 25 = .ok (.aload_n 0, 1) := by decide +kernel
theorem dX6_shout_26 : decode cX6_shout 26 = .ok (.iload_n 3, 1) := by decide +kernel
theorem dX6_shout_27 : decode cX6_shout 27 = .ok (.invokevirtual 352, 3) := by decide +kernel
theorem dX6_shout_30 : decode cX6_shout 30 = .ok (.ireturn, 1) := by decide +kernel
theorem dX6_days_0 : decode cX6_days 0 = .ok (.iload_n 1, 1) := by decide +kernel
theorem dX6_days_1 : decode cX6_days 1 = .ok (.i2l, 1) := by decide +kernel
theorem dX6_days_2 : decode cX6_days 2 = .ok (.lconst 1, 1) := by decide +kernel
theorem dX6_days_3 : decode cX6_days 3 = .ok (.ldc2_w 289, 3) := by decide +kernel
theorem dX6_days_6 : decode cX6_days 6 = .ok (.invokestatic 92, 3) := by decide +kernel
theorem dX6_days_9 : decode cX6_days 9 = .ok (.ifCond .ne 10, 3) := by decide +kernel
theorem dX6_days_12 : decode cX6_days 12 = .ok (.aload_n 0, 1) := by decide +kernel
theorem dX6_days_13 : decode cX6_days 13 = .ok (.bipush (-2), 2) := by decide +kernel
theorem dX6_days_15 : decode cX6_days 15 = .ok (.invokevirtual 102, 3) := by decide +kernel
theorem dX6_days_18 : decode cX6_days 18 = .ok (.ireturn, 1) := by decide +kernel
theorem dX6_days_19 : decode cX6_days 19 = .ok (.iconst 0, 1) := by decide +kernel
theorem dX6_days_20 : decode cX6_days 20 = .ok (.istore_n 2, 1) := by decide +kernel
theorem dX6_days_21 : decode cX6_days 21 = .ok (.iload_n 2, 1) := by decide +kernel
theorem dX6_days_22 : decode cX6_days 22 = .ok (.iload_n 1, 1) := by decide +kernel
theorem dX6_days_23 : decode cX6_days 23 = .ok (.if_icmp .ge 13, 3) := by decide +kernel
theorem dX6_days_26 : decode cX6_days 26 = .ok (.aload_n 0, 1) := by decide +kernel
theorem dX6_days_27 : decode cX6_days 27 = .ok (.invokevirtual 283, 3) := by decide +kernel
theorem dX6_days_30 : decode cX6_days 30 = .ok (.iinc 2 1, 3) := by decide +kernel
theorem dX6_days_33 : decode cX6_days 33 = .ok (.goto (-12), 3) := by decide +kernel
theorem dX6_days_36 : decode cX6_days 36 = .ok (.aload_n 0, 1) := by decide +kernel
theorem dX6_days_37 : decode cX6_days 37 = .ok (.getfield 37, 3) := by decide +kernel
theorem dX6_days_40 : decode cX6_days 40 = .ok (.ireturn, 1) := by decide +kernel
theorem dX6_draw_0 : decode cX6_draw 0 = .ok (.aload_n 0, 1) := by decide +kernel
theorem dX6_draw_1 : decode cX6_draw 1 = .ok (.aload_n 0, 1) := by decide +kernel
theorem dX6_draw_2 : decode cX6_draw 2 = .ok (.getfield 56, 3) := by decide +kernel
theorem dX6_draw_5 : decode cX6_draw 5 = .ok (.ldc_w 355, 3) := by decide +kernel
theorem dX6_draw_8 : decode cX6_draw 8 = .ok (.imul, 1) := by decide +kernel
theorem dX6_draw_9 : decode cX6_draw 9 = .ok (.sipush 12345, 3) := by decide +kernel
theorem dX6_draw_12 : decode cX6_draw 12 = .ok (.iadd, 1) := by decide +kernel
theorem dX6_draw_13 : decode cX6_draw 13 = .ok (.putfield 56, 3) := by decide +kernel
theorem dX6_draw_16 : decode cX6_draw 16 = .ok (.aload_n 0, 1) := by decide +kernel
theorem dX6_draw_17 : decode cX6_draw 17 = .ok (.getfield 56, 3) := by decide +kernel
theorem dX6_draw_20 : decode cX6_draw 20 = .ok (.bipush 16, 2) := by decide +kernel
theorem dX6_draw_22 : decode cX6_draw 22 = .ok (.iushr, 1) := by decide +kernel
theorem dX6_draw_23 : decode cX6_draw 23 = .ok (.iload_n 1, 1) := by decide +kernel
theorem dX6_draw_24 : decode cX6_draw 24 = .ok (.irem, 1) := by decide +kernel
theorem dX6_draw_25 : decode cX6_draw 25 = .ok (.ireturn, 1) := by decide +kernel
theorem dX6_drawn_0 : decode cX6_drawn 0 = .ok (.aload_n 0, 1) := by decide +kernel
theorem dX6_drawn_1 : decode cX6_drawn 1 = .ok (.iload_n 1, 1) := by decide +kernel
theorem dX6_drawn_2 : decode cX6_drawn 2 = .ok (.iload_n 2, 1) := by decide +kernel
theorem dX6_drawn_3 : decode cX6_drawn 3 = .ok (.bipush 12, 2) := by decide +kernel
theorem dX6_drawn_5 : decode cX6_drawn 5 = .ok (.iload_n 3, 1) := by decide +kernel
theorem dX6_drawn_6 : decode cX6_drawn 6 = .ok (.i2l, 1) := by decide +kernel
theorem dX6_drawn_7 : decode cX6_drawn 7 = .ok (.lconst 1, 1) := by decide +kernel
theorem dX6_drawn_8 : decode cX6_drawn 8 = .ok (.ldc2_w 100, 3) := by decide +kernel
theorem dX6_drawn_11 : decode cX6_drawn 11 = .ok (.invokestatic 92, 3) := by decide +kernel
theorem dX6_drawn_14 : decode cX6_drawn 14 = .ok (.invokevirtual 256, 3) := by decide +kernel
theorem dX6_drawn_17 : decode cX6_drawn 17 = .ok (.istore 4, 2) := by decide +kernel
theorem dX6_drawn_19 : decode cX6_drawn 19 = .ok (.iload 4, 2) := by decide +kernel
theorem dX6_drawn_21 : decode cX6_drawn 21 = .ok (.ifCond .eq 6, 3) := by decide +kernel
theorem dX6_drawn_24 : decode cX6_drawn 24 = .ok (.iload 4, 2) := by decide +kernel
theorem dX6_drawn_26 : decode cX6_drawn 26 = .ok (.ireturn, 1) := by decide +kernel
theorem dX6_drawn_27 : decode cX6_drawn 27 = .ok (.aload_n 0, 1) := by decide +kernel
theorem dX6_drawn_28 : decode cX6_drawn 28 = .ok (.getfield 89, 3) := by decide +kernel
theorem dX6_drawn_31 : decode cX6_drawn 31 = .ok (.ifCond .ne 10, 3) := by decide +kernel
theorem dX6_drawn_34 : decode cX6_drawn 34 = .ok (.aload_n 0, 1) := by decide +kernel
theorem dX6_drawn_35 : decode cX6_drawn 35 = .ok (.bipush (-5), 2) := by decide +kernel
theorem dX6_drawn_37 : decode cX6_drawn 37 = .ok (.invokevirtual 102, 3) := by decide +kernel
theorem dX6_drawn_40 : decode cX6_drawn 40 = .ok (.ireturn, 1) := by decide +kernel
theorem dX6_drawn_41 : decode cX6_drawn 41 = .ok (.iconst 0, 1) := by decide +kernel
theorem dX6_drawn_42 : decode cX6_drawn 42 = .ok (.istore 5, 2) := by decide +kernel
theorem dX6_drawn_44 : decode cX6_drawn 44 = .ok (.iconst 0, 1) := by decide +kernel
theorem dX6_drawn_45 : decode cX6_drawn 45 = .ok (.istore 6, 2) := by decide +kernel
theorem dX6_drawn_47 : decode cX6_drawn 47 = .ok (.iload 6, 2) := by decide +kernel
theorem dX6_drawn_49 : decode cX6_drawn 49 = .ok (.iload_n 3, 1) := by decide +kernel
theorem dX6_drawn_50 : decode cX6_drawn 50 = .ok (.if_icmp .ge 49, 3) := by decide +kernel
theorem dX6_drawn_53 : decode cX6_drawn 53 = .ok (.aload_n 0, 1) := by decide +kernel
theorem dX6_drawn_54 : decode cX6_drawn 54 = .ok (.aload_n 0, 1) := by decide +kernel
theorem dX6_drawn_55 : decode cX6_drawn 55 = .ok (.bipush 10, 2) := by decide +kernel
theorem dX6_drawn_57 : decode cX6_drawn 57 = .ok (.invokevirtual 356, 3) := by decide +kernel
theorem dX6_drawn_60 : decode cX6_drawn 60 = .ok (.putfield 41, 3) := by decide +kernel
theorem dX6_drawn_63 : decode cX6_drawn 63 = .ok (.iload 5, 2) := by decide +kernel
theorem dX6_drawn_65 : decode cX6_drawn 65 = .ok (.aload_n 0, 1) := by decide +kernel
theorem dX6_drawn_66 : decode cX6_drawn 66 = .ok (.aload_n 0, 1) := by decide +kernel
theorem dX6_drawn_67 : decode cX6_drawn 67 = .ok (.aload_n 0, 1) := by decide +kernel
theorem dX6_drawn_68 : decode cX6_drawn 68 = .ok (.getfield 89, 3) := by decide +kernel
theorem dX6_drawn_71 : decode cX6_drawn 71 = .ok (.invokevirtual 356, 3) := by decide +kernel
theorem dX6_drawn_74 : decode cX6_drawn 74 = .ok (.invokevirtual 352, 3) := by decide +kernel
theorem dX6_drawn_77 : decode cX6_drawn 77 = .ok (.iconst 1, 1) := by decide +kernel
theorem dX6_drawn_78 : decode cX6_drawn 78 = .ok (.if_icmp .ne 7, 3) := by decide +kernel
theorem dX6_drawn_81 : decode cX6_drawn 81 = .ok (.iconst 1, 1) := by decide +kernel
theorem dX6_drawn_82 : decode cX6_drawn 82 = .ok (.goto 4, 3) := by decide +kernel
theorem dX6_drawn_85 : decode cX6_drawn 85 = .ok (.iconst 0, 1) := by decide +kernel
theorem dX6_drawn_86 : decode cX6_drawn 86 = .ok (.iadd, 1) := by decide +kernel
theorem dX6_drawn_87 : decode cX6_drawn 87 = .ok (.istore 5, 2) := by decide +kernel
theorem dX6_drawn_89 : decode cX6_drawn 89 = .ok (.aload_n 0, 1) := by decide +kernel
theorem dX6_drawn_90 : decode cX6_drawn 90 = .ok (.invokevirtual 283, 3) := by decide +kernel
theorem dX6_drawn_93 : decode cX6_drawn 93 = .ok (.iinc 6 1, 3) := by decide +kernel
theorem dX6_drawn_96 : decode cX6_drawn 96 = .ok (.goto (-49), 3) := by decide +kernel
theorem dX6_drawn_99 : decode cX6_drawn 99 = .ok (.iload 5, 2) := by decide +kernel
theorem dX6_drawn_101 : decode cX6_drawn 101 = .ok (.ireturn, 1) := by decide +kernel
theorem dX6_seed_0 : decode cX6_seed 0 = .ok (.aload_n 0, 1) := by decide +kernel
theorem dX6_seed_1 : decode cX6_seed 1 = .ok (.getfield 56, 3) := by decide +kernel
theorem dX6_seed_4 : decode cX6_seed 4 = .ok (.istore_n 2, 1) := by decide +kernel
theorem dX6_seed_5 : decode cX6_seed 5 = .ok (.aload_n 0, 1) := by decide +kernel
theorem dX6_seed_6 : decode cX6_seed 6 = .ok (.iload_n 1, 1) := by decide +kernel
theorem dX6_seed_7 : decode cX6_seed 7 = .ok (.putfield 56, 3) := by decide +kernel
theorem dX6_seed_10 : decode cX6_seed 10 = .ok (.iload_n 2, 1) := by decide +kernel
theorem dX6_seed_11 : decode cX6_seed 11 = .ok (.ireturn, 1) := by decide +kernel
theorem dX6_copied_0 : decode cX6_copied 0 = .ok (.iconst 0, 1) := by decide +kernel
theorem dX6_copied_1 : decode cX6_copied 1 = .ok (.istore_n 2, 1) := by decide +kernel
theorem dX6_copied_2 : decode cX6_copied 2 = .ok (.iload_n 2, 1) := by decide +kernel
theorem dX6_copied_3 : decode cX6_copied 3 = .ok (.aload_n 0, 1) := by decide +kernel
theorem dX6_copied_4 : decode cX6_copied 4 = .ok (.arraylength, 1) := by decide +kernel
theorem dX6_copied_5 : decode cX6_copied 5 = .ok (.if_icmp .ge 15, 3) := by decide +kernel
theorem dX6_copied_8 : decode cX6_copied 8 = .ok (.aload_n 1, 1) := by decide +kernel
theorem dX6_copied_9 : decode cX6_copied 9 = .ok (.iload_n 2, 1) := by decide +kernel
theorem dX6_copied_10 : decode cX6_copied 10 = .ok (.aload_n 0, 1) := by decide +kernel
theorem dX6_copied_11 : decode cX6_copied 11 = .ok (.iload_n 2, 1) := by decide +kernel
theorem dX6_copied_12 : decode cX6_copied 12 = .ok (.iaload, 1) := by decide +kernel
theorem dX6_copied_13 : decode cX6_copied 13 = .ok (.iastore, 1) := by decide +kernel
theorem dX6_copied_14 : decode cX6_copied 14 = .ok (.iinc 2 1, 3) := by decide +kernel
theorem dX6_copied_17 : decode cX6_copied 17 = .ok (.goto (-15), 3) := by decide +kernel
theorem dX6_copied_20 : decode cX6_copied 20 = .ok (.return_, 1) := by decide +kernel
theorem dX6_takeFrom_0 : decode cX6_takeFrom 0 = .ok (.aload_n 0, 1) := by decide +kernel
theorem dX6_takeFrom_1 : decode cX6_takeFrom 1 = .ok (.aload_n 1, 1) := by decide +kernel
theorem dX6_takeFrom_2 : decode cX6_takeFrom 2 = .ok (.getfield 37, 3) := by decide +kernel
theorem dX6_takeFrom_5 : decode cX6_takeFrom 5 = .ok (.putfield 37, 3) := by decide +kernel
theorem dX6_takeFrom_8 : decode cX6_takeFrom 8 = .ok (.aload_n 0, 1) := by decide +kernel
theorem dX6_takeFrom_9 : decode cX6_takeFrom 9 = .ok (.aload_n 1, 1) := by decide +kernel
theorem dX6_takeFrom_10 : decode cX6_takeFrom 10 = .ok (.getfield 41, 3) := by decide +kernel
theorem dX6_takeFrom_13 : decode cX6_takeFrom 13 = .ok (.putfield 41, 3) := by decide +kernel
theorem dX6_takeFrom_16 : decode cX6_takeFrom 16 = .ok (.aload_n 0, 1) := by decide +kernel
theorem dX6_takeFrom_17 : decode cX6_takeFrom 17 = .ok (.aload_n 1, 1) := by decide +kernel
theorem dX6_takeFrom_18 : decode cX6_takeFrom 18 = .ok (.getfield 141, 3) := by decide +kernel
theorem dX6_takeFrom_21 : decode cX6_takeFrom 21 = .ok (.putfield 141, 3) := by decide +kernel
theorem dX6_takeFrom_24 : decode cX6_takeFrom 24 = .ok (.aload_n 0, 1) := by decide +kernel
theorem dX6_takeFrom_25 : decode cX6_takeFrom 25 = .ok (.aload_n 1, 1) := by decide +kernel
theorem dX6_takeFrom_26 : decode cX6_takeFrom 26 = .ok (.getfield 44, 3) := by decide +kernel
theorem dX6_takeFrom_29 : decode cX6_takeFrom 29 = .ok (.putfield 44, 3) := by decide +kernel
theorem dX6_takeFrom_32 : decode cX6_takeFrom 32 = .ok (.aload_n 0, 1) := by decide +kernel
theorem dX6_takeFrom_33 : decode cX6_takeFrom 33 = .ok (.aload_n 1, 1) := by decide +kernel
theorem dX6_takeFrom_34 : decode cX6_takeFrom 34 = .ok (.getfield 144, 3) := by decide +kernel
theorem dX6_takeFrom_37 : decode cX6_takeFrom 37 = .ok (.putfield 144, 3) := by decide +kernel
theorem dX6_takeFrom_40 : decode cX6_takeFrom 40 = .ok (.aload_n 0, 1) := by decide +kernel
theorem dX6_takeFrom_41 : decode cX6_takeFrom 41 = .ok (.aload_n 1, 1) := by decide +kernel
theorem dX6_takeFrom_42 : decode cX6_takeFrom 42 = .ok (.getfield 346, 3) := by decide +kernel
theorem dX6_takeFrom_45 : decode cX6_takeFrom 45 = .ok (.putfield 346, 3) := by decide +kernel
theorem dX6_takeFrom_48 : decode cX6_takeFrom 48 = .ok (.aload_n 0, 1) := by decide +kernel
theorem dX6_takeFrom_49 : decode cX6_takeFrom 49 = .ok (.aload_n 1, 1) := by decide +kernel
theorem dX6_takeFrom_50 : decode cX6_takeFrom 50 = .ok (.getfield 349, 3) := by decide +kernel
theorem dX6_takeFrom_53 : decode cX6_takeFrom 53 = .ok (.putfield 349, 3) := by decide +kernel
theorem dX6_takeFrom_56 : decode cX6_takeFrom 56 = .ok (.aload_n 0, 1) := by decide +kernel
theorem dX6_takeFrom_57 : decode cX6_takeFrom 57 = .ok (.aload_n 1, 1) := by decide +kernel
theorem dX6_takeFrom_58 : decode cX6_takeFrom 58 = .ok (.getfield 89, 3) := by decide +kernel
theorem dX6_takeFrom_61 : decode cX6_takeFrom 61 = .ok (.putfield 89, 3) := by decide +kernel
theorem dX6_takeFrom_64 : decode cX6_takeFrom 64 = .ok (.aload_n 1, 1) := by decide +kernel
theorem dX6_takeFrom_65 : decode cX6_takeFrom 65 = .ok (.getfield 47, 3) := by decide +kernel
theorem dX6_takeFrom_68 : decode cX6_takeFrom 68 = .ok (.aload_n 0, 1) := by decide +kernel
theorem dX6_takeFrom_69 : decode cX6_takeFrom 69 = .ok (.getfield 47, 3) := by decide +kernel
theorem dX6_takeFrom_72 : decode cX6_takeFrom 72 = .ok (.invokestatic 359, 3) := by decide +kernel
theorem dX6_takeFrom_75 : decode cX6_takeFrom 75 = .ok (.aload_n 1, 1) := by decide +kernel
theorem dX6_takeFrom_76 : decode cX6_takeFrom 76 = .ok (.getfield 50, 3) := by decide +kernel
theorem dX6_takeFrom_79 : decode cX6_takeFrom 79 = .ok (.aload_n 0, 1) := by decide +kernel
theorem dX6_takeFrom_80 : decode cX6_takeFrom 80 = .ok (.getfield 50, 3) := by decide +kernel
theorem dX6_takeFrom_83 : decode cX6_takeFrom 83 = .ok (.invokestatic 359, 3) := by decide +kernel
theorem dX6_takeFrom_86 : decode cX6_takeFrom 86 = .ok (.aload_n 1, 1) := by decide +kernel
theorem dX6_takeFrom_87 : decode cX6_takeFrom 87 = .ok (.getfield 53, 3) := by decide +kernel
theorem dX6_takeFrom_90 : decode cX6_takeFrom 90 = .ok (.aload_n 0, 1) := by decide +kernel
theorem dX6_takeFrom_91 : decode cX6_takeFrom 91 = .ok (.getfield 53, 3) := by decide +kernel
theorem dX6_takeFrom_94 : decode cX6_takeFrom 94 = .ok (.invokestatic 359, 3) := by decide +kernel
theorem dX6_takeFrom_97 : decode cX6_takeFrom 97 = .ok (.aload_n 0, 1) := by decide +kernel
theorem dX6_takeFrom_98 : decode cX6_takeFrom 98 = .ok (.aload_n 1, 1) := by decide +kernel
theorem dX6_takeFrom_99 : decode cX6_takeFrom 99 = .ok (.getfield 56, 3) := by decide +kernel
theorem dX6_takeFrom_102 : decode cX6_takeFrom 102 = .ok (.putfield 56, 3) := by decide +kernel
theorem dX6_takeFrom_105 : decode cX6_takeFrom 105 = .ok (.return_, 1) := by decide +kernel
theorem dX6_image_0 : decode cX6_image 0 = .ok (.aload_n 0, 1) := by decide +kernel
theorem dX6_image_1 : decode cX6_image 1 = .ok (.getfield 363, 3) := by decide +kernel
theorem dX6_image_4 : decode cX6_image 4 = .ok (.ifnonnull 14, 3) := by decide +kernel
theorem dX6_image_7 : decode cX6_image 7 = .ok (.aload_n 0, 1) := by decide +kernel
theorem dX6_image_8 : decode cX6_image 8 = .ok (.new 8, 3) := by decide +kernel
theorem dX6_image_11 : decode cX6_image 11 = .ok (.dup, 1) := by decide +kernel
theorem dX6_image_12 : decode cX6_image 12 = .ok (.invokespecial 219, 3) := by decide +kernel
theorem dX6_image_15 : decode cX6_image 15 = .ok (.putfield 363, 3) := by decide +kernel
theorem dX6_image_18 : decode cX6_image 18 = .ok (.aload_n 0, 1) := by decide +kernel
theorem dX6_image_19 : decode cX6_image 19 = .ok (.getfield 363, 3) := by decide +kernel
theorem dX6_image_22 : decode cX6_image 22 = .ok (.aload_n 0, 1) := by decide +kernel
theorem dX6_image_23 : decode cX6_image 23 = .ok (.invokevirtual 220, 3) := by decide +kernel
theorem dX6_image_26 : decode cX6_image 26 = .ok (.iconst 1, 1) := by decide +kernel
theorem dX6_image_27 : decode cX6_image 27 = .ok (.ireturn, 1) := by decide +kernel
theorem dX6_again_0 : decode cX6_again 0 = .ok (.aload_n 0, 1) := by decide +kernel
theorem dX6_again_1 : decode cX6_again 1 = .ok (.getfield 363, 3) := by decide +kernel
theorem dX6_again_4 : decode cX6_again 4 = .ok (.ifnonnull 10, 3) := by decide +kernel
theorem dX6_again_7 : decode cX6_again 7 = .ok (.aload_n 0, 1) := by decide +kernel
theorem dX6_again_8 : decode cX6_again 8 = .ok (.bipush (-5), 2) := by decide +kernel
theorem dX6_again_10 : decode cX6_again 10 = .ok (.invokevirtual 102, 3) := by decide +kernel
theorem dX6_again_13 : decode cX6_again 13 = .ok (.ireturn, 1) := by decide +kernel
theorem dX6_again_14 : decode cX6_again 14 = .ok (.aload_n 0, 1) := by decide +kernel
theorem dX6_again_15 : decode cX6_again 15 = .ok (.aload_n 0, 1) := by decide +kernel
theorem dX6_again_16 : decode cX6_again 16 = .ok (.getfield 363, 3) := by decide +kernel
theorem dX6_again_19 : decode cX6_again 19 = .ok (.invokevirtual 220, 3) := by decide +kernel
theorem dX6_again_22 : decode cX6_again 22 = .ok (.iconst 0, 1) := by decide +kernel
theorem dX6_again_23 : decode cX6_again 23 = .ok (.istore_n 1, 1) := by decide +kernel
theorem dX6_again_24 : decode cX6_again 24 = .ok (.iload_n 1, 1) := by decide +kernel
theorem dX6_again_25 : decode cX6_again 25 = .ok (.bipush 8, 2) := by decide +kernel
theorem dX6_again_27 : decode cX6_again 27 = .ok (.if_icmp .ge 39, 3) := by decide +kernel
theorem dX6_again_30 : decode cX6_again 30 = .ok (.aload_n 0, 1) := by decide +kernel
theorem dX6_again_31 : decode cX6_again 31 = .ok (.getfield 7, 3) := by decide +kernel
theorem dX6_again_34 : decode cX6_again 34 = .ok (.iload_n 1, 1) := by decide +kernel
theorem dX6_again_35 : decode cX6_again 35 = .ok (.iaload, 1) := by decide +kernel
theorem dX6_again_36 : decode cX6_again 36 = .ok (.iconst 2, 1) := by decide +kernel
theorem dX6_again_37 : decode cX6_again 37 = .ok (.if_icmp .ne 23, 3) := by decide +kernel
theorem dX6_again_40 : decode cX6_again 40 = .ok (.aload_n 0, 1) := by decide +kernel
theorem dX6_again_41 : decode cX6_again 41 = .ok (.getfield 28, 3) := by decide +kernel
theorem dX6_again_44 : decode cX6_again 44 = .ok (.iload_n 1, 1) := by decide +kernel
theorem dX6_again_45 : decode cX6_again 45 = .ok (.iaload, 1) := by decide +kernel
theorem dX6_again_46 : decode cX6_again 46 = .ok (.aload_n 0, 1) := by decide +kernel
theorem dX6_again_47 : decode cX6_again 47 = .ok (.getfield 89, 3) := by decide +kernel
theorem dX6_again_50 : decode cX6_again 50 = .ok (.if_icmp .lt 10, 3) := by decide +kernel
theorem dX6_again_53 : decode cX6_again 53 = .ok (.aload_n 0, 1) := by decide +kernel
theorem dX6_again_54 : decode cX6_again 54 = .ok (.getfield 7, 3) := by decide +kernel
theorem dX6_again_57 : decode cX6_again 57 = .ok (.iload_n 1, 1) := by decide +kernel
theorem dX6_again_58 : decode cX6_again 58 = .ok (.iconst 0, 1) := by decide +kernel
theorem dX6_again_59 : decode cX6_again 59 = .ok (.iastore, 1) := by decide +kernel
theorem dX6_again_60 : decode cX6_again 60 = .ok (.iinc 1 1, 3) := by decide +kernel
theorem dX6_again_63 : decode cX6_again 63 = .ok (.goto (-39), 3) := by decide +kernel
theorem dX6_again_66 : decode cX6_again 66 = .ok (.iconst 1, 1) := by decide +kernel
theorem dX6_again_67 : decode cX6_again 67 = .ok (.ireturn, 1) := by decide +kernel
theorem dX6_status_0 : decode cX6_status 0 = .ok (.iconst 0, 1) := by decide +kernel
theorem dX6_status_1 : decode cX6_status 1 = .ok (.istore_n 2, 1) := by decide +kernel
theorem dX6_status_2 : decode cX6_status 2 = .ok (.iload_n 1, 1) := by decide +kernel
theorem dX6_status_3 : decode cX6_status 3 = .ok (.tableswitch 140 0 10 #[57, 62, 67, 72, 77, 82, 87, 92, 97, 102, 107], 57) := by decide +kernel
theorem dX6_status_60 : decode cX6_status 60 = .ok (.aload_n 0, 1) := by decide +kernel
theorem dX6_status_61 : decode cX6_status 61 = .ok (.getfield 89, 3) := by decide +kernel
theorem dX6_status_64 : decode cX6_status 64 = .ok (.ireturn, 1) := by decide +kernel
theorem dX6_status_65 : decode cX6_status 65 = .ok (.aload_n 0, 1) := by decide +kernel
theorem dX6_status_66 : decode cX6_status 66 = .ok (.getfield 37, 3) := by decide +kernel
theorem dX6_status_69 : decode cX6_status 69 = .ok (.ireturn, 1) := by decide +kernel
theorem dX6_status_70 : decode cX6_status 70 = .ok (.aload_n 0, 1) := by decide +kernel
theorem dX6_status_71 : decode cX6_status 71 = .ok (.getfield 41, 3) := by decide +kernel
theorem dX6_status_74 : decode cX6_status 74 = .ok (.ireturn, 1) := by decide +kernel
theorem dX6_status_75 : decode cX6_status 75 = .ok (.aload_n 0, 1) := by decide +kernel
theorem dX6_status_76 : decode cX6_status 76 = .ok (.getfield 141, 3) := by decide +kernel
theorem dX6_status_79 : decode cX6_status 79 = .ok (.ireturn, 1) := by decide +kernel
theorem dX6_status_80 : decode cX6_status 80 = .ok (.aload_n 0, 1) := by decide +kernel
theorem dX6_status_81 : decode cX6_status 81 = .ok (.getfield 44, 3) := by decide +kernel
theorem dX6_status_84 : decode cX6_status 84 = .ok (.ireturn, 1) := by decide +kernel
theorem dX6_status_85 : decode cX6_status 85 = .ok (.aload_n 0, 1) := by decide +kernel
theorem dX6_status_86 : decode cX6_status 86 = .ok (.getfield 144, 3) := by decide +kernel
theorem dX6_status_89 : decode cX6_status 89 = .ok (.ireturn, 1) := by decide +kernel
theorem dX6_status_90 : decode cX6_status 90 = .ok (.aload_n 0, 1) := by decide +kernel
theorem dX6_status_91 : decode cX6_status 91 = .ok (.getfield 346, 3) := by decide +kernel
theorem dX6_status_94 : decode cX6_status 94 = .ok (.ireturn, 1) := by decide +kernel
theorem dX6_status_95 : decode cX6_status 95 = .ok (.aload_n 0, 1) := by decide +kernel
theorem dX6_status_96 : decode cX6_status 96 = .ok (.getfield 349, 3) := by decide +kernel
theorem dX6_status_99 : decode cX6_status 99 = .ok (.ireturn, 1) := by decide +kernel
theorem dX6_status_100 : decode cX6_status 100 = .ok (.aload_n 0, 1) := by decide +kernel
theorem dX6_status_101 : decode cX6_status 101 = .ok (.getfield 149, 3) := by decide +kernel
theorem dX6_status_104 : decode cX6_status 104 = .ok (.ireturn, 1) := by decide +kernel
theorem dX6_status_105 : decode cX6_status 105 = .ok (.aload_n 0, 1) := by decide +kernel
theorem dX6_status_106 : decode cX6_status 106 = .ok (.getfield 56, 3) := by decide +kernel
theorem dX6_status_109 : decode cX6_status 109 = .ok (.ireturn, 1) := by decide +kernel
theorem dX6_status_110 : decode cX6_status 110 = .ok (.iconst 0, 1) := by decide +kernel
theorem dX6_status_111 : decode cX6_status 111 = .ok (.istore_n 3, 1) := by decide +kernel
theorem dX6_status_112 : decode cX6_status 112 = .ok (.iload_n 3, 1) := by decide +kernel
theorem dX6_status_113 : decode cX6_status 113 = .ok (.bipush 8, 2) := by decide +kernel
theorem dX6_status_115 : decode cX6_status 115 = .ok (.if_icmp .ge 26, 3) := by decide +kernel
theorem dX6_status_118 : decode cX6_status 118 = .ok (.iload_n 2, 1) := by decide +kernel
theorem dX6_status_119 : decode cX6_status 119 = .ok (.aload_n 0, 1) := by decide +kernel
theorem dX6_status_120 : decode cX6_status 120 = .ok (.getfield 7, 3) := by decide +kernel
theorem dX6_status_123 : decode cX6_status 123 = .ok (.iload_n 3, 1) := by decide +kernel
theorem dX6_status_124 : decode cX6_status 124 = .ok (.iaload, 1) := by decide +kernel
theorem dX6_status_125 : decode cX6_status 125 = .ok (.ifCond .eq 7, 3) := by decide +kernel
theorem dX6_status_128 : decode cX6_status 128 = .ok (.iconst 1, 1) := by decide +kernel
theorem dX6_status_129 : decode cX6_status 129 = .ok (.goto 4, 3) := by decide +kernel
theorem dX6_status_132 : decode cX6_status 132 = .ok (.iconst 0, 1) := by decide +kernel
theorem dX6_status_133 : decode cX6_status 133 = .ok (.iadd, 1) := by decide +kernel
theorem dX6_status_134 : decode cX6_status 134 = .ok (.istore_n 2, 1) := by decide +kernel
theorem dX6_status_135 : decode cX6_status 135 = .ok (.iinc 3 1, 3) := by decide +kernel
theorem dX6_status_138 : decode cX6_status 138 = .ok (.goto (-26), 3) := by decide +kernel
theorem dX6_status_141 : decode cX6_status 141 = .ok (.iload_n 2, 1) := by decide +kernel
theorem dX6_status_142 : decode cX6_status 142 = .ok (.ireturn, 1) := by decide +kernel
theorem dX6_status_143 : decode cX6_status 143 = .ok (.iload_n 1, 1) := by decide +kernel
theorem dX6_status_144 : decode cX6_status 144 = .ok (.i2l, 1) := by decide +kernel
theorem dX6_status_145 : decode cX6_status 145 = .ok (.ldc2_w 254, 3) := by decide +kernel
theorem dX6_status_148 : decode cX6_status 148 = .ok (.ldc2_w 366, 3) := by decide +kernel
theorem dX6_status_151 : decode cX6_status 151 = .ok (.invokestatic 92, 3) := by decide +kernel
theorem dX6_status_154 : decode cX6_status 154 = .ok (.ifCond .eq 15, 3) := by decide +kernel
theorem dX6_status_157 : decode cX6_status 157 = .ok (.aload_n 0, 1) := by decide +kernel
theorem dX6_status_158 : decode cX6_status 158 = .ok (.getfield 34, 3) := by decide +kernel
theorem dX6_status_161 : decode cX6_status 161 = .ok (.iload_n 1, 1) := by decide +kernel
theorem dX6_status_162 : decode cX6_status 162 = .ok (.bipush 10, 2) := by decide +kernel
theorem dX6_status_164 : decode cX6_status 164 = .ok (.isub, 1) := by decide +kernel
theorem dX6_status_165 : decode cX6_status 165 = .ok (.iaload, 1) := by decide +kernel
theorem dX6_status_166 : decode cX6_status 166 = .ok (.goto 4, 3) := by decide +kernel
theorem dX6_status_169 : decode cX6_status 169 = .ok (.iconst (-1), 1) := by decide +kernel
theorem dX6_status_170 : decode cX6_status 170 = .ok (.ireturn, 1) := by decide +kernel
