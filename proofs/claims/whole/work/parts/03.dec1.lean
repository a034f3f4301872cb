theorem dX10_sweeps_12 : decode cX10_sweeps 12 = .ok (.ireturn, 1) := by decide +kernel
theorem dX10_blocks_0 : decode cX10_blocks 0 = .ok (.aload_n 1, 1) := by decide +kernel
theorem dX10_blocks_1 : decode cX10_blocks 1 = .ok (.bipush 13, 2) := by decide +kernel
theorem dX10_blocks_3 : decode cX10_blocks 3 = .ok (.invokevirtual 7, 3) := by decide +kernel
theorem dX10_blocks_6 : decode cX10_blocks 6 = .ok (.aload_n 0, 1) := by decide +kernel
theorem dX10_blocks_7 : decode cX10_blocks 7 = .ok (.aload_n 1, 1) := by decide +kernel
theorem dX10_blocks_8 : decode cX10_blocks 8 = .ok (.iload_n 2, 1) := by decide +kernel
theorem dX10_blocks_9 : decode cX10_blocks 9 = .ok (.invokevirtual 26, 3) := by decide +kernel
theorem dX10_blocks_12 : decode cX10_blocks 12 = .ok (.aload_n 0, 1) := by decide +kernel
theorem dX10_blocks_13 : decode cX10_blocks 13 = .ok (.aload_n 1, 1) := by decide +kernel
theorem dX10_blocks_14 : decode cX10_blocks 14 = .ok (.iload_n 2, 1) := by decide +kernel
theorem dX10_blocks_15 : decode cX10_blocks 15 = .ok (.invokevirtual 29, 3) := by decide +kernel
theorem dX10_blocks_18 : decode cX10_blocks 18 = .ok (.ixor, 1) := by decide +kernel
theorem dX10_blocks_19 : decode cX10_blocks 19 = .ok (.ireturn, 1) := by decide +kernel
theorem dX11_init_0 : decode cX11_init 0 = .ok (.aload_n 0, 1) := by decide +kernel
theorem dX11_init_1 : decode cX11_init 1 = .ok (.invokespecial 3, 3) := by decide +kernel
theorem dX11_init_4 : decode cX11_init 4 = .ok (.bipush 7, 2) := by decide +kernel
theorem dX11_init_6 : decode cX11_init 6 = .ok (.anewarray 9, 3) := by decide +kernel
theorem dX11_init_9 : decode cX11_init 9 = .ok (.dup, 1) := by decide +kernel
theorem dX11_init_10 : decode cX11_init 10 = .ok (.iconst 0, 1) := by decide +kernel
theorem dX11_init_11 : decode cX11_init 11 = .ok (.new 9, 3) := by decide +kernel
theorem dX11_init_14 : decode cX11_init 14 = .ok (.dup, 1) := by decide +kernel
theorem dX11_init_15 : decode cX11_init 15 = .ok (.invokespecial 11, 3) := by decide +kernel
theorem dX11_init_18 : decode cX11_init 18 = .ok (.aastore, 1) := by decide +kernel
theorem dX11_init_19 : decode cX11_init 19 = .ok (.dup, 1) := by decide +kernel
theorem dX11_init_20 : decode cX11_init 20 = .ok (.iconst 1, 1) := by decide +kernel
theorem dX11_init_21 : decode cX11_init 21 = .ok (.new 12, 3) := by decide +kernel
theorem dX11_init_24 : decode cX11_init 24 = .ok (.dup, 1) := by decide +kernel
theorem dX11_init_25 : decode cX11_init 25 = .ok (.invokespecial 14, 3) := by decide +kernel
theorem dX11_init_28 : decode cX11_init 28 = .ok (.aastore, 1) := by decide +kernel
theorem dX11_init_29 : decode cX11_init 29 = .ok (.dup, 1) := by decide +kernel
theorem dX11_init_30 : decode cX11_init 30 = .ok (.iconst 2, 1) := by decide +kernel
theorem dX11_init_31 : decode cX11_init 31 = .ok (.new 15, 3) := by decide +kernel
theorem dX11_init_34 : decode cX11_init 34 = .ok (.dup, 1) := by decide +kernel
theorem dX11_init_35 : decode cX11_init 35 = .ok (.invokespecial 17, 3) := by decide +kernel
theorem dX11_init_38 : decode cX11_init 38 = .ok (.aastore, 1) := by decide +kernel
theorem dX11_init_39 : decode cX11_init 39 = .ok (.dup, 1) := by decide +kernel
theorem dX11_init_40 : decode cX11_init 40 = .ok (.iconst 3, 1) := by decide +kernel
theorem dX11_init_41 : decode cX11_init 41 = .ok (.new 18, 3) := by decide +kernel
theorem dX11_init_44 : decode cX11_init 44 = .ok (.dup, 1) := by decide +kernel
theorem dX11_init_45 : decode cX11_init 45 = .ok (.invokespecial 20, 3) := by decide +kernel
theorem dX11_init_48 : decode cX11_init 48 = .ok (.aastore, 1) := by decide +kernel
theorem dX11_init_49 : decode cX11_init 49 = .ok (.dup, 1) := by decide +kernel
theorem dX11_init_50 : decode cX11_init 50 = .ok (.iconst 4, 1) := by decide +kernel
theorem dX11_init_51 : decode cX11_init 51 = .ok (.new 21, 3) := by decide +kernel
theorem dX11_init_54 : decode cX11_init 54 = .ok (.dup, 1) := by decide +kernel
theorem dX11_init_55 : decode cX11_init 55 = .ok (.invokespecial 23, 3) := by decide +kernel
theorem dX11_init_58 : decode cX11_init 58 = .ok (.aastore, 1) := by decide +kernel
theorem dX11_init_59 : decode cX11_init 59 = .ok (.dup, 1) := by decide +kernel
theorem dX11_init_60 : decode cX11_init 60 = .ok (.iconst 5, 1) := by decide +kernel
theorem dX11_init_61 : decode cX11_init 61 = .ok (.new 24, 3) := by decide +kernel
theorem dX11_init_64 : decode cX11_init 64 = .ok (.dup, 1) := by decide +kernel
theorem dX11_init_65 : decode cX11_init 65 = .ok (.invokespecial 26, 3) := by decide +kernel
theorem dX11_init_68 : decode cX11_init 68 = .ok (.aastore, 1) := by decide +kernel
theorem dX11_init_69 : decode cX11_init 69 = .ok (.dup, 1) := by decide +kernel
theorem dX11_init_70 : decode cX11_init 70 = .ok (.bipush 6, 2) := by decide +kernel
theorem dX11_init_72 : decode cX11_init 72 = .ok (.new 27, 3) := by decide +kernel
theorem dX11_init_75 : decode cX11_init 75 = .ok (.dup, 1) := by decide +kernel
theorem dX11_init_76 : decode cX11_init 76 = .ok (.invokespecial 29, 3) := by decide +kernel
theorem dX11_init_79 : decode cX11_init 79 = .ok (.aastore, 1) := by decide +kernel
theorem dX11_init_80 : decode cX11_init 80 = .ok (.astore_n 1, 1) := by decide +kernel
theorem dX11_init_81 : decode cX11_init 81 = .ok (.new 30, 3) := by decide +kernel
theorem dX11_init_84 : decode cX11_init 84 = .ok (.dup, 1) := by decide +kernel
theorem dX11_init_85 : decode cX11_init 85 = .ok (.iconst 0, 1) := by decide +kernel
theorem dX11_init_86 : decode cX11_init 86 = .ok (.iconst 0, 1) := by decide +kernel
theorem dX11_init_87 : decode cX11_init 87 = .ok (.newarray .int, 2) := by decide +kernel
theorem dX11_init_89 : decode cX11_init 89 = .ok (.invokespecial 32, 3) := by decide +kernel
theorem dX11_init_92 : decode cX11_init 92 = .ok (.astore_n 2, 1) := by decide +kernel
theorem dX11_init_93 : decode cX11_init 93 = .ok (.new 30, 3) := by decide +kernel
theorem dX11_init_96 : decode cX11_init 96 = .ok (.dup, 1) := by decide +kernel
theorem dX11_init_97 : decode cX11_init 97 = .ok (.iconst 1, 1) := by decide +kernel
theorem dX11_init_98 : decode cX11_init 98 = .ok (.iconst 0, 1) := by decide +kernel
theorem dX11_init_99 : decode cX11_init 99 = .ok (.newarray .int, 2) := by decide +kernel
theorem dX11_init_101 : decode cX11_init 101 = .ok (.invokespecial 32, 3) := by decide +kernel
theorem dX11_init_104 : decode cX11_init 104 = .ok (.astore_n 3, 1) := by decide +kernel
theorem dX11_init_105 : decode cX11_init 105 = .ok (.aload_n 0, 1) := by decide +kernel
theorem dX11_init_106 : decode cX11_init 106 = .ok (.new 35, 3) := by decide +kernel
theorem dX11_init_109 : decode cX11_init 109 = .ok (.dup, 1) := by decide +kernel
theorem dX11_init_110 : decode cX11_init 110 = .ok (.aload_n 1, 1) := by decide +kernel
theorem dX11_init_111 : decode cX11_init 111 = .ok (.aload_n 2, 1) := by decide +kernel
theorem dX11_init_112 : decode cX11_init 112 = .ok (.aload_n 3, 1) := by decide +kernel
theorem dX11_init_113 : decode cX11_init 113 = .ok (.invokespecial 37, 3) := by decide +kernel
theorem dX11_init_116 : decode cX11_init 116 = .ok (.putfield 40, 3) := by decide +kernel
theorem dX11_init_119 : decode cX11_init 119 = .ok (.aload_n 0, 1) := by decide +kernel
theorem dX11_init_120 : decode cX11_init 120 = .ok (.new 35, 3) := by decide +kernel
theorem dX11_init_123 : decode cX11_init 123 = .ok (.dup, 1) := by decide +kernel
theorem dX11_init_124 : decode cX11_init 124 = .ok (.aload_n 1, 1) := by decide +kernel
theorem dX11_init_125 : decode cX11_init 125 = .ok (.aload_n 2, 1) := by decide +kernel
theorem dX11_init_126 : decode cX11_init 126 = .ok (.aload_n 3, 1) := by decide +kernel
theorem dX11_init_127 : decode cX11_init 127 = .ok (.invokespecial 37, 3) := by decide +kernel
theorem dX11_init_130 : decode cX11_init 130 = .ok (.putfield 44, 3) := by decide +kernel
theorem dX11_init_133 : decode cX11_init 133 = .ok (.aload_n 0, 1) := by decide +kernel
theorem dX11_init_134 : decode cX11_init 134 = .ok (.new 35, 3) := by decide +kernel
theorem dX11_init_137 : decode cX11_init 137 = .ok (.dup, 1) := by decide +kernel
theorem dX11_init_138 : decode cX11_init 138 = .ok (.aload_n 1, 1) := by decide +kernel
theorem dX11_init_139 : decode cX11_init 139 = .ok (.aload_n 2, 1) := by decide +kernel
theorem dX11_init_140 : decode cX11_init 140 = .ok (.aload_n 3, 1) := by decide +kernel
theorem dX11_init_141 : decode cX11_init 141 = .ok (.invokespecial 37, 3) := by decide +kernel
theorem dX11_init_144 : decode cX11_init 144 = .ok (.putfield 47, 3) := by decide +kernel
theorem dX11_init_147 : decode cX11_init 147 = .ok (.aload_n 0, 1) := by decide +kernel
theorem dX11_init_148 : decode cX11_init 148 = .ok (.new 50, 3) := by decide +kernel
theorem dX11_init_151 : decode cX11_init 151 = .ok (.dup, 1) := by decide +kernel
theorem dX11_init_152 : decode cX11_init 152 = .ok (.invokespecial 52, 3) := by decide +kernel
theorem dX11_init_155 : decode cX11_init 155 = .ok (.putfield 53, 3) := by decide +kernel
theorem dX11_init_158 : decode cX11_init 158 = .ok (.aload_n 0, 1) := by decide +kernel
theorem dX11_init_159 : decode cX11_init 159 = .ok (.new 57, 3) := by decide +kernel
theorem dX11_init_162 : decode cX11_init 162 = .ok (.dup, 1) := by decide +kernel
theorem dX11_init_163 : decode cX11_init 163 = .ok (.invokespecial 59, 3) := by decide +kernel
theorem dX11_init_166 : decode cX11_init 166 = .ok (.putfield 60, 3) := by decide +kernel
theorem dX11_init_169 : decode cX11_init 169 = .ok (.aload_n 0, 1) := by decide +kernel
theorem dX11_init_170 : decode cX11_init 170 = .ok (.iconst 4, 1) := by decide +kernel
theorem dX11_init_171 : decode cX11_init 171 = .ok (.bipush 40, 2) := by decide +kernel
theorem dX11_init_173 : decode cX11_init 173 = .ok (.multianewarray 64 2, 4) := by decide +kernel
theorem dX11_init_177 : decode cX11_init 177 = .ok (.putfield 66, 3) := by decide +kernel
theorem dX11_init_180 : decode cX11_init 180 = .ok (.aload_n 0, 1) := by decide +kernel
theorem dX11_init_181 : decode cX11_init 181 = .ok (.iconst 4, 1) := by decide +kernel
theorem dX11_init_182 : decode cX11_init 182 = .ok (.newarray .int, 2) := by decide +kernel
theorem dX11_init_184 : decode cX11_init 184 = .ok (.putfield 69, 3) := by decide +kernel
theorem dX11_init_187 : decode cX11_init 187 = .ok (.aload_n 0, 1) := by decide +kernel
theorem dX11_init_188 : decode cX11_init 188 = .ok (.iconst 4, 1) := by decide +kernel
theorem dX11_init_189 : decode cX11_init 189 = .ok (.newarray .int, 2) := by decide +kernel
theorem dX11_init_191 : decode cX11_init 191 = .ok (.putfield 73, 3) := by decide +kernel
theorem dX11_init_194 : decode cX11_init 194 = .ok (.aload_n 0, 1) := by decide +kernel
theorem dX11_init_195 : decode cX11_init 195 = .ok (.bipush 6, 2) := by decide +kernel
theorem dX11_init_197 : decode cX11_init 197 = .ok (.newarray .int, 2) := by decide +kernel
theorem dX11_init_199 : decode cX11_init 199 = .ok (.putfield 76, 3) := by decide +kernel
theorem dX11_init_202 : decode cX11_init 202 = .ok (.return_, 1) := by decide +kernel
theorem dX11_yard_0 : decode cX11_yard 0 = .ok (.iload_n 1, 1) := by decide +kernel
theorem dX11_yard_1 : decode cX11_yard 1 = .ok (.iconst 0, 1) := by decide +kernel
theorem dX11_yard_2 : decode cX11_yard 2 = .ok (.bipush 69, 2) := by decide +kernel
theorem dX11_yard_4 : decode cX11_yard 4 = .ok (.invokestatic 79, 3) := by decide +kernel
theorem dX11_yard_7 : decode cX11_yard 7 = .ok (.ifCond .eq 24, 3) := by decide +kernel
theorem dX11_yard_10 : decode cX11_yard 10 = .ok (.iload_n 2, 1) := by decide +kernel
theorem dX11_yard_11 : decode cX11_yard 11 = .ok (.iconst 0, 1) := by decide +kernel
theorem dX11_yard_12 : decode cX11_yard 12 = .ok (.sipush 999, 3) := by decide +kernel
theorem dX11_yard_15 : decode cX11_yard 15 = .ok (.invokestatic 79, 3) := by decide +kernel
theorem dX11_yard_18 : decode cX11_yard 18 = .ok (.ifCond .eq 13, 3) := by decide +kernel
theorem dX11_yard_21 : decode cX11_yard 21 = .ok (.iload_n 3, 1) := by decide +kernel
theorem dX11_yard_22 : decode cX11_yard 22 = .ok (.iconst (-1), 1) := by decide +kernel
theorem dX11_yard_23 : decode cX11_yard 23 = .ok (.bipush 99, 2) := by decide +kernel
theorem dX11_yard_25 : decode cX11_yard 25 = .ok (.invokestatic 79, 3) := by decide +kernel
theorem dX11_yard_28 : decode cX11_yard 28 = .ok (.ifCond .ne 10, 3) := by decide +kernel
theorem dX11_yard_31 : decode cX11_yard 31 = .ok (.aload_n 0, 1) := by decide +kernel
theorem dX11_yard_32 : decode cX11_yard 32 = .ok (.ldc 83, 2) := by decide +kernel
theorem dX11_yard_34 : decode cX11_yard 34 = .ok (.invokevirtual 84, 3) := by decide +kernel
theorem dX11_yard_37 : decode cX11_yard 37 = .ok (.ireturn, 1) := by decide +kernel
theorem dX11_yard_38 : decode cX11_yard 38 = .ok (.aload_n 0, 1) := by decide +kernel
theorem dX11_yard_39 : decode cX11_yard 39 = .ok (.getfield 40, 3) := by decide +kernel
theorem dX11_yard_42 : decode cX11_yard 42 = .ok (.getfield 88, 3) := by decide +kernel
theorem dX11_yard_45 : decode cX11_yard 45 = .ok (.bipush 12, 2) := by decide +kernel
theorem dX11_yard_47 : decode cX11_yard 47 = .ok (.if_icmp .lt 10, 3) := by decide +kernel
theorem dX11_yard_50 : decode cX11_yard 50 = .ok (.aload_n 0, 1) := by decide +kernel
theorem dX11_yard_51 : decode cX11_yard 51 = .ok (.ldc 92, 2) := by decide +kernel
theorem dX11_yard_53 : decode cX11_yard 53 = .ok (.invokevirtual 84, 3) := by decide +kernel
theorem dX11_yard_56 : decode cX11_yard 56 = .ok (.ireturn, 1) := by decide +kernel
theorem dX11_yard_57 : decode cX11_yard 57 = .ok (.aload_n 0, 1) := by decide +kernel
theorem dX11_yard_58 : decode cX11_yard 58 = .ok (.getfield 40, 3) := by decide +kernel
theorem dX11_yard_61 : decode cX11_yard 61 = .ok (.getfield 88, 3) := by decide +kernel
theorem dX11_yard_64 : decode cX11_yard 64 = .ok (.istore 4, 2) := by decide +kernel
theorem dX11_yard_66 : decode cX11_yard 66 = .ok (.aload_n 0, 1) := by decide +kernel
theorem dX11_yard_67 : decode cX11_yard 67 = .ok (.getfield 40, 3) := by decide +kernel
theorem dX11_yard_70 : decode cX11_yard 70 = .ok (.dup, 1) := by decide +kernel
theorem dX11_yard_71 : decode cX11_yard 71 = .ok (.getfield 88, 3) := by decide +kernel
theorem dX11_yard_74 : decode cX11_yard 74 = .ok (.iconst 1, 1) := by decide +kernel
theorem dX11_yard_75 : decode cX11_yard 75 = .ok (.iadd, 1) := by decide +kernel
theorem dX11_yard_76 : decode cX11_yard 76 = .ok (.putfield 88, 3) := by decide +kernel
theorem dX11_yard_79 : decode cX11_yard 79 = .ok (.aload_n 0, 1) := by decide +kernel
theorem dX11_yard_80 : decode cX11_yard 80 = .ok (.getfield 40, 3) := by decide +kernel
theorem dX11_yard_83 : decode cX11_yard 83 = .ok (.iload 4, 2) := by decide +kernel
theorem dX11_yard_85 : decode cX11_yard 85 = .ok (.iload_n 1, 1) := by decide +kernel
theorem dX11_yard_86 : decode cX11_yard 86 = .ok (.invokevirtual 93, 3) := by decide +kernel
theorem dX11_yard_89 : decode cX11_yard 89 = .ok (.aload_n 0, 1) := by decide +kernel
theorem dX11_yard_90 : decode cX11_yard 90 = .ok (.getfield 40, 3) := by decide +kernel
theorem dX11_yard_93 : decode cX11_yard 93 = .ok (.getfield 97, 3) := by decide +kernel
theorem dX11_yard_96 : decode cX11_yard 96 = .ok (.iload 4, 2) := by decide +kernel
theorem dX11_yard_98 : decode cX11_yard 98 = .ok (.iload_n 2, 1) := by decide +kernel
theorem dX11_yard_99 : decode cX11_yard 99 = .ok (.iastore, 1) := by decide +kernel
theorem dX11_yard_100 : decode cX11_yard 100 = .ok (.aload_n 0, 1) := by decide +kernel
theorem dX11_yard_101 : decode cX11_yard 101 = .ok (.getfield 40, 3) := by decide +kernel
theorem dX11_yard_104 : decode cX11_yard 104 = .ok (.getfield 100, 3) := by decide +kernel
theorem dX11_yard_107 : decode cX11_yard 107 = .ok (.iload 4, 2) := by decide +kernel
theorem dX11_yard_109 : decode cX11_yard 109 = .ok (.iload_n 3, 1) := by decide +kernel
theorem dX11_yard_110 : decode cX11_yard 110 = .ok (.iconst 0, 1) := by decide +kernel
theorem dX11_yard_111 : decode cX11_yard 111 = .ok (.invokestatic 103, 3) := by decide +kernel
theorem dX11_yard_114 : decode cX11_yard 114 = .ok (.iastore, 1) := by decide +kernel
theorem dX11_yard_115 : decode cX11_yard 115 = .ok (.aload_n 0, 1) := by decide +kernel
theorem dX11_yard_116 : decode cX11_yard 116 = .ok (.getfield 40, 3) := by decide +kernel
theorem dX11_yard_119 : decode cX11_yard 119 = .ok (.iload 4, 2) := by decide +kernel
theorem dX11_yard_121 : decode cX11_yard 121 = .ok (.iload_n 3, 1) := by decide +kernel
theorem dX11_yard_122 : decode cX11_yard 122 = .ok (.ifCond .lt 7, 3) := by decide +kernel
theorem dX11_yard_125 : decode cX11_yard 125 = .ok (.iconst 1, 1) := by decide +kernel
theorem dX11_yard_126 : decode cX11_yard 126 = .ok (.goto 4, 3) := by decide +kernel
theorem dX11_yard_129 : decode cX11_yard 129 = .ok (.iconst 0, 1) := by decide +kernel
theorem dX11_yard_130 : decode cX11_yard 130 = .ok (.invokevirtual 109, 3) := by decide +kernel
theorem dX11_yard_133 : decode cX11_yard 133 = .ok (.iload 4, 2) := by decide +kernel
theorem dX11_yard_135 : decode cX11_yard 135 = .ok (.ireturn, 1) := by decide +kernel
theorem dX11_ofYard_0 : decode cX11_ofYard 0 = .ok (.aload_n 0, 1) := by decide +kernel
theorem dX11_ofYard_1 : decode cX11_ofYard 1 = .ok (.getfield 40, 3) := by decide +kernel
theorem dX11_ofYard_4 : decode cX11_ofYard 4 = .ok (.iload_n 1, 1) := by decide +kernel
theorem dX11_ofYard_5 : decode cX11_ofYard 5 = .ok (.invokevirtual 113, 3) := by decide +kernel
theorem dX11_ofYard_8 : decode cX11_ofYard 8 = .ok (.ifCond .ne 10, 3) := by decide +kernel
theorem dX11_ofYard_11 : decode cX11_ofYard 11 = .ok (.aload_n 0, 1) := by decide +kernel
theorem dX11_ofYard_12 : decode cX11_ofYard 12 = .ok (.ldc 83, 2) := by decide +kernel
theorem dX11_ofYard_14 : decode cX11_ofYard 14 = .ok (.invokevirtual 84, 3) := by decide +kernel
theorem dX11_ofYard_17 : decode cX11_ofYard 17 = .ok (.ireturn, 1) := by decide +kernel
theorem dX11_ofYard_18 : decode cX11_ofYard 18 = .ok (.iload_n 2, 1) := by decide +kernel
theorem dX11_ofYard_19 : decode cX11_ofYard 19 = .ok (.tableswitch 108 0 6 #[41, 51, 61, 71, 80, 90, 99], 41) := by decide +kernel
theorem dX11_ofYard_60 : decode cX11_ofYard 60 = .ok (.aload_n 0, 1) := by decide +kernel
theorem dX11_ofYard_61 : decode cX11_ofYard 61 = .ok (.getfield 40, 3) := by decide +kernel
theorem dX11_ofYard_64 : decode cX11_ofYard 64 = .ok (.getfield 117, 3) := by decide +kernel
theorem dX11_ofYard_67 : decode cX11_ofYard 67 = .ok (.iload_n 1, 1) := by decide +kernel
theorem dX11_ofYard_68 : decode cX11_ofYard 68 = .ok (.iaload, 1) := by decide +kernel
theorem dX11_ofYard_69 : decode cX11_ofYard 69 = .ok (.ireturn, 1) := by decide +kernel
theorem dX11_ofYard_70 : decode cX11_ofYard 70 = .ok (.aload_n 0, 1) := by decide +kernel
theorem dX11_ofYard_71 : decode cX11_ofYard 71 = .ok (.getfield 40, 3) := by decide +kernel
theorem dX11_ofYard_74 : decode cX11_ofYard 74 = .ok (.getfield 120, 3) := by decide +kernel
theorem dX11_ofYard_77 : decode cX11_ofYard 77 = .ok (.iload_n 1, 1) := by decide +kernel
theorem dX11_ofYard_78 : decode cX11_ofYard 78 = .ok (.iaload, 1) := by decide +kernel
theorem dX11_ofYard_79 : decode cX11_ofYard 79 = .ok (.ireturn, 1) := by decide +kernel
theorem dX11_ofYard_80 : decode cX11_ofYard 80 = .ok (.aload_n 0, 1) := by decide +kernel
theorem dX11_ofYard_81 : decode cX11_ofYard 81 = .ok (.getfield 40, 3) := by decide +kernel
theorem dX11_ofYard_84 : decode cX11_ofYard 84 = .ok (.getfield 97, 3) := by decide +kernel
theorem dX11_ofYard_87 : decode cX11_ofYard 87 = .ok (.iload_n 1, 1) := by decide +kernel
theorem dX11_ofYard_88 : decode cX11_ofYard 88 = .ok (.iaload, 1) := by decide +kernel
theorem dX11_ofYard_89 : decode cX11_ofYard 89 = .ok (.ireturn, 1) := by decide +kernel
theorem dX11_ofYard_90 : decode cX11_ofYard 90 = .ok (.aload_n 0, 1) := by decide +kernel
theorem dX11_ofYard_91 : decode cX11_ofYard 91 = .ok (.getfield 40, 3) := by decide +kernel
theorem dX11_ofYard_94 : decode cX11_ofYard 94 = .ok (.iload_n 1, 1) := by decide +kernel
theorem dX11_ofYard_95 : decode cX11_ofYard 95 = .ok (.invokevirtual 123, 3) := by decide +kernel
theorem dX11_ofYard_98 : decode cX11_ofYard 98 = .ok (.ireturn, 1) := by decide +kernel
theorem dX11_ofYard_99 : decode cX11_ofYard 99 = .ok (.aload_n 0, 1) := by decide +kernel
theorem dX11_ofYard_100 : decode cX11_ofYard 100 = .ok (.getfield 40, 3) := by decide +kernel
theorem dX11_ofYard_103 : decode cX11_ofYard 103 = .ok (.getfield 100, 3) := by decide +kernel
theorem dX11_ofYard_106 : decode cX11_ofYard 106 = .ok (.iload_n 1, 1) := by decide +kernel
theorem dX11_ofYard_107 : decode cX11_ofYard 107 = .ok (.iaload, 1) := by decide +kernel
theorem dX11_ofYard_108 : decode cX11_ofYard 108 = .ok (.ireturn, 1) := by decide +kernel
theorem dX11_ofYard_109 : decode cX11_ofYard 109 = .ok (.aload_n 0, 1) := by decide +kernel
theorem dX11_ofYard_110 : decode cX11_ofYard 110 = .ok (.getfield 40, 3) := by decide +kernel
theorem dX11_ofYard_113 : decode cX11_ofYard 113 = .ok (.iload_n 1, 1) := by decide +kernel
theorem dX11_ofYard_114 : decode cX11_ofYard 114 = .ok (.invokevirtual 126, 3) := by decide +kernel
theorem dX11_ofYard_117 : decode cX11_ofYard 117 = .ok (.ireturn, 1) := by decide +kernel
theorem dX11_ofYard_118 : decode cX11_ofYard 118 = .ok (.aload_n 0, 1) := by decide +kernel
theorem dX11_ofYard_119 : decode cX11_ofYard 119 = .ok (.getfield 40, 3) := by decide +kernel
theorem dX11_ofYard_122 : decode cX11_ofYard 122 = .ok (.iload_n 1, 1) := by decide +kernel
theorem dX11_ofYard_123 : decode cX11_ofYard 123 = .ok (.invokevirtual 129, 3) := by decide +kernel
theorem dX11_ofYard_126 : decode cX11_ofYard 126 = .ok (.ireturn, 1) := by decide +kernel
theorem dX11_ofYard_127 : decode cX11_ofYard 127 = .ok (.aload_n 0, 1) := by decide +kernel
theorem dX11_ofYard_128 : decode cX11_ofYard 128 = .ok (.ldc 83, 2) := by decide +kernel
theorem dX11_ofYard_130 : decode cX11_ofYard 130 = .ok (.invokevirtual 84, 3) := by decide +kernel
theorem dX11_ofYard_133 : decode cX11_ofYard 133 = .ok (.ireturn, 1) := by decide +kernel
theorem dX11_change_0 : decode cX11_change 0 = .ok (.aload_n 0, 1) := by decide +kernel
theorem dX11_change_1 : decode cX11_change 1 = .ok (.getfield 40, 3) := by decide +kernel
theorem dX11_change_4 : decode cX11_change 4 = .ok (.iload_n 1, 1) := by decide +kernel
theorem dX11_change_5 : decode cX11_change 5 = .ok (.invokevirtual 113, 3) := by decide +kernel
theorem dX11_change_8 : decode cX11_change 8 = .ok (.ifCond .eq 24, 3) := by decide +kernel
theorem dX11_change_11 : decode cX11_change 11 = .ok (.iload_n 2, 1) := by decide +kernel
theorem dX11_change_12 : decode cX11_change 12 = .ok (.iconst 0, 1) := by decide +kernel
theorem dX11_change_13 : decode cX11_change 13 = .ok (.iconst 2, 1) := by decide +kernel
theorem dX11_change_14 : decode cX11_change 14 = .ok (.invokestatic 79, 3) := by decide +kernel
theorem dX11_change_17 : decode cX11_change 17 = .ok (.ifCond .eq 15, 3) := by decide +kernel
theorem dX11_change_20 : decode cX11_change 20 = .ok (.iload_n 3, 1) := by decide +kernel
theorem dX11_change_21 : decode cX11_change 21 = .ok (.iconst 0, 1) := by decide +kernel
theorem dX11_change_22 : decode cX11_change 22 = .ok (.iload_n 2, 1) := by decide +kernel
theorem dX11_change_23 : decode cX11_change 23 = .ok (.invokestatic 132, 3) := by decide +kernel
theorem dX11_change_26 : decode cX11_change 26 = .ok (.invokestatic 79, 3) := by decide +kernel
theorem dX11_change_29 : decode cX11_change 29 = .ok (.ifCond .ne 10, 3) := by decide +kernel
theorem dX11_change_32 : decode cX11_change 32 = .ok (.aload_n 0, 1) := by decide +kernel
theorem dX11_change_33 : decode cX11_change 33 = .ok (.ldc 83, 2) := by decide +kernel
theorem dX11_change_35 : decode cX11_change 35 = .ok (.invokevirtual 84, 3) := by decide +kernel
theorem dX11_change_38 : decode cX11_change 38 = .ok (.ireturn, 1) := by decide +kernel
theorem dX11_change_39 : decode cX11_change 39 = .ok (.iload_n 2, 1) := by decide +kernel
theorem dX11_change_40 : decode cX11_change 40 = .ok (.ifCond .ne 27, 3) := by decide +kernel
theorem dX11_change_43 : decode cX11_change 43 = .ok (.aload_n 0, 1) := by decide +kernel
theorem dX11_change_44 : decode cX11_change 44 = .ok (.getfield 40, 3) := by decide +kernel
theorem dX11_change_47 : decode cX11_change 47 = .ok (.getfield 97, 3) := by decide +kernel
theorem dX11_change_50 : decode cX11_change 50 = .ok (.iload_n 1, 1) := by decide +kernel
theorem dX11_change_51 : decode cX11_change 51 = .ok (.iaload, 1) := by decide +kernel
theorem dX11_change_52 : decode cX11_change 52 = .ok (.istore 4, 2) := by decide +kernel
theorem dX11_change_54 : decode cX11_change 54 = .ok (.aload_n 0, 1) := by decide +kernel
theorem dX11_change_55 : decode cX11_change 55 = .ok (.getfield 40, 3) := by decide +kernel
theorem dX11_change_58 : decode cX11_change 58 = .ok (.getfield 97, 3) := by decide +kernel
theorem dX11_change_61 : decode cX11_change 61 = .ok (.iload_n 1, 1) := by decide +kernel
theorem dX11_change_62 : decode cX11_change 62 = .ok (.iload_n 3, 1) := by decide +kernel
theorem dX11_change_63 : decode cX11_change 63 = .ok (.iastore, 1) := by decide +kernel
theorem dX11_change_64 : decode cX11_change 64 = .ok (.goto 60, 3) := by decide +kernel
theorem dX11_change_67 : decode cX11_change 67 = .ok (.iload_n 2, 1) := by decide +kernel
theorem dX11_change_68 : decode cX11_change 68 = .ok (.iconst 1, 1) := by decide +kernel
theorem dX11_change_69 : decode cX11_change 69 = .ok (.if_icmp .ne 34, 3) := by decide +kernel
theorem dX11_change_72 : decode cX11_change 72 = .ok (.aload_n 0, 1) := by decide +kernel
theorem dX11_change_73 : decode cX11_change 73 = .ok (.getfield 40, 3) := by decide +kernel
theorem dX11_change_76 : decode cX11_change 76 = .ok (.iload_n 1, 1) := by decide +kernel
theorem dX11_change_77 : decode cX11_change 77 = .ok (.invokevirtual 123, 3) := by decide +kernel
theorem dX11_change_80 : decode cX11_change 80 = .ok (.istore 4, 2) := by decide +kernel
theorem dX11_change_82 : decode cX11_change 82 = .ok (.aload_n 0, 1) := by decide +kernel
theorem dX11_change_83 : decode cX11_change 83 = .ok (.getfield 40, 3) := by decide +kernel
theorem dX11_change_86 : decode cX11_change 86 = .ok (.iload_n 1, 1) := by decide +kernel
theorem dX11_change_87 : decode cX11_change 87 = .ok (.iload_n 3, 1) := by decide +kernel
theorem dX11_change_88 : decode cX11_change 88 = .ok (.iconst 1, 1) := by decide +kernel
theorem dX11_change_89 : decode cX11_change 89 = .ok (.if_icmp .ne 7, 3) := by decide +kernel
theorem dX11_change_92 : decode cX11_change 92 = .ok (.iconst 1, 1) := by decide +kernel
theorem dX11_change_93 : decode cX11_change 93 = .ok (.goto 4, 3) := by decide +kernel
theorem dX11_change_96 : decode cX11_change 96 = .ok (.iconst 0, 1) := by decide +kernel
theorem dX11_change_97 : decode cX11_change 97 = .ok (.invokevirtual 109, 3) := by decide +kernel
theorem dX11_change_100 : decode cX11_change 100 = .ok (.goto 24, 3) := by decide +kernel
theorem dX11_change_103 : decode cX11_change 103 = .ok (.aload_n 0, 1) := by decide +kernel
theorem dX11_change_104 : decode cX11_change 104 = .ok (.getfield 40, 3) := by decide +kernel
theorem dX11_change_107 : decode cX11_change 107 = .ok (.getfield 100, 3) := by decide +kernel
theorem dX11_change_110 : decode cX11_change 110 = .ok (.iload_n 1, 1) := by decide +kernel
theorem dX11_change_111 : decode cX11_change 111 = .ok (.iaload, 1) := by decide +kernel
theorem dX11_change_112 : decode cX11_change 112 = .ok (.istore 4, 2) := by decide +kernel
theorem dX11_change_114 : decode cX11_change 114 = .ok (.aload_n 0, 1) := by decide +kernel
theorem dX11_change_115 : decode cX11_change 115 = .ok (.getfield 40, 3) := by decide +kernel
theorem dX11_change_118 : decode cX11_change 118 = .ok (.getfield 100, 3) := by decide +kernel
theorem dX11_change_121 : decode cX11_change 121 = .ok (.iload_n 1, 1) := by decide +kernel
theorem dX11_change_122 : decode cX11_change 122 = .ok (.iload_n 3, 1) := by decide +kernel
theorem dX11_change_123 : decode cX11_change 123 = .ok (.iastore, 1) := by decide +kernel
theorem dX11_change_124 : decode cX11_change 124 = .ok (.iload 4, 2) := by decide +kernel
theorem dX11_change_126 : decode cX11_change 126 = .ok (.ireturn, 1) := by decide +kernel
theorem dX11_set_0 : decode cX11_set 0 = .ok (.iload_n 1, 1) := by decide +kernel
theorem dX11_set_1 : decode cX11_set 1 = .ok (.iconst 0, 1) := by decide +kernel
theorem dX11_set_2 : decode cX11_set 2 = .ok (.iconst 2, 1) := by decide +kernel
theorem dX11_set_3 : decode cX11_set 3 = .ok (.invokestatic 79, 3) := by decide +kernel
theorem dX11_set_6 : decode cX11_set 6 = .ok (.ifCond .eq 15, 3) := by decide +kernel
theorem dX11_set_9 : decode cX11_set 9 = .ok (.iload_n 2, 1) := by decide +kernel
theorem dX11_set_10 : decode cX11_set 10 = .ok (.iconst 0, 1) := by decide +kernel
theorem dX11_set_11 : decode cX11_set 11 = .ok (.iload_n 1, 1) := by decide +kernel
theorem dX11_set_12 : decode cX11_set 12 = .ok (.invokestatic 135, 3) := by decide +kernel
theorem dX11_set_15 : decode cX11_set 15 = .ok (.invokestatic 79, 3) := by decide +kernel
theorem dX11_set_18 : decode cX11_set 18 = .ok (.ifCond .ne 10, 3) := by decide +kernel
theorem dX11_set_21 : decode cX11_set 21 = .ok (.aload_n 0, 1) := by decide +kernel
theorem dX11_set_22 : decode cX11_set 22 = .ok (.ldc 83, 2) := by decide +kernel
theorem dX11_set_24 : decode cX11_set 24 = .ok (.invokevirtual 84, 3) := by decide +kernel
theorem dX11_set_27 : decode cX11_set 27 = .ok (.ireturn, 1) := by decide +kernel
theorem dX11_set_28 : decode cX11_set 28 = .ok (.iload_n 1, 1) := by decide +kernel
theorem dX11_set_29 : decode cX11_set 29 = .ok (.ifCond .ne 22, 3) := by decide +kernel
theorem dX11_set_32 : decode cX11_set 32 = .ok (.aload_n 0, 1) := by decide +kernel
theorem dX11_set_33 : decode cX11_set 33 = .ok (.getfield 40, 3) := by decide +kernel
theorem dX11_set_36 : decode cX11_set 36 = .ok (.getfield 138, 3) := by decide +kernel
theorem dX11_set_39 : decode cX11_set 39 = .ok (.istore_n 3, 1) := by decide +kernel
theorem dX11_set_40 : decode cX11_set 40 = .ok (.aload_n 0, 1) := by decide +kernel
theorem dX11_set_41 : decode cX11_set 41 = .ok (.getfield 40, 3) := by decide +kernel
theorem dX11_set_44 : decode cX11_set 44 = .ok (.iload_n 2, 1) := by decide +kernel
theorem dX11_set_45 : decode cX11_set 45 = .ok (.putfield 138, 3) := by decide +kernel
theorem dX11_set_48 : decode cX11_set 48 = .ok (.goto 43, 3) := by decide +kernel
theorem dX11_set_51 : decode cX11_set 51 = .ok (.iload_n 1, 1) := by decide +kernel
theorem dX11_set_52 : decode cX11_set 52 = .ok (.iconst 1, 1) := by decide +kernel
theorem dX11_set_53 : decode cX11_set 53 = .ok (.if_icmp .ne 22, 3) := by decide +kernel
theorem dX11_set_56 : decode cX11_set 56 = .ok (.aload_n 0, 1) := by decide +kernel
theorem dX11_set_57 : decode cX11_set 57 = .ok (.getfield 40, 3) := by decide +kernel
theorem dX11_set_60 : decode cX11_set 60 = .ok (.getfield 141, 3) := by decide +kernel
theorem dX11_set_63 : decode cX11_set 63 = .ok (.istore_n 3, 1) := by decide +kernel
theorem dX11_set_64 : decode cX11_set 64 = .ok (.aload_n 0, 1) := by decide +kernel
theorem dX11_set_65 : decode cX11_set 65 = .ok (.getfield 40, 3) := by decide +kernel
theorem dX11_set_68 : decode cX11_set 68 = .ok (.iload_n 2, 1) := by decide +kernel
theorem dX11_set_69 : decode cX11_set 69 = .ok (.putfield 141, 3) := by decide +kernel
theorem dX11_set_72 : decode cX11_set 72 = .ok (.goto 19, 3) := by decide +kernel
theorem dX11_set_75 : decode cX11_set 75 = .ok (.aload_n 0, 1) := by decide +kernel
theorem dX11_set_76 : decode cX11_set 76 = .ok (.getfield 40, 3) := by decide +kernel
theorem dX11_set_79 : decode cX11_set 79 = .ok (.getfield 144, 3) := by decide +kernel
theorem dX11_set_82 : decode cX11_set 82 = .ok (.istore_n 3, 1) := by decide +kernel
theorem dX11_set_83 : decode cX11_set 83 = .ok (.aload_n 0, 1) := by decide +kernel
theorem dX11_set_84 : decode cX11_set 84 = .ok (.getfield 40, 3) := by decide +kernel
theorem dX11_set_87 : decode cX11_set 87 = .ok (.iload_n 2, 1) := by decide +kernel
theorem dX11_set_88 : decode cX11_set 88 = .ok (.putfield 144, 3) := by decide +kernel
theorem dX11_set_91 : decode cX11_set 91 = .ok (.iload_n 3, 1) := by decide +kernel
theorem dX11_set_92 : decode cX11_set 92 = .ok (.ireturn, 1) := by decide +kernel
theorem dX11_become_0 : decode cX11_become 0 = .ok (.aload_n 0, 1) := by decide +kernel
theorem dX11_become_1 : decode cX11_become 1 = .ok (.getfield 40, 3) := by decide +kernel
theorem dX11_become_4 : decode cX11_become 4 = .ok (.iload_n 1, 1) := by decide +kernel
theorem dX11_become_5 : decode cX11_become 5 = .ok (.invokevirtual 113, 3) := by decide +kernel
theorem dX11_become_8 : decode cX11_become 8 = .ok (.ifCond .eq 13, 3) := by decide +kernel
theorem dX11_become_11 : decode cX11_become 11 = .ok (.iload_n 2, 1) := by decide +kernel
theorem dX11_become_12 : decode cX11_become 12 = .ok (.iconst 0, 1) := by decide +kernel
theorem dX11_become_13 : decode cX11_become 13 = .ok (.bipush 69, 2) := by decide +kernel
theorem dX11_become_15 : decode cX11_become 15 = .ok (.invokestatic 79, 3) := by decide +kernel
theorem dX11_become_18 : decode cX11_become 18 = .ok (.ifCond .ne 10, 3) := by decide +kernel
theorem dX11_become_21 : decode cX11_become 21 = .ok (.aload_n 0, 1) := by decide +kernel
theorem dX11_become_22 : decode cX11_become 22 = .ok (.ldc 83, 2) := by decide +kernel
theorem dX11_become_24 : decode cX11_become 24 = .ok (.invokevirtual 84, 3) := by decide +kernel
theorem dX11_become_27 : decode cX11_become 27 = .ok (.ireturn, 1) := by decide +kernel
theorem dX11_become_28 : decode cX11_become 28 = .ok (.aload_n 0, 1) := by decide +kernel
theorem dX11_become_29 : decode cX11_become 29 = .ok (.getfield 40, 3) := by decide +kernel
theorem dX11_become_32 : decode cX11_become 32 = .ok (.getfield 117, 3) := by decide +kernel
theorem dX11_become_35 : decode cX11_become 35 = .ok (.iload_n 1, 1) := by decide +kernel
theorem dX11_become_36 : decode cX11_become 36 = .ok (.iaload, 1) := by decide +kernel
theorem dX11_become_37 : decode cX11_become 37 = .ok (.istore_n 3, 1) := by decide +kernel
theorem dX11_become_38 : decode cX11_become 38 = .ok (.aload_n 0, 1) := by decide +kernel
theorem dX11_become_39 : decode cX11_become 39 = .ok (.getfield 40, 3) := by decide +kernel
theorem dX11_become_42 : decode cX11_become 42 = .ok (.iload_n 1, 1) := by decide +kernel
theorem dX11_become_43 : decode cX11_become 43 = .ok (.iload_n 2, 1) := by decide +kernel
theorem dX11_become_44 : decode cX11_become 44 = .ok (.invokevirtual 93, 3) := by decide +kernel
theorem dX11_become_47 : decode cX11_become 47 = .ok (.iload_n 3, 1) := by decide +kernel
theorem dX11_become_48 : decode cX11_become 48 = .ok (.ireturn, 1) := by decide +kernel
theorem dX11_as_0 : decode cX11_as 0 = .ok (.aload_n 0, 1) := by decide +kernel
theorem dX11_as_1 : decode cX11_as 1 = .ok (.getfield 40, 3) := by decide +kernel
theorem dX11_as_4 : decode cX11_as 4 = .ok (.iload_n 1, 1) := by decide +kernel
theorem dX11_as_5 : decode cX11_as 5 = .ok (.invokevirtual 113, 3) := by decide +kernel
theorem dX11_as_8 : decode cX11_as 8 = .ok (.ifCond .eq 17, 3) := by decide +kernel
theorem dX11_as_11 : decode cX11_as 11 = .ok (.iload_n 2, 1) := by decide +kernel
theorem dX11_as_12 : decode cX11_as 12 = .ok (.iconst 0, 1) := by decide +kernel
theorem dX11_as_13 : decode cX11_as 13 = .ok (.getstatic 147, 3) := by decide +kernel
theorem dX11_as_16 : decode cX11_as 16 = .ok (.arraylength, 1) := by decide +kernel
theorem dX11_as_17 : decode cX11_as 17 = .ok (.iconst 1, 1) := by decide +kernel
theorem dX11_as_18 : decode cX11_as 18 = .ok (.isub, 1) := by decide +kernel
theorem dX11_as_19 : decode cX11_as 19 = .ok (.invokestatic 79, 3) := by decide +kernel
theorem dX11_as_22 : decode cX11_as 22 = .ok (.ifCond .ne 10, 3) := by decide +kernel
theorem dX11_as_25 : decode cX11_as 25 = .ok (.aload_n 0, 1) := by decide +kernel
theorem dX11_as_26 : decode cX11_as 26 = .ok (.ldc 83, 2) := by decide +kernel
theorem dX11_as_28 : decode cX11_as 28 = .ok (.invokevirtual 84, 3) := by decide +kernel
theorem dX11_as_31 : decode cX11_as 31 = .ok (.ireturn, 1) := by decide +kernel
theorem dX11_as_32 : decode cX11_as 32 = .ok (.aload_n 0, 1) := by decide +kernel
theorem dX11_as_33 : decode cX11_as 33 = .ok (.getfield 40, 3) := by decide +kernel
theorem dX11_as_36 : decode cX11_as 36 = .ok (.getfield 117, 3) := by decide +kernel
theorem dX11_as_39 : decode cX11_as 39 = .ok (.iload_n 1, 1) := by decide +kernel
theorem dX11_as_40 : decode cX11_as 40 = .ok (.iaload, 1) := by decide +kernel
theorem dX11_as_41 : decode cX11_as 41 = .ok (.iload_n 2, 1) := by decide +kernel
theorem dX11_as_42 : decode cX11_as 42 = .ok (.invokestatic 150, 3) := by decide +kernel
theorem dX11_as_45 : decode cX11_as 45 = .ok (.ifCond .ne 10, 3) := by decide +kernel
theorem dX11_as_48 : decode cX11_as 48 = .ok (.aload_n 0, 1) := by decide +kernel
theorem dX11_as_49 : decode cX11_as 49 = .ok (.ldc 154, 2) := by decide +kernel
theorem dX11_as_51 : decode cX11_as 51 = .ok (.invokevirtual 84, 3) := by decide +kernel
theorem dX11_as_54 : decode cX11_as 54 = .ok (.ireturn, 1) := by decide +kernel
theorem dX11_as_55 : decode cX11_as 55 = .ok (.aload_n 0, 1) := by decide +kernel
theorem dX11_as_56 : decode cX11_as 56 = .ok (.getfield 40, 3) := by decide +kernel
theorem dX11_as_59 : decode cX11_as 59 = .ok (.getfield 120, 3) := by decide +kernel
theorem dX11_as_62 : decode cX11_as 62 = .ok (.iload_n 1, 1) := by decide +kernel
theorem dX11_as_63 : decode cX11_as 63 = .ok (.iaload, 1) := by decide +kernel
theorem dX11_as_64 : decode cX11_as 64 = .ok (.ireturn, 1) := by decide +kernel
theorem dX11_sign_0 : decode cX11_sign 0 = .ok (.iload_n 1, 1) := by decide +kernel
theorem dX11_sign_1 : decode cX11_sign 1 = .ok (.iconst 0, 1) := by decide +kernel
theorem dX11_sign_2 : decode cX11_sign 2 = .ok (.iconst 1, 1) := by decide +kernel
theorem dX11_sign_3 : decode cX11_sign 3 = .ok (.invokestatic 79, 3) := by decide +kernel
theorem dX11_sign_6 : decode cX11_sign 6 = .ok (.ifCond .eq 13, 3) := by decide +kernel
theorem dX11_sign_9 : decode cX11_sign 9 = .ok (.iload_n 2, 1) := by decide +kernel
theorem dX11_sign_10 : decode cX11_sign 10 = .ok (.iconst 0, 1) := by decide +kernel
theorem dX11_sign_11 : decode cX11_sign 11 = .ok (.bipush 99, 2) := by decide +kernel
theorem dX11_sign_13 : decode cX11_sign 13 = .ok (.invokestatic 79, 3) := by decide +kernel
theorem dX11_sign_16 : decode cX11_sign 16 = .ok (.ifCond .ne 10, 3) := by decide +kernel
theorem dX11_sign_19 : decode cX11_sign 19 = .ok (.aload_n 0, 1) := by decide +kernel
theorem dX11_sign_20 : decode cX11_sign 20 = .ok (.ldc 83, 2) := by decide +kernel
theorem dX11_sign_22 : decode cX11_sign 22 = .ok (.invokevirtual 84, 3) := by decide +kernel
theorem dX11_sign_25 : decode cX11_sign 25 = .ok (.ireturn, 1) := by decide +kernel
theorem dX11_sign_26 : decode cX11_sign 26 = .ok (.aload_n 0, 1) := by decide +kernel
theorem dX11_sign_27 : decode cX11_sign 27 = .ok (.getfield 40, 3) := by decide +kernel
theorem dX11_sign_30 : decode cX11_sign 30 = .ok (.iload_n 1, 1) := by decide +kernel
theorem dX11_sign_31 : decode cX11_sign 31 = .ok (.aload_n 0, 1) := by decide +kernel
theorem dX11_sign_32 : decode cX11_sign 32 = .ok (.getfield 40, 3) := by decide +kernel
theorem dX11_sign_35 : decode cX11_sign 35 = .ok (.getfield 155, 3) := by decide +kernel
theorem dX11_sign_38 : decode cX11_sign 38 = .ok (.iload_n 2, 1) := by decide +kernel
theorem dX11_sign_39 : decode cX11_sign 39 = .ok (.iadd, 1) := by decide +kernel
theorem dX11_sign_40 : decode cX11_sign 40 = .ok (.invokevirtual 158, 3) := by decide +kernel
theorem dX11_sign_43 : decode cX11_sign 43 = .ok (.ireturn, 1) := by decide +kernel
theorem dX11_feed_0 : decode cX11_feed 0 = .ok (.iload_n 3, 1) := by decide +kernel
theorem dX11_feed_1 : decode cX11_feed 1 = .ok (.iconst 1, 1) := by decide +kernel
theorem dX11_feed_2 : decode cX11_feed 2 = .ok (.bipush 8, 2) := by decide +kernel
theorem dX11_feed_4 : decode cX11_feed 4 = .ok (.invokestatic 79, 3) := by decide +kernel
theorem dX11_feed_7 : decode cX11_feed 7 = .ok (.ifCond .ne 10, 3) := by decide +kernel
theorem dX11_feed_10 : decode cX11_feed 10 = .ok (.aload_n 0, 1) := by decide +kernel
theorem dX11_feed_11 : decode cX11_feed 11 = .ok (.ldc 83, 2) := by decide +kernel
theorem dX11_feed_13 : decode cX11_feed 13 = .ok (.invokevirtual 84, 3) := by decide +kernel
theorem dX11_feed_16 : decode cX11_feed 16 = .ok (.ireturn, 1) := by decide +kernel
theorem dX11_feed_17 : decode cX11_feed 17 = .ok (.aload_n 0, 1) := by decide +kernel
theorem dX11_feed_18 : decode cX11_feed 18 = .ok (.getfield 40, 3) := by decide +kernel
theorem dX11_feed_21 : decode cX11_feed 21 = .ok (.getfield 161, 3) := by decide +kernel
theorem dX11_feed_24 : decode cX11_feed 24 = .ok (.iload_n 3, 1) := by decide +kernel
theorem dX11_feed_25 : decode cX11_feed 25 = .ok (.iadd, 1) := by decide +kernel
theorem dX11_feed_26 : decode cX11_feed 26 = .ok (.bipush 50, 2) := by decide +kernel
theorem dX11_feed_28 : decode cX11_feed 28 = .ok (.if_icmp .le 10, 3) := by decide +kernel
theorem dX11_feed_31 : decode cX11_feed 31 = .ok (.aload_n 0, 1) := by decide +kernel
theorem dX11_feed_32 : decode cX11_feed 32 = .ok (.ldc 92, 2) := by decide +kernel
theorem dX11_feed_34 : decode cX11_feed 34 = .ok (.invokevirtual 84, 3) := by decide +kernel
theorem dX11_feed_37 : decode cX11_feed 37 = .ok (.ireturn, 1) := by decide +kernel
theorem dX11_feed_38 : decode cX11_feed 38 = .ok (.iconst 0, 1) := by decide +kernel
theorem dX11_feed_39 : decode cX11_feed 39 = .ok (.istore 4, 2) := by decide +kernel
theorem dX11_feed_41 : decode cX11_feed 41 = .ok (.iload 4, 2) := by decide +kernel
theorem dX11_feed_43 : decode cX11_feed 43 = .ok (.iload_n 3, 1) := by decide +kernel
theorem dX11_feed_44 : decode cX11_feed 44 = .ok (.if_icmp .ge 49, 3) := by decide +kernel
theorem dX11_feed_47 : decode cX11_feed 47 = .ok (.aload_n 0, 1) := by decide +kernel
theorem dX11_feed_48 : decode cX11_feed 48 = .ok (.getfield 40, 3) := by decide +kernel
theorem dX11_feed_51 : decode cX11_feed 51 = .ok (.getfield 164, 3) := by decide +kernel
theorem dX11_feed_54 : decode cX11_feed 54 = .ok (.aload_n 0, 1) := by decide +kernel
theorem dX11_feed_55 : decode cX11_feed 55 = .ok (.getfield 40, 3) := by decide +kernel
theorem dX11_feed_58 : decode cX11_feed 58 = .ok (.getfield 161, 3) := by decide +kernel
theorem dX11_feed_61 : decode cX11_feed 61 = .ok (.lload_n 1, 1) := by decide +kernel
theorem dX11_feed_62 : decode cX11_feed 62 = .ok (.bipush 8, 2) := by decide +kernel
theorem dX11_feed_64 : decode cX11_feed 64 = .ok (.iload 4, 2) := by decide +kernel
theorem dX11_feed_66 : decode cX11_feed 66 = .ok (.imul, 1) := by decide +kernel
theorem dX11_feed_67 : decode cX11_feed 67 = .ok (.lushr, 1) := by decide +kernel
theorem dX11_feed_68 : decode cX11_feed 68 = .ok (.l2i, 1) := by decide +kernel
theorem dX11_feed_69 : decode cX11_feed 69 = .ok (.sipush 255, 3) := by decide +kernel
theorem dX11_feed_72 : decode cX11_feed 72 = .ok (.iand, 1) := by decide +kernel
theorem dX11_feed_73 : decode cX11_feed 73 = .ok (.iastore, 1) := by decide +kernel
theorem dX11_feed_74 : decode cX11_feed 74 = .ok (.aload_n 0, 1) := by decide +kernel
theorem dX11_feed_75 : decode cX11_feed 75 = .ok (.getfield 40, 3) := by decide +kernel
theorem dX11_feed_78 : decode cX11_feed 78 = .ok (.dup, 1) := by decide +kernel
theorem dX11_feed_79 : decode cX11_feed 79 = .ok (.getfield 161, 3) := by decide +kernel
theorem dX11_feed_82 : decode cX11_feed 82 = .ok (.iconst 1, 1) := by decide +kernel
theorem dX11_feed_83 : decode cX11_feed 83 = .ok (.iadd, 1) := by decide +kernel
theorem dX11_feed_84 : decode cX11_feed 84 = .ok (.putfield 161, 3) := by decide +kernel
theorem dX11_feed_87 : decode cX11_feed 87 = .ok (.iinc 4 1, 3) := by decide +kernel
theorem dX11_feed_90 : decode cX11_feed 90 = .ok (.goto (-49), 3) := by decide +kernel
theorem dX11_feed_93 : decode cX11_feed 93 = .ok (.aload_n 0, 1) := by decide +kernel
theorem dX11_feed_94 : decode cX11_feed 94 = .ok (.getfield 40, 3) := by decide +kernel
theorem dX11_feed_97 : decode cX11_feed 97 = .ok (.getfield 161, 3) := by decide +kernel
theorem dX11_feed_100 : decode cX11_feed 100 = .ok (.ireturn, 1) := by decide +kernel
theorem dX11_text_0 : decode cX11_text 0 = .ok (.iload_n 1, 1) := by decide +kernel
theorem dX11_text_1 : decode cX11_text 1 = .ok (.iconst 0, 1) := by decide +kernel
theorem dX11_text_2 : decode cX11_text 2 = .ok (.iconst 1, 1) := by decide +kernel
theorem dX11_text_3 : decode cX11_text 3 = .ok (.invokestatic 79, 3) := by decide +kernel
theorem dX11_text_6 : decode cX11_text 6 = .ok (.ifCond .ne 10, 3) := by decide +kernel
theorem dX11_text_9 : decode cX11_text 9 = .ok (.aload_n 0, 1) := by decide +kernel
theorem dX11_text_10 : decode cX11_text 10 = .ok (.ldc 83, 2) := by decide +kernel
theorem dX11_text_12 : decode cX11_text 12 = .ok (.invokevirtual 84, 3) := by decide +kernel
theorem dX11_text_15 : decode cX11_text 15 = .ok (.ireturn, 1) := by decide +kernel
theorem dX11_text_16 : decode cX11_text 16 = .ok (.aload_n 0, 1) := by decide +kernel
theorem dX11_text_17 : decode cX11_text 17 = .ok (.getfield 53, 3) := by decide +kernel
theorem dX11_text_20 : decode cX11_text 20 = .ok (.aload_n 0, 1) := by decide +kernel
theorem dX11_text_21 : decode cX11_text 21 = .ok (.getfield 40, 3) := by decide +kernel
theorem dX11_text_24 : decode cX11_text 24 = .ok (.getfield 164, 3) := by decide +kernel
theorem dX11_text_27 : decode cX11_text 27 = .ok (.aload_n 0, 1) := by decide +kernel
theorem dX11_text_28 : decode cX11_text 28 = .ok (.getfield 40, 3) := by decide +kernel
theorem dX11_text_31 : decode cX11_text 31 = .ok (.getfield 161, 3) := by decide +kernel
theorem dX11_text_34 : decode cX11_text 34 = .ok (.iload_n 1, 1) := by decide +kernel
theorem dX11_text_35 : decode cX11_text 35 = .ok (.invokevirtual 167, 3) := by decide +kernel
theorem dX11_text_38 : decode cX11_text 38 = .ok (.istore_n 2, 1) := by decide +kernel
theorem dX11_text_39 : decode cX11_text 39 = .ok (.aload_n 0, 1) := by decide +kernel
theorem dX11_text_40 : decode cX11_text 40 = .ok (.getfield 40, 3) := by decide +kernel
theorem dX11_text_43 : decode cX11_text 43 = .ok (.iconst 0, 1) := by decide +kernel
theorem dX11_text_44 : decode cX11_text 44 = .ok (.putfield 161, 3) := by decide +kernel
theorem dX11_text_47 : decode cX11_text 47 = .ok (.iload_n 2, 1) := by decide +kernel
theorem dX11_text_48 : decode cX11_text 48 = .ok (.ifCond .lt 8, 3) := by decide +kernel
theorem dX11_text_51 : decode cX11_text 51 = .ok (.bipush (-10), 2) := by decide +kernel
theorem dX11_text_53 : decode cX11_text 53 = .ok (.iload_n 2, 1) := by decide +kernel
theorem dX11_text_54 : decode cX11_text 54 = .ok (.isub, 1) := by decide +kernel
theorem dX11_text_55 : decode cX11_text 55 = .ok (.ireturn, 1) := by decide +kernel
theorem dX11_text_56 : decode cX11_text 56 = .ok (.iload_n 1, 1) := by decide +kernel
theorem dX11_text_57 : decode cX11_text 57 = .ok (.ifCond .ne 20, 3) := by decide +kernel
theorem dX11_text_60 : decode cX11_text 60 = .ok (.aload_n 0, 1) := by decide +kernel
theorem dX11_text_61 : decode cX11_text 61 = .ok (.getfield 40, 3) := by decide +kernel
theorem dX11_text_64 : decode cX11_text 64 = .ok (.aload_n 0, 1) := by decide +kernel
theorem dX11_text_65 : decode cX11_text 65 = .ok (.getfield 53, 3) := by decide +kernel
theorem dX11_text_68 : decode cX11_text 68 = .ok (.invokevirtual 171, 3) := by decide +kernel
theorem dX11_text_71 : decode cX11_text 71 = .ok (.putfield 175, 3) := by decide +kernel
theorem dX11_text_74 : decode cX11_text 74 = .ok (.goto 17, 3) := by decide +kernel
theorem dX11_text_77 : decode cX11_text 77 = .ok (.aload_n 0, 1) := by decide +kernel
theorem dX11_text_78 : decode cX11_text 78 = .ok (.getfield 40, 3) := by decide +kernel
theorem dX11_text_81 : decode cX11_text 81 = .ok (.aload_n 0, 1) := by decide +kernel
theorem dX11_text_82 : decode cX11_text 82 = .ok (.getfield 53, 3) := by decide +kernel
theorem dX11_text_85 : decode cX11_text 85 = .ok (.invokevirtual 171, 3) := by decide +kernel
theorem dX11_text_88 : decode cX11_text 88 = .ok (.putfield 179, 3) := by decide +kernel
theorem dX11_text_91 : decode cX11_text 91 = .ok (.iconst 1, 1) := by decide +kernel
theorem dX11_text_92 : decode cX11_text 92 = .ok (.ireturn, 1) := by decide +kernel
theorem dX11_law_0 : decode cX11_law 0 = .ok (.iload_n 1, 1) := by decide +kernel
theorem dX11_law_1 : decode cX11_law 1 = .ok (.iconst 0, 1) := by decide +kernel
theorem dX11_law_2 : decode cX11_law 2 = .ok (.iconst 1, 1) := by decide +kernel
theorem dX11_law_3 : decode cX11_law 3 = .ok (.invokestatic 79, 3) := by decide +kernel
theorem dX11_law_6 : decode cX11_law 6 = .ok (.ifCond .ne 10, 3) := by decide +kernel
theorem dX11_law_9 : decode cX11_law 9 = .ok (.aload_n 0, 1) := by decide +kernel
theorem dX11_law_10 : decode cX11_law 10 = .ok (.ldc 83, 2) := by decide +kernel
theorem dX11_law_12 : decode cX11_law 12 = .ok (.invokevirtual 84, 3) := by decide +kernel
theorem dX11_law_15 : decode cX11_law 15 = .ok (.ireturn, 1) := by decide +kernel
theorem dX11_law_16 : decode cX11_law 16 = .ok (.iload_n 1, 1) := by decide +kernel
theorem dX11_law_17 : decode cX11_law 17 = .ok (.ifCond .ne 20, 3) := by decide +kernel
theorem dX11_law_20 : decode cX11_law 20 = .ok (.aload_n 0, 1) := by decide +kernel
theorem dX11_law_21 : decode cX11_law 21 = .ok (.getfield 40, 3) := by decide +kernel
theorem dX11_law_24 : decode cX11_law 24 = .ok (.getfield 175, 3) := by decide +kernel
theorem dX11_law_27 : decode cX11_law 27 = .ok (.iload_n 2, 1) := by decide +kernel
theorem dX11_law_28 : decode cX11_law 28 = .ok (.iload_n 3, 1) := by decide +kernel
theorem dX11_law_29 : decode cX11_law 29 = .ok (.iload 4, 2) := by decide +kernel
theorem dX11_law_31 : decode cX11_law 31 = .ok (.invokevirtual 182, 3) := by decide +kernel
theorem dX11_law_34 : decode cX11_law 34 = .ok (.goto 17, 3) := by decide +kernel
theorem dX11_law_37 : decode cX11_law 37 = .ok (.aload_n 0, 1) := by decide +kernel
theorem dX11_law_38 : decode cX11_law 38 = .ok (.getfield 40, 3) := by decide +kernel
theorem dX11_law_41 : decode cX11_law 41 = .ok (.getfield 179, 3) := by decide +kernel
theorem dX11_law_44 : decode cX11_law 44 = .ok (.iload_n 2, 1) := by decide +kernel
theorem dX11_law_45 : decode cX11_law 45 = .ok (.iload_n 3, 1) := by decide +kernel
theorem dX11_law_46 : decode cX11_law 46 = .ok (.iload 4, 2) := by decide +kernel
theorem dX11_law_48 : decode cX11_law 48 = .ok (.invokevirtual 182, 3) := by decide +kernel
theorem dX11_law_51 : decode cX11_law 51 = .ok (.ireturn, 1) := by decide +kernel
theorem dX11_days_0 : decode cX11_days 0 = .ok (.iload_n 1, 1) := by decide +kernel
theorem dX11_days_1 : decode cX11_days 1 = .ok (.iconst 1, 1) := by decide +kernel
theorem dX11_days_2 : decode cX11_days 2 = .ok (.bipush 60, 2) := by decide +kernel
theorem dX11_days_4 : decode cX11_days 4 = .ok (.invokestatic 79, 3) := by decide +kernel
theorem dX11_days_7 : decode cX11_days 7 = .ok (.ifCond .ne 10, 3) := by decide +kernel
theorem dX11_days_10 : decode cX11_days 10 = .ok (.aload_n 0, 1) := by decide +kernel
theorem dX11_days_11 : decode cX11_days 11 = .ok (.ldc 83, 2) := by decide +kernel
theorem dX11_days_13 : decode cX11_days 13 = .ok (.invokevirtual 84, 3) := by decide +kernel
theorem dX11_days_16 : decode cX11_days 16 = .ok (.ireturn, 1) := by decide +kernel
theorem dX11_days_17 : decode cX11_days 17 = .ok (.aload_n 0, 1) := by decide +kernel
theorem dX11_days_18 : decode cX11_days 18 = .ok (.getfield 40, 3) := by decide +kernel
theorem dX11_days_21 : decode cX11_days 21 = .ok (.getfield 155, 3) := by decide +kernel
theorem dX11_days_24 : decode cX11_days 24 = .ok (.iload_n 1, 1) := by decide +kernel
theorem dX11_days_25 : decode cX11_days 25 = .ok (.iadd, 1) := by decide +kernel
theorem dX11_days_26 : decode cX11_days 26 = .ok (.sipush 9999, 3) := by decide +kernel
theorem dX11_days_29 : decode cX11_days 29 = .ok (.if_icmp .le 10, 3) := by decide +kernel
theorem dX11_days_32 : decode cX11_days 32 = .ok (.aload_n 0, 1) := by decide +kernel
theorem dX11_days_33 : decode cX11_days 33 = .ok (.ldc 186, 2) := by decide +kernel
theorem dX11_days_35 : decode cX11_days 35 = .ok (.invokevirtual 84, 3) := by decide +kernel
theorem dX11_days_38 : decode cX11_days 38 = .ok (.ireturn, 1) := by decide +kernel
theorem dX11_days_39 : decode cX11_days 39 = .ok (.aload_n 0, 1) := by decide +kernel
theorem dX11_days_40 : decode cX11_days 40 = .ok (.getfield 40, 3) := by decide +kernel
theorem dX11_days_43 : decode cX11_days 43 = .ok (.iload_n 1, 1) := by decide +kernel
theorem dX11_days_44 : decode cX11_days 44 = .ok (.invokevirtual 187, 3) := by decide +kernel
theorem dX11_days_47 : decode cX11_days 47 = .ok (.aload_n 0, 1) := by decide +kernel
theorem dX11_days_48 : decode cX11_days 48 = .ok (.getfield 40, 3) := by decide +kernel
theorem dX11_days_51 : decode cX11_days 51 = .ok (.invokevirtual 191, 3) := by decide +kernel
theorem dX11_days_54 : decode cX11_days 54 = .ok (.ireturn, 1) := by decide +kernel
theorem dX11_loose_0 : decode cX11_loose 0 = .ok (.iload_n 1, 1) := by decide +kernel
theorem dX11_loose_1 : decode cX11_loose 1 = .ok (.iconst 1, 1) := by decide +kernel
theorem dX11_loose_2 : decode cX11_loose 2 = .ok (.bipush 40, 2) := by decide +kernel
theorem dX11_loose_4 : decode cX11_loose 4 = .ok (.invokestatic 79, 3) := by decide +kernel
theorem dX11_loose_7 : decode cX11_loose 7 = .ok (.ifCond .ne 10, 3) := by decide +kernel
theorem dX11_loose_10 : decode cX11_loose 10 = .ok (.aload_n 0, 1) := by decide +kernel
theorem dX11_loose_11 : decode cX11_loose 11 = .ok (.ldc 83, 2) := by decide +kernel
theorem dX11_loose_13 : decode cX11_loose 13 = .ok (.invokevirtual 84, 3) := by decide +kernel
theorem dX11_loose_16 : decode cX11_loose 16 = .ok (.ireturn, 1) := by decide +kernel
theorem dX11_loose_17 : decode cX11_loose 17 = .ok (.aload_n 0, 1) := by decide +kernel
theorem dX11_loose_18 : decode cX11_loose 18 = .ok (.getfield 40, 3) := by decide +kernel
theorem dX11_loose_21 : decode cX11_loose 21 = .ok (.getfield 155, 3) := by decide +kernel
theorem dX11_loose_24 : decode cX11_loose 24 = .ok (.iload_n 1, 1) := by decide +kernel
theorem dX11_loose_25 : decode cX11_loose 25 = .ok (.iadd, 1) := by decide +kernel
theorem dX11_loose_26 : decode cX11_loose 26 = .ok (.sipush 9999, 3) := by decide +kernel
theorem dX11_loose_29 : decode cX11_loose 29 = .ok (.if_icmp .le 10, 3) := by decide +kernel
theorem dX11_loose_32 : decode cX11_loose 32 = .ok (.aload_n 0, 1) := by decide +kernel
theorem dX11_loose_33 : decode cX11_loose 33 = .ok (.ldc 186, 2) := by decide +kernel
theorem dX11_loose_35 : decode cX11_loose 35 = .ok (.invokevirtual 84, 3) := by decide +kernel
theorem dX11_loose_38 : decode cX11_loose 38 = .ok (.ireturn, 1) := by decide +kernel
theorem dX11_loose_39 : decode cX11_loose 39 = .ok (.iconst 0, 1) := by decide +kernel
theorem dX11_loose_40 : decode cX11_loose 40 = .ok (.istore_n 2, 1) := by decide +kernel
theorem dX11_loose_41 : decode cX11_loose 41 = .ok (.iload_n 2, 1) := by decide +kernel
theorem dX11_loose_42 : decode cX11_loose 42 = .ok (.iload_n 1, 1) := by decide +kernel
theorem dX11_loose_43 : decode cX11_loose 43 = .ok (.if_icmp .ge 24, 3) := by decide +kernel
theorem dX11_loose_46 : decode cX11_loose 46 = .ok (.aload_n 0, 1) := by decide +kernel
theorem dX11_loose_47 : decode cX11_loose 47 = .ok (.getfield 40, 3) := by decide +kernel
theorem dX11_loose_50 : decode cX11_loose 50 = .ok (.invokevirtual 195, 3) := by decide +kernel
theorem dX11_loose_53 : decode cX11_loose 53 = .ok (.aload_n 0, 1) := by decide +kernel
theorem dX11_loose_54 : decode cX11_loose 54 = .ok (.getfield 40, 3) := by decide +kernel
theorem dX11_loose_57 : decode cX11_loose 57 = .ok (.iconst 1, 1) := by decide +kernel
theorem dX11_loose_58 : decode cX11_loose 58 = .ok (.invokevirtual 187, 3) := by decide +kernel
theorem dX11_loose_61 : decode cX11_loose 61 = .ok (.iinc 2 1, 3) := by decide +kernel
theorem dX11_loose_64 : decode cX11_loose 64 = .ok (.goto (-23), 3) := by decide +kernel
theorem dX11_loose_67 : decode cX11_loose 67 = .ok (.aload_n 0, 1) := by decide +kernel
theorem dX11_loose_68 : decode cX11_loose 68 = .ok (.getfield 40, 3) := by decide +kernel
theorem dX11_loose_71 : decode cX11_loose 71 = .ok (.invokevirtual 191, 3) := by decide +kernel
theorem dX11_loose_74 : decode cX11_loose 74 = .ok (.ireturn, 1) := by decide +kernel
theorem dX11_then_0 : decode cX11_then 0 = .ok (.iload_n 1, 1) := by decide +kernel
theorem dX11_then_1 : decode cX11_then 1 = .ok (.iconst 0, 1) := by decide +kernel
theorem dX11_then_2 : decode cX11_then 2 = .ok (.bipush 60, 2) := by decide +kernel
theorem dX11_then_4 : decode cX11_then 4 = .ok (.invokestatic 79, 3) := by decide +kernel
theorem dX11_then_7 : decode cX11_then 7 = .ok (.ifCond .eq 14, 3) := by decide +kernel
theorem dX11_then_10 : decode cX11_then 10 = .ok (.aload_n 0, 1) := by decide +kernel
theorem dX11_then_11 : decode cX11_then 11 = .ok (.getfield 40, 3) := by decide +kernel
theorem dX11_then_14 : decode cX11_then 14 = .ok (.iload_n 2, 1) := by decide +kernel
theorem dX11_then_15 : decode cX11_then 15 = .ok (.invokevirtual 113, 3) := by decide +kernel
theorem dX11_then_18 : decode cX11_then 18 = .ok (.ifCond .ne 10, 3) := by decide +kernel
theorem dX11_then_21 : decode cX11_then 21 = .ok (.aload_n 0, 1) := by decide +kernel
theorem dX11_then_22 : decode cX11_then 22 = .ok (.ldc 83, 2) := by decide +kernel
theorem dX11_then_24 : decode cX11_then 24 = .ok (.invokevirtual 84, 3) := by decide +kernel
theorem dX11_then_27 : decode cX11_then 27 = .ok (.ireturn, 1) := by decide +kernel
theorem dX11_then_28 : decode cX11_then 28 = .ok (.aload_n 0, 1) := by decide +kernel
theorem dX11_then_29 : decode cX11_then 29 = .ok (.getfield 44, 3) := by decide +kernel
theorem dX11_then_32 : decode cX11_then 32 = .ok (.aload_n 0, 1) := by decide +kernel
theorem dX11_then_33 : decode cX11_then 33 = .ok (.getfield 40, 3) := by decide +kernel
theorem dX11_then_36 : decode cX11_then 36 = .ok (.invokevirtual 198, 3) := by decide +kernel
theorem dX11_then_39 : decode cX11_then 39 = .ok (.aload_n 0, 1) := by decide +kernel
theorem dX11_then_40 : decode cX11_then 40 = .ok (.getfield 44, 3) := by decide +kernel
theorem dX11_then_43 : decode cX11_then 43 = .ok (.iload_n 1, 1) := by decide +kernel
theorem dX11_then_44 : decode cX11_then 44 = .ok (.iload_n 2, 1) := by decide +kernel
theorem dX11_then_45 : decode cX11_then 45 = .ok (.invokevirtual 202, 3) := by decide +kernel
theorem dX11_then_48 : decode cX11_then 48 = .ok (.ireturn, 1) := by decide +kernel
theorem dX11_worst_0 : decode cX11_worst 0 = .ok (.iload_n 1, 1) := by decide +kernel
theorem dX11_worst_1 : decode cX11_worst 1 = .ok (.iconst 1, 1) := by decide +kernel
theorem dX11_worst_2 : decode cX11_worst 2 = .ok (.sipush 999, 3) := by decide +kernel
theorem dX11_worst_5 : decode cX11_worst 5 = .ok (.invokestatic 79, 3) := by decide +kernel
theorem dX11_worst_8 : decode cX11_worst 8 = .ok (.ifCond .eq 12, 3) := by decide +kernel
theorem dX11_worst_11 : decode cX11_worst 11 = .ok (.iload_n 2, 1) := by decide +kernel
theorem dX11_worst_12 : decode cX11_worst 12 = .ok (.iconst 0, 1) := by decide +kernel
theorem dX11_worst_13 : decode cX11_worst 13 = .ok (.iconst 1, 1) := by decide +kernel
theorem dX11_worst_14 : decode cX11_worst 14 = .ok (.invokestatic 79, 3) := by decide +kernel
theorem dX11_worst_17 : decode cX11_worst 17 = .ok (.ifCond .ne 10, 3) := by decide +kernel
theorem dX11_worst_20 : decode cX11_worst 20 = .ok (.aload_n 0, 1) := by decide +kernel
theorem dX11_worst_21 : decode cX11_worst 21 = .ok (.ldc 83, 2) := by decide +kernel
theorem dX11_worst_23 : decode cX11_worst 23 = .ok (.invokevirtual 84, 3) := by decide +kernel
theorem dX11_worst_26 : decode cX11_worst 26 = .ok (.ireturn, 1) := by decide +kernel
theorem dX11_worst_27 : decode cX11_worst 27 = .ok (.aload_n 0, 1) := by decide +kernel
theorem dX11_worst_28 : decode cX11_worst 28 = .ok (.getfield 44, 3) := by decide +kernel
theorem dX11_worst_31 : decode cX11_worst 31 = .ok (.aload_n 0, 1) := by decide +kernel
theorem dX11_worst_32 : decode cX11_worst 32 = .ok (.getfield 40, 3) := by decide +kernel
theorem dX11_worst_35 : decode cX11_worst 35 = .ok (.invokevirtual 198, 3) := by decide +kernel
theorem dX11_worst_38 : decode cX11_worst 38 = .ok (.iconst 0, 1) := by decide +kernel
theorem dX11_worst_39 : decode cX11_worst 39 = .ok (.istore_n 3, 1) := by decide +kernel
theorem dX11_worst_40 : decode cX11_worst 40 = .ok (.iload_n 3, 1) := by decide +kernel
theorem dX11_worst_41 : decode cX11_worst 41 = .ok (.bipush 60, 2) := by decide +kernel
theorem dX11_worst_43 : decode cX11_worst 43 = .ok (.if_icmp .gt 43, 3) := by decide +kernel
theorem dX11_worst_46 : decode cX11_worst 46 = .ok (.aload_n 0, 1) := by decide +kernel
theorem dX11_worst_47 : decode cX11_worst 47 = .ok (.getfield 44, 3) := by decide +kernel
theorem dX11_worst_50 : decode cX11_worst 50 = .ok (.iload_n 1, 1) := by decide +kernel
theorem dX11_worst_51 : decode cX11_worst 51 = .ok (.invokevirtual 205, 3) := by decide +kernel
theorem dX11_worst_54 : decode cX11_worst 54 = .ok (.istore 4, 2) := by decide +kernel
theorem dX11_worst_56 : decode cX11_worst 56 = .ok (.iload 4, 2) := by decide +kernel
theorem dX11_worst_58 : decode cX11_worst 58 = .ok (.ifCond .lt 14, 3) := by decide +kernel
theorem dX11_worst_61 : decode cX11_worst 61 = .ok (.iload_n 2, 1) := by decide +kernel
theorem dX11_worst_62 : decode cX11_worst 62 = .ok (.ifCond .ne 7, 3) := by decide +kernel
theorem dX11_worst_65 : decode cX11_worst 65 = .ok (.iload_n 3, 1) := by decide +kernel
theorem dX11_worst_66 : decode cX11_worst 66 = .ok (.goto 5, 3) := by decide +kernel
theorem dX11_worst_69 : decode cX11_worst 69 = .ok (.iload 4, 2) := by decide +kernel
theorem dX11_worst_71 : decode cX11_worst 71 = .ok (.ireturn, 1) := by decide +kernel
theorem dX11_worst_72 : decode cX11_worst 72 = .ok (.aload_n 0, 1) := by decide +kernel
theorem dX11_worst_73 : decode cX11_worst 73 = .ok (.getfield 44, 3) := by decide +kernel
theorem dX11_worst_76 : decode cX11_worst 76 = .ok (.iconst 1, 1) := by decide +kernel
theorem dX11_worst_77 : decode cX11_worst 77 = .ok (.invokevirtual 187, 3) := by decide +kernel
theorem dX11_worst_80 : decode cX11_worst 80 = .ok (.iinc 3 1, 3) := by decide +kernel
theorem dX11_worst_83 : decode cX11_worst 83 = .ok (.goto (-43), 3) := by decide +kernel
theorem dX11_worst_86 : decode cX11_worst 86 = .ok (.aload_n 0, 1) := by decide +kernel
theorem dX11_worst_87 : decode cX11_worst 87 = .ok (.ldc 208, 2) := by decide +kernel
theorem dX11_worst_89 : decode cX11_worst 89 = .ok (.invokevirtual 84, 3) := by decide +kernel
theorem dX11_worst_92 : decode cX11_worst 92 = .ok (.ireturn, 1) := by decide +kernel
theorem dX11_stay_0 : decode cX11_stay 0 = .ok (.aload_n 0, 1) := by decide +kernel
theorem dX11_stay_1 : decode cX11_stay 1 = .ok (.getfield 40, 3) := by decide +kernel
theorem dX11_stay_4 : decode cX11_stay 4 = .ok (.iconst 0, 1) := by decide +kernel
theorem dX11_stay_5 : decode cX11_stay 5 = .ok (.invokevirtual 209, 3) := by decide +kernel
theorem dX11_stay_8 : decode cX11_stay 8 = .ok (.aload_n 0, 1) := by decide +kernel
theorem dX11_stay_9 : decode cX11_stay 9 = .ok (.getfield 40, 3) := by decide +kernel
theorem dX11_stay_12 : decode cX11_stay 12 = .ok (.iconst 1, 1) := by decide +kernel
theorem dX11_stay_13 : decode cX11_stay 13 = .ok (.invokevirtual 209, 3) := by decide +kernel
theorem dX11_stay_16 : decode cX11_stay 16 = .ok (.ior, 1) := by decide +kernel
theorem dX11_stay_17 : decode cX11_stay 17 = .ok (.ireturn, 1) := by decide +kernel
theorem dX11_side_0 : decode cX11_side 0 = .ok (.iload_n 1, 1) := by decide +kernel
theorem dX11_side_1 : decode cX11_side 1 = .ok (.iconst 0, 1) := by decide +kernel
theorem dX11_side_2 : decode cX11_side 2 = .ok (.iconst 1, 1) := by decide +kernel
theorem dX11_side_3 : decode cX11_side 3 = .ok (.invokestatic 79, 3) := by decide +kernel
theorem dX11_side_6 : decode cX11_side 6 = .ok (.ifCond .ne 10, 3) := by decide +kernel
theorem dX11_side_9 : decode cX11_side 9 = .ok (.aload_n 0, 1) := by decide +kernel
theorem dX11_side_10 : decode cX11_side 10 = .ok (.ldc 83, 2) := by decide +kernel
theorem dX11_side_12 : decode cX11_side 12 = .ok (.invokevirtual 84, 3) := by decide +kernel
theorem dX11_side_15 : decode cX11_side 15 = .ok (.ireturn, 1) := by decide +kernel
theorem dX11_side_16 : decode cX11_side 16 = .ok (.aload_n 0, 1) := by decide +kernel
theorem dX11_side_17 : decode cX11_side 17 = .ok (.iconst 0, 1) := by decide +kernel
theorem dX11_side_18 : decode cX11_side 18 = .ok (.invokevirtual 212, 3) := by decide +kernel
theorem dX11_side_21 : decode cX11_side 21 = .ok (.istore_n 2, 1) := by decide +kernel
theorem dX11_side_22 : decode cX11_side 22 = .ok (.aload_n 0, 1) := by decide +kernel
theorem dX11_side_23 : decode cX11_side 23 = .ok (.iconst 1, 1) := by decide +kernel
theorem dX11_side_24 : decode cX11_side 24 = .ok (.invokevirtual 212, 3) := by decide +kernel
theorem dX11_side_27 : decode cX11_side 27 = .ok (.istore_n 3, 1) := by decide +kernel
theorem dX11_side_28 : decode cX11_side 28 = .ok (.iload_n 1, 1) := by decide +kernel
theorem dX11_side_29 : decode cX11_side 29 = .ok (.iconst 1, 1) := by decide +kernel
theorem dX11_side_30 : decode cX11_side 30 = .ok (.if_icmp .ne 9, 3) := by decide +kernel
theorem dX11_side_33 : decode cX11_side 33 = .ok (.iload_n 2, 1) := by decide +kernel
theorem dX11_side_34 : decode cX11_side 34 = .ok (.iload_n 3, 1) := by decide +kernel
theorem dX11_side_35 : decode cX11_side 35 = .ok (.invokestatic 215, 3) := by decide +kernel
theorem dX11_side_38 : decode cX11_side 38 = .ok (.ireturn, 1) := by decide +kernel
theorem dX11_side_39 : decode cX11_side 39 = .ok (.iload_n 3, 1) := by decide +kernel
theorem dX11_side_40 : decode cX11_side 40 = .ok (.iload_n 2, 1) := by decide +kernel
theorem dX11_side_41 : decode cX11_side 41 = .ok (.if_icmp .ge 7, 3) := by decide +kernel
theorem dX11_side_44 : decode cX11_side 44 = .ok (.iconst 1, 1) := by decide +kernel
theorem dX11_side_45 : decode cX11_side 45 = .ok (.goto 4, 3) := by decide +kernel
theorem dX11_side_48 : decode cX11_side 48 = .ok (.iconst 0, 1) := by decide +kernel
theorem dX11_side_49 : decode cX11_side 49 = .ok (.ireturn, 1) := by decide +kernel
theorem dX11_seldom_0 : decode cX11_seldom 0 = .ok (.iload_n 1, 1) := by decide +kernel
theorem dX11_seldom_1 : decode cX11_seldom 1 = .ok (.iconst 1, 1) := by decide +kernel
theorem dX11_seldom_2 : decode cX11_seldom 2 = .ok (.sipush 999, 3) := by decide +kernel
theorem dX11_seldom_5 : decode cX11_seldom 5 = .ok (.invokestatic 79, 3) := by decide +kernel
theorem dX11_seldom_8 : decode cX11_seldom 8 = .ok (.ifCond .ne 10, 3) := by decide +kernel
theorem dX11_seldom_11 : decode cX11_seldom 11 = .ok (.aload_n 0, 1) := by decide +kernel
theorem dX11_seldom_12 : decode cX11_seldom 12 = .ok (.ldc 83, 2) := by decide +kernel
theorem dX11_seldom_14 : decode cX11_seldom 14 = .ok (.invokevirtual 84, 3) := by decide +kernel
theorem dX11_seldom_17 : decode cX11_seldom 17 = .ok (.ireturn, 1) := by decide +kernel
theorem dX11_seldom_18 : decode cX11_seldom 18 = .ok (.bipush 14, 2) := by decide +kernel
theorem dX11_seldom_20 : decode cX11_seldom 20 = .ok (.istore_n 2, 1) := by decide +kernel
theorem dX11_seldom_21 : decode cX11_seldom 21 = .ok (.iload_n 2, 1) := by decide +kernel
theorem dX11_seldom_22 : decode cX11_seldom 22 = .ok (.iconst 1, 1) := by decide +kernel
theorem dX11_seldom_23 : decode cX11_seldom 23 = .ok (.if_icmp .lt 20, 3) := by decide +kernel
theorem dX11_seldom_26 : decode cX11_seldom 26 = .ok (.aload_n 0, 1) := by decide +kernel
theorem dX11_seldom_27 : decode cX11_seldom 27 = .ok (.iload_n 1, 1) := by decide +kernel
theorem dX11_seldom_28 : decode cX11_seldom 28 = .ok (.iload_n 2, 1) := by decide +kernel
theorem dX11_seldom_29 : decode cX11_seldom 29 = .ok (.invokevirtual 218, 3) := by decide +kernel
theorem dX11_seldom_32 : decode cX11_seldom 32 = .ok (.ifCond .eq 5, 3) := by decide +kernel
theorem dX11_seldom_35 : decode cX11_seldom 35 = .ok (.iload_n 2, 1) := by decide +kernel
theorem dX11_seldom_36 : decode cX11_seldom 36 = .ok (.ireturn, 1) := by decide +kernel
theorem dX11_seldom_37 : decode cX11_seldom 37 = .ok (.iinc 2 (-1), 3) := by decide +kernel
theorem dX11_seldom_40 : decode cX11_seldom 40 = .ok (.goto (-19), 3) := by decide +kernel
theorem dX11_seldom_43 : decode cX11_seldom 43 = .ok (.aload_n 0, 1) := by decide +kernel
theorem dX11_seldom_44 : decode cX11_seldom 44 = .ok (.ldc 208, 2) := by decide +kernel
theorem dX11_seldom_46 : decode cX11_seldom 46 = .ok (.invokevirtual 84, 3) := by decide +kernel
theorem dX11_seldom_49 : decode cX11_seldom 49 = .ok (.ireturn, 1) := by decide +kernel
theorem dX11_leastFine_0 : decode cX11_leastFine 0 = .ok (.iload_n 1, 1) := by decide +kernel
theorem dX11_leastFine_1 : decode cX11_leastFine 1 = .ok (.iconst 0, 1) := by decide +kernel
theorem dX11_leastFine_2 : decode cX11_leastFine 2 = .ok (.iconst 1, 1) := by decide +kernel
theorem dX11_leastFine_3 : decode cX11_leastFine 3 = .ok (.invokestatic 79, 3) := by decide +kernel
theorem dX11_leastFine_6 : decode cX11_leastFine 6 = .ok (.ifCond .ne 10, 3) := by decide +kernel
theorem dX11_leastFine_9 : decode cX11_leastFine 9 = .ok (.aload_n 0, 1) := by decide +kernel
theorem dX11_leastFine_10 : decode cX11_leastFine 10 = .ok (.ldc 83, 2) := by decide +kernel
theorem dX11_leastFine_12 : decode cX11_leastFine 12 = .ok (.invokevirtual 84, 3) := by decide +kernel
theorem dX11_leastFine_15 : decode cX11_leastFine 15 = .ok (.ireturn, 1) := by decide +kernel
theorem dX11_leastFine_16 : decode cX11_leastFine 16 = .ok (.aload_n 0, 1) := by decide +kernel
theorem dX11_leastFine_17 : decode cX11_leastFine 17 = .ok (.getfield 44, 3) := by decide +kernel
theorem dX11_leastFine_20 : decode cX11_leastFine 20 = .ok (.aload_n 0, 1) := by decide +kernel
theorem dX11_leastFine_21 : decode cX11_leastFine 21 = .ok (.getfield 40, 3) := by decide +kernel
theorem dX11_leastFine_24 : decode cX11_leastFine 24 = .ok (.invokevirtual 198, 3) := by decide +kernel
theorem dX11_leastFine_27 : decode cX11_leastFine 27 = .ok (.iconst 0, 1) := by decide +kernel
theorem dX11_leastFine_28 : decode cX11_leastFine 28 = .ok (.istore_n 2, 1) := by decide +kernel
theorem dX11_leastFine_29 : decode cX11_leastFine 29 = .ok (.iload_n 2, 1) := by decide +kernel
theorem dX11_leastFine_30 : decode cX11_leastFine 30 = .ok (.bipush 99, 2) := by decide +kernel
theorem dX11_leastFine_32 : decode cX11_leastFine 32 = .ok (.if_icmp .gt 30, 3) := by decide +kernel
theorem dX11_leastFine_35 : decode cX11_leastFine 35 = .ok (.aload_n 0, 1) := by decide +kernel
theorem dX11_leastFine_36 : decode cX11_leastFine 36 = .ok (.getfield 44, 3) := by decide +kernel
theorem dX11_leastFine_39 : decode cX11_leastFine 39 = .ok (.iload_n 2, 1) := by decide +kernel
theorem dX11_leastFine_40 : decode cX11_leastFine 40 = .ok (.putfield 141, 3) := by decide +kernel
theorem dX11_leastFine_43 : decode cX11_leastFine 43 = .ok (.aload_n 0, 1) := by decide +kernel
theorem dX11_leastFine_44 : decode cX11_leastFine 44 = .ok (.getfield 44, 3) := by decide +kernel
theorem dX11_leastFine_47 : decode cX11_leastFine 47 = .ok (.iload_n 1, 1) := by decide +kernel
theorem dX11_leastFine_48 : decode cX11_leastFine 48 = .ok (.invokevirtual 209, 3) := by decide +kernel
theorem dX11_leastFine_51 : decode cX11_leastFine 51 = .ok (.ifCond .ne 5, 3) := by decide +kernel
theorem dX11_leastFine_54 : decode cX11_leastFine 54 = .ok (.iload_n 2, 1) := by decide +kernel
theorem dX11_leastFine_55 : decode cX11_leastFine 55 = .ok (.ireturn, 1) := by decide +kernel
theorem dX11_leastFine_56 : decode cX11_leastFine 56 = .ok (.iinc 2 1, 3) := by decide +kernel
theorem dX11_leastFine_59 : decode cX11_leastFine 59 = .ok (.goto (-30), 3) := by decide +kernel
theorem dX11_leastFine_62 : decode cX11_leastFine 62 = .ok (.aload_n 0, 1) := by decide +kernel
theorem dX11_leastFine_63 : decode cX11_leastFine 63 = .ok (.ldc 208, 2) := by decide +kernel
theorem dX11_leastFine_65 : decode cX11_leastFine 65 = .ok (.invokevirtual 84, 3) := by decide +kernel
theorem dX11_leastFine_68 : decode cX11_leastFine 68 = .ok (.ireturn, 1) := by decide +kernel
theorem dX11_tow_0 : decode cX11_tow 0 = .ok (.aload_n 0, 1) := by decide +kernel
theorem dX11_tow_1 : decode cX11_tow 1 = .ok (.getfield 40, 3) := by decide +kernel
theorem dX11_tow_4 : decode cX11_tow 4 = .ok (.iload_n 1, 1) := by decide +kernel
theorem dX11_tow_5 : decode cX11_tow 5 = .ok (.invokevirtual 113, 3) := by decide +kernel
theorem dX11_tow_8 : decode cX11_tow 8 = .ok (.ifCond .eq 24, 3) := by decide +kernel
theorem dX11_tow_11 : decode cX11_tow 11 = .ok (.iload_n 2, 1) := by decide +kernel
theorem dX11_tow_12 : decode cX11_tow 12 = .ok (.iconst 1, 1) := by decide +kernel
theorem dX11_tow_13 : decode cX11_tow 13 = .ok (.sipush 999, 3) := by decide +kernel
theorem dX11_tow_16 : decode cX11_tow 16 = .ok (.invokestatic 79, 3) := by decide +kernel
theorem dX11_tow_19 : decode cX11_tow 19 = .ok (.ifCond .eq 13, 3) := by decide +kernel
theorem dX11_tow_22 : decode cX11_tow 22 = .ok (.iload_n 3, 1) := by decide +kernel
theorem dX11_tow_23 : decode cX11_tow 23 = .ok (.iconst 0, 1) := by decide +kernel
theorem dX11_tow_24 : decode cX11_tow 24 = .ok (.bipush 20, 2) := by decide +kernel
theorem dX11_tow_26 : decode cX11_tow 26 = .ok (.invokestatic 79, 3) := by decide +kernel
theorem dX11_tow_29 : decode cX11_tow 29 = .ok (.ifCond .ne 10, 3) := by decide +kernel
theorem dX11_tow_32 : decode cX11_tow 32 = .ok (.aload_n 0, 1) := by decide +kernel
theorem dX11_tow_33 : decode cX11_tow 33 = .ok (.ldc 83, 2) := by decide +kernel
theorem dX11_tow_35 : decode cX11_tow 35 = .ok (.invokevirtual 84, 3) := by decide +kernel
theorem dX11_tow_38 : decode cX11_tow 38 = .ok (.ireturn, 1) := by decide +kernel
theorem dX11_tow_39 : decode cX11_tow 39 = .ok (.aload_n 0, 1) := by decide +kernel
theorem dX11_tow_40 : decode cX11_tow 40 = .ok (.iconst 0, 1) := by decide +kernel
theorem dX11_tow_41 : decode cX11_tow 41 = .ok (.iload_n 1, 1) := by decide +kernel
theorem dX11_tow_42 : decode cX11_tow 42 = .ok (.iload_n 3, 1) := by decide +kernel
theorem dX11_tow_43 : decode cX11_tow 43 = .ok (.invokevirtual 221, 3) := by decide +kernel
theorem dX11_tow_46 : decode cX11_tow 46 = .ok (.iload_n 2, 1) := by decide +kernel
theorem dX11_tow_47 : decode cX11_tow 47 = .ok (.if_icmp .ge 5, 3) := by decide +kernel
theorem dX11_tow_50 : decode cX11_tow 50 = .ok (.iconst 0, 1) := by decide +kernel
theorem dX11_tow_51 : decode cX11_tow 51 = .ok (.ireturn, 1) := by decide +kernel
theorem dX11_tow_52 : decode cX11_tow 52 = .ok (.iconst 0, 1) := by decide +kernel
theorem dX11_tow_53 : decode cX11_tow 53 = .ok (.istore 4, 2) := by decide +kernel
theorem dX11_tow_55 : decode cX11_tow 55 = .ok (.iload 4, 2) := by decide +kernel
theorem dX11_tow_57 : decode cX11_tow 57 = .ok (.aload_n 0, 1) := by decide +kernel
theorem dX11_tow_58 : decode cX11_tow 58 = .ok (.getfield 40, 3) := by decide +kernel
theorem dX11_tow_61 : decode cX11_tow 61 = .ok (.getfield 88, 3) := by decide +kernel
theorem dX11_tow_64 : decode cX11_tow 64 = .ok (.if_icmp .ge 41, 3) := by decide +kernel
theorem dX11_tow_67 : decode cX11_tow 67 = .ok (.aload_n 0, 1) := by decide +kernel
theorem dX11_tow_68 : decode cX11_tow 68 = .ok (.getfield 40, 3) := by decide +kernel
theorem dX11_tow_71 : decode cX11_tow 71 = .ok (.iload 4, 2) := by decide +kernel
theorem dX11_tow_73 : decode cX11_tow 73 = .ok (.invokevirtual 123, 3) := by decide +kernel
theorem dX11_tow_76 : decode cX11_tow 76 = .ok (.iconst 1, 1) := by decide +kernel
theorem dX11_tow_77 : decode cX11_tow 77 = .ok (.if_icmp .ne 22, 3) := by decide +kernel
theorem dX11_tow_80 : decode cX11_tow 80 = .ok (.aload_n 0, 1) := by decide +kernel
theorem dX11_tow_81 : decode cX11_tow 81 = .ok (.iconst 1, 1) := by decide +kernel
theorem dX11_tow_82 : decode cX11_tow 82 = .ok (.iload 4, 2) := by decide +kernel
theorem dX11_tow_84 : decode cX11_tow 84 = .ok (.ishl, 1) := by decide +kernel
theorem dX11_tow_85 : decode cX11_tow 85 = .ok (.iload_n 1, 1) := by decide +kernel
theorem dX11_tow_86 : decode cX11_tow 86 = .ok (.iload_n 3, 1) := by decide +kernel
theorem dX11_tow_87 : decode cX11_tow 87 = .ok (.invokevirtual 221, 3) := by decide +kernel
theorem dX11_tow_90 : decode cX11_tow 90 = .ok (.iload_n 2, 1) := by decide +kernel
theorem dX11_tow_91 : decode cX11_tow 91 = .ok (.if_icmp .ge 8, 3) := by decide +kernel
theorem dX11_tow_94 : decode cX11_tow 94 = .ok (.iconst 1, 1) := by decide +kernel
theorem dX11_tow_95 : decode cX11_tow 95 = .ok (.iload 4, 2) := by decide +kernel
theorem dX11_tow_97 : decode cX11_tow 97 = .ok (.ishl, 1) := by decide +kernel
theorem dX11_tow_98 : decode cX11_tow 98 = .ok (.ireturn, 1) := by decide +kernel
theorem dX11_tow_99 : decode cX11_tow 99 = .ok (.iinc 4 1, 3) := by decide +kernel
theorem dX11_tow_102 : decode cX11_tow 102 = .ok (.goto (-47), 3) := by decide +kernel
theorem dX11_tow_105 : decode cX11_tow 105 = .ok (.aload_n 0, 1) := by decide +kernel
theorem dX11_tow_106 : decode cX11_tow 106 = .ok (.iload_n 1, 1) := by decide +kernel
theorem dX11_tow_107 : decode cX11_tow 107 = .ok (.iload_n 2, 1) := by decide +kernel
theorem dX11_tow_108 : decode cX11_tow 108 = .ok (.iload_n 3, 1) := by decide +kernel
theorem dX11_tow_109 : decode cX11_tow 109 = .ok (.invokevirtual 224, 3) := by decide +kernel
theorem dX11_tow_112 : decode cX11_tow 112 = .ok (.istore 4, 2) := by decide +kernel
theorem dX11_tow_114 : decode cX11_tow 114 = .ok (.iload 4, 2) := by decide +kernel
theorem dX11_tow_116 : decode cX11_tow 116 = .ok (.ifCond .ne 12, 3) := by decide +kernel
theorem dX11_tow_119 : decode cX11_tow 119 = .ok (.aload_n 0, 1) := by decide +kernel
theorem dX11_tow_120 : decode cX11_tow 120 = .ok (.ldc 208, 2) := by decide +kernel
theorem dX11_tow_122 : decode cX11_tow 122 = .ok (.invokevirtual 84, 3) := by decide +kernel
theorem dX11_tow_125 : decode cX11_tow 125 = .ok (.goto 5, 3) := by decide +kernel
theorem dX11_tow_128 : decode cX11_tow 128 = .ok (.iload 4, 2) := by decide +kernel
theorem dX11_tow_130 : decode cX11_tow 130 = .ok (.ireturn, 1) := by decide +kernel
theorem dX11_broom_0 : decode cX11_broom 0 = .ok (.iload_n 1, 1) := by decide +kernel
theorem dX11_broom_1 : decode cX11_broom 1 = .ok (.iconst 0, 1) := by decide +kernel
theorem dX11_broom_2 : decode cX11_broom 2 = .ok (.bipush 30, 2) := by decide +kernel
theorem dX11_broom_4 : decode cX11_broom 4 = .ok (.invokestatic 79, 3) := by decide +kernel
theorem dX11_broom_7 : decode cX11_broom 7 = .ok (.ifCond .eq 12, 3) := by decide +kernel
theorem dX11_broom_10 : decode cX11_broom 10 = .ok (.iload_n 2, 1) := by decide +kernel
theorem dX11_broom_11 : decode cX11_broom 11 = .ok (.iconst 0, 1) := by decide +kernel
theorem dX11_broom_12 : decode cX11_broom 12 = .ok (.iconst 1, 1) := by decide +kernel
theorem dX11_broom_13 : decode cX11_broom 13 = .ok (.invokestatic 79, 3) := by decide +kernel
theorem dX11_broom_16 : decode cX11_broom 16 = .ok (.ifCond .ne 10, 3) := by decide +kernel
theorem dX11_broom_19 : decode cX11_broom 19 = .ok (.aload_n 0, 1) := by decide +kernel
theorem dX11_broom_20 : decode cX11_broom 20 = .ok (.ldc 83, 2) := by decide +kernel
theorem dX11_broom_22 : decode cX11_broom 22 = .ok (.invokevirtual 84, 3) := by decide +kernel
theorem dX11_broom_25 : decode cX11_broom 25 = .ok (.ireturn, 1) := by decide +kernel
theorem dX11_broom_26 : decode cX11_broom 26 = .ok (.aload_n 0, 1) := by decide +kernel
theorem dX11_broom_27 : decode cX11_broom 27 = .ok (.getfield 40, 3) := by decide +kernel
theorem dX11_broom_30 : decode cX11_broom 30 = .ok (.getfield 88, 3) := by decide +kernel
theorem dX11_broom_33 : decode cX11_broom 33 = .ok (.ifCond .ne 10, 3) := by decide +kernel
theorem dX11_broom_36 : decode cX11_broom 36 = .ok (.aload_n 0, 1) := by decide +kernel
theorem dX11_broom_37 : decode cX11_broom 37 = .ok (.ldc 208, 2) := by decide +kernel
theorem dX11_broom_39 : decode cX11_broom 39 = .ok (.invokevirtual 84, 3) := by decide +kernel
theorem dX11_broom_42 : decode cX11_broom 42 = .ok (.ireturn, 1) := by decide +kernel
theorem dX11_broom_43 : decode cX11_broom 43 = .ok (.iconst 0, 1) := by decide +kernel
theorem dX11_broom_44 : decode cX11_broom 44 = .ok (.istore_n 3, 1) := by decide +kernel
theorem dX11_broom_45 : decode cX11_broom 45 = .ok (.sipush 1000, 3) := by decide +kernel
theorem dX11_broom_48 : decode cX11_broom 48 = .ok (.istore 4, 2) := by decide +kernel
theorem dX11_broom_50 : decode cX11_broom 50 = .ok (.iconst 0, 1) := by decide +kernel
theorem dX11_broom_51 : decode cX11_broom 51 = .ok (.istore 5, 2) := by decide +kernel
theorem dX11_broom_53 : decode cX11_broom 53 = .ok (.iload 5, 2) := by decide +kernel
theorem dX11_broom_55 : decode cX11_broom 55 = .ok (.aload_n 0, 1) := by decide +kernel
theorem dX11_broom_56 : decode cX11_broom 56 = .ok (.getfield 40, 3) := by decide +kernel
theorem dX11_broom_59 : decode cX11_broom 59 = .ok (.getfield 88, 3) := by decide +kernel
theorem dX11_broom_62 : decode cX11_broom 62 = .ok (.if_icmp .ge 62, 3) := by decide +kernel
theorem dX11_broom_65 : decode cX11_broom 65 = .ok (.aload_n 0, 1) := by decide +kernel
theorem dX11_broom_66 : decode cX11_broom 66 = .ok (.getfield 44, 3) := by decide +kernel
theorem dX11_broom_69 : decode cX11_broom 69 = .ok (.aload_n 0, 1) := by decide +kernel
theorem dX11_broom_70 : decode cX11_broom 70 = .ok (.getfield 40, 3) := by decide +kernel
theorem dX11_broom_73 : decode cX11_broom 73 = .ok (.invokevirtual 198, 3) := by decide +kernel
theorem dX11_broom_76 : decode cX11_broom 76 = .ok (.aload_n 0, 1) := by decide +kernel
theorem dX11_broom_77 : decode cX11_broom 77 = .ok (.getfield 44, 3) := by decide +kernel
theorem dX11_broom_80 : decode cX11_broom 80 = .ok (.getfield 97, 3) := by decide +kernel
theorem dX11_broom_83 : decode cX11_broom 83 = .ok (.iload 5, 2) := by decide +kernel
theorem dX11_broom_85 : decode cX11_broom 85 = .ok (.iconst 0, 1) := by decide +kernel
theorem dX11_broom_86 : decode cX11_broom 86 = .ok (.iastore, 1) := by decide +kernel
theorem dX11_broom_87 : decode cX11_broom 87 = .ok (.aload_n 0, 1) := by decide +kernel
theorem dX11_broom_88 : decode cX11_broom 88 = .ok (.getfield 44, 3) := by decide +kernel
theorem dX11_broom_91 : decode cX11_broom 91 = .ok (.iload_n 1, 1) := by decide +kernel
theorem dX11_broom_92 : decode cX11_broom 92 = .ok (.invokevirtual 187, 3) := by decide +kernel
theorem dX11_broom_95 : decode cX11_broom 95 = .ok (.aload_n 0, 1) := by decide +kernel
theorem dX11_broom_96 : decode cX11_broom 96 = .ok (.getfield 44, 3) := by decide +kernel
theorem dX11_broom_99 : decode cX11_broom 99 = .ok (.invokevirtual 227, 3) := by decide +kernel
theorem dX11_broom_102 : decode cX11_broom 102 = .ok (.istore 6, 2) := by decide +kernel
theorem dX11_broom_104 : decode cX11_broom 104 = .ok (.iload 6, 2) := by decide +kernel
theorem dX11_broom_106 : decode cX11_broom 106 = .ok (.iload 4, 2) := by decide +kernel
theorem dX11_broom_108 : decode cX11_broom 108 = .ok (.if_icmp .ge 10, 3) := by decide +kernel
theorem dX11_broom_111 : decode cX11_broom 111 = .ok (.iload 6, 2) := by decide +kernel
theorem dX11_broom_113 : decode cX11_broom 113 = .ok (.istore 4, 2) := by decide +kernel
theorem dX11_broom_115 : decode cX11_broom 115 = .ok (.iload 5, 2) := by decide +kernel
theorem dX11_broom_117 : decode cX11_broom 117 = .ok (.istore_n 3, 1) := by decide +kernel
theorem dX11_broom_118 : decode cX11_broom 118 = .ok (.iinc 5 1, 3) := by decide +kernel
theorem dX11_broom_121 : decode cX11_broom 121 = .ok (.goto (-68), 3) := by decide +kernel
theorem dX11_broom_124 : decode cX11_broom 124 = .ok (.iload_n 2, 1) := by decide +kernel
theorem dX11_broom_125 : decode cX11_broom 125 = .ok (.ifCond .ne 7, 3) := by decide +kernel
theorem dX11_broom_128 : decode cX11_broom 128 = .ok (.iload_n 3, 1) := by decide +kernel
theorem dX11_broom_129 : decode cX11_broom 129 = .ok (.goto 5, 3) := by decide +kernel
theorem dX11_broom_132 : decode cX11_broom 132 = .ok (.iload 4, 2) := by decide +kernel
theorem dX11_broom_134 : decode cX11_broom 134 = .ok (.ireturn, 1) := by decide +kernel
theorem dX11_fits_0 : decode cX11_fits 0 = .ok (.iload_n 1, 1) := by decide +kernel
theorem dX11_fits_1 : decode cX11_fits 1 = .ok (.invokestatic 230, 3) := by decide +kernel
theorem dX11_fits_4 : decode cX11_fits 4 = .ok (.ifCond .eq 12, 3) := by decide +kernel
theorem dX11_fits_7 : decode cX11_fits 7 = .ok (.iload_n 2, 1) := by decide +kernel
theorem dX11_fits_8 : decode cX11_fits 8 = .ok (.iconst 0, 1) := by decide +kernel
theorem dX11_fits_9 : decode cX11_fits 9 = .ok (.iconst 1, 1) := by decide +kernel
theorem dX11_fits_10 : decode cX11_fits 10 = .ok (.invokestatic 79, 3) := by decide +kernel
theorem dX11_fits_13 : decode cX11_fits 13 = .ok (.ifCond .ne 10, 3) := by decide +kernel
theorem dX11_fits_16 : decode cX11_fits 16 = .ok (.aload_n 0, 1) := by decide +kernel
theorem dX11_fits_17 : decode cX11_fits 17 = .ok (.ldc 83, 2) := by decide +kernel
theorem dX11_fits_19 : decode cX11_fits 19 = .ok (.invokevirtual 84, 3) := by decide +kernel
theorem dX11_fits_22 : decode cX11_fits 22 = .ok (.ireturn, 1) := by decide +kernel
theorem dX11_fits_23 : decode cX11_fits 23 = .ok (.aload_n 0, 1) := by decide +kernel
theorem dX11_fits_24 : decode cX11_fits 24 = .ok (.getfield 69, 3) := by decide +kernel
theorem dX11_fits_27 : decode cX11_fits 27 = .ok (.iload_n 1, 1) := by decide +kernel
theorem dX11_fits_28 : decode cX11_fits 28 = .ok (.iaload, 1) := by decide +kernel
theorem dX11_fits_29 : decode cX11_fits 29 = .ok (.ifCond .eq 19, 3) := by decide +kernel
theorem dX11_fits_32 : decode cX11_fits 32 = .ok (.aload_n 0, 1) := by decide +kernel
theorem dX11_fits_33 : decode cX11_fits 33 = .ok (.getfield 73, 3) := by decide +kernel
theorem dX11_fits_36 : decode cX11_fits 36 = .ok (.iload_n 1, 1) := by decide +kernel
theorem dX11_fits_37 : decode cX11_fits 37 = .ok (.iaload, 1) := by decide +kernel
theorem dX11_fits_38 : decode cX11_fits 38 = .ok (.aload_n 0, 1) := by decide +kernel
theorem dX11_fits_39 : decode cX11_fits 39 = .ok (.getfield 40, 3) := by decide +kernel
theorem dX11_fits_42 : decode cX11_fits 42 = .ok (.getfield 88, 3) := by decide +kernel
theorem dX11_fits_45 : decode cX11_fits 45 = .ok (.if_icmp .eq 10, 3) := by decide +kernel
theorem dX11_fits_48 : decode cX11_fits 48 = .ok (.aload_n 0, 1) := by decide +kernel
theorem dX11_fits_49 : decode cX11_fits 49 = .ok (.ldc 208, 2) := by decide +kernel
theorem dX11_fits_51 : decode cX11_fits 51 = .ok (.invokevirtual 84, 3) := by decide +kernel
theorem dX11_fits_54 : decode cX11_fits 54 = .ok (.ireturn, 1) := by decide +kernel
theorem dX11_fits_55 : decode cX11_fits 55 = .ok (.iconst 0, 1) := by decide +kernel
theorem dX11_fits_56 : decode cX11_fits 56 = .ok (.istore_n 3, 1) := by decide +kernel
theorem dX11_fits_57 : decode cX11_fits 57 = .ok (.iconst (-1), 1) := by decide +kernel
theorem dX11_fits_58 : decode cX11_fits 58 = .ok (.istore 4, 2) := by decide +kernel
theorem dX11_fits_60 : decode cX11_fits 60 = .ok (.iconst 0, 1) := by decide +kernel
theorem dX11_fits_61 : decode cX11_fits 61 = .ok (.istore 5, 2) := by decide +kernel
theorem dX11_fits_63 : decode cX11_fits 63 = .ok (.iload 5, 2) := by decide +kernel
theorem dX11_fits_65 : decode cX11_fits 65 = .ok (.bipush 99, 2) := by decide +kernel
theorem dX11_fits_67 : decode cX11_fits 67 = .ok (.if_icmp .gt 62, 3) := by decide +kernel
theorem dX11_fits_70 : decode cX11_fits 70 = .ok (.aload_n 0, 1) := by decide +kernel
theorem dX11_fits_71 : decode cX11_fits 71 = .ok (.getfield 44, 3) := by decide +kernel
theorem dX11_fits_74 : decode cX11_fits 74 = .ok (.aload_n 0, 1) := by decide +kernel
theorem dX11_fits_75 : decode cX11_fits 75 = .ok (.getfield 40, 3) := by decide +kernel
theorem dX11_fits_78 : decode cX11_fits 78 = .ok (.invokevirtual 198, 3) := by decide +kernel
theorem dX11_fits_81 : decode cX11_fits 81 = .ok (.aload_n 0, 1) := by decide +kernel
theorem dX11_fits_82 : decode cX11_fits 82 = .ok (.getfield 44, 3) := by decide +kernel
theorem dX11_fits_85 : decode cX11_fits 85 = .ok (.iload 5, 2) := by decide +kernel
theorem dX11_fits_87 : decode cX11_fits 87 = .ok (.putfield 141, 3) := by decide +kernel
theorem dX11_fits_90 : decode cX11_fits 90 = .ok (.aload_n 0, 1) := by decide +kernel
theorem dX11_fits_91 : decode cX11_fits 91 = .ok (.getfield 44, 3) := by decide +kernel
theorem dX11_fits_94 : decode cX11_fits 94 = .ok (.iconst 1, 1) := by decide +kernel
theorem dX11_fits_95 : decode cX11_fits 95 = .ok (.invokevirtual 187, 3) := by decide +kernel
theorem dX11_fits_98 : decode cX11_fits 98 = .ok (.aload_n 0, 1) := by decide +kernel
theorem dX11_fits_99 : decode cX11_fits 99 = .ok (.iload_n 1, 1) := by decide +kernel
theorem dX11_fits_100 : decode cX11_fits 100 = .ok (.invokevirtual 233, 3) := by decide +kernel
theorem dX11_fits_103 : decode cX11_fits 103 = .ok (.ifCond .eq 20, 3) := by decide +kernel
theorem dX11_fits_106 : decode cX11_fits 106 = .ok (.iinc 3 1, 3) := by decide +kernel
theorem dX11_fits_109 : decode cX11_fits 109 = .ok (.iload 4, 2) := by decide +kernel
theorem dX11_fits_111 : decode cX11_fits 111 = .ok (.ifCond .ge 8, 3) := by decide +kernel
theorem dX11_fits_114 : decode cX11_fits 114 = .ok (.iload 5, 2) := by decide +kernel
theorem dX11_fits_116 : decode cX11_fits 116 = .ok (.goto 5, 3) := by decide +kernel
theorem dX11_fits_119 : decode cX11_fits 119 = .ok (.iload 4, 2) := by decide +kernel
theorem dX11_fits_121 : decode cX11_fits 121 = .ok (.istore 4, 2) := by decide +kernel
theorem dX11_fits_123 : decode cX11_fits 123 = .ok (.iinc 5 1, 3) := by decide +kernel
theorem dX11_fits_126 : decode cX11_fits 126 = .ok (.goto (-63), 3) := by decide +kernel
theorem dX11_fits_129 : decode cX11_fits 129 = .ok (.iload_n 2, 1) := by decide +kernel
theorem dX11_fits_130 : decode cX11_fits 130 = .ok (.ifCond .ne 5, 3) := by decide +kernel
theorem dX11_fits_133 : decode cX11_fits 133 = .ok (.iload_n 3, 1) := by decide +kernel
theorem dX11_fits_134 : decode cX11_fits 134 = .ok (.ireturn, 1) := by decide +kernel
theorem dX11_fits_135 : decode cX11_fits 135 = .ok (.iload_n 3, 1) := by decide +kernel
theorem dX11_fits_136 : decode cX11_fits 136 = .ok (.ifCond .ne 12, 3) := by decide +kernel
theorem dX11_fits_139 : decode cX11_fits 139 = .ok (.aload_n 0, 1) := by decide +kernel
theorem dX11_fits_140 : decode cX11_fits 140 = .ok (.ldc 208, 2) := by decide +kernel
theorem dX11_fits_142 : decode cX11_fits 142 = .ok (.invokevirtual 84, 3) := by decide +kernel
theorem dX11_fits_145 : decode cX11_fits 145 = .ok (.goto 5, 3) := by decide +kernel
theorem dX11_fits_148 : decode cX11_fits 148 = .ok (.iload 4, 2) := by decide +kernel
theorem dX11_fits_150 : decode cX11_fits 150 = .ok (.ireturn, 1) := by decide +kernel
theorem dX11_paid_0 : decode cX11_paid 0 = .ok (.iload_n 1, 1) := by decide +kernel
theorem dX11_paid_1 : decode cX11_paid 1 = .ok (.iconst 0, 1) := by decide +kernel
theorem dX11_paid_2 : decode cX11_paid 2 = .ok (.bipush 60, 2) := by decide +kernel
theorem dX11_paid_4 : decode cX11_paid 4 = .ok (.invokestatic 79, 3) := by decide +kernel
theorem dX11_paid_7 : decode cX11_paid 7 = .ok (.ifCond .ne 10, 3) := by decide +kernel
theorem dX11_paid_10 : decode cX11_paid 10 = .ok (.aload_n 0, 1) := by decide +kernel
theorem dX11_paid_11 : decode cX11_paid 11 = .ok (.ldc 83, 2) := by decide +kernel
theorem dX11_paid_13 : decode cX11_paid 13 = .ok (.invokevirtual 84, 3) := by decide +kernel
theorem dX11_paid_16 : decode cX11_paid 16 = .ok (.ireturn, 1) := by decide +kernel
theorem dX11_paid_17 : decode cX11_paid 17 = .ok (.aload_n 0, 1) := by decide +kernel
theorem dX11_paid_18 : decode cX11_paid 18 = .ok (.getfield 44, 3) := by decide +kernel
theorem dX11_paid_21 : decode cX11_paid 21 = .ok (.aload_n 0, 1) := by decide +kernel
theorem dX11_paid_22 : decode cX11_paid 22 = .ok (.getfield 40, 3) := by decide +kernel
theorem dX11_paid_25 : decode cX11_paid 25 = .ok (.invokevirtual 198, 3) := by decide +kernel
theorem dX11_paid_28 : decode cX11_paid 28 = .ok (.aload_n 0, 1) := by decide +kernel
theorem dX11_paid_29 : decode cX11_paid 29 = .ok (.getfield 44, 3) := by decide +kernel
theorem dX11_paid_32 : decode cX11_paid 32 = .ok (.iload_n 1, 1) := by decide +kernel
theorem dX11_paid_33 : decode cX11_paid 33 = .ok (.invokevirtual 187, 3) := by decide +kernel
theorem dX11_paid_36 : decode cX11_paid 36 = .ok (.aload_n 0, 1) := by decide +kernel
theorem dX11_paid_37 : decode cX11_paid 37 = .ok (.getfield 44, 3) := by decide +kernel
theorem dX11_paid_40 : decode cX11_paid 40 = .ok (.getfield 144, 3) := by decide +kernel
theorem dX11_paid_43 : decode cX11_paid 43 = .ok (.aload_n 0, 1) := by decide +kernel
theorem dX11_paid_44 : decode cX11_paid 44 = .ok (.getfield 40, 3) := by decide +kernel
theorem dX11_paid_47 : decode cX11_paid 47 = .ok (.getfield 144, 3) := by decide +kernel
theorem dX11_paid_50 : decode cX11_paid 50 = .ok (.isub, 1) := by decide +kernel
theorem dX11_paid_51 : decode cX11_paid 51 = .ok (.ireturn, 1) := by decide +kernel
theorem dX11_bell_0 : decode cX11_bell 0 = .ok (.iload_n 1, 1) := by decide +kernel
theorem dX11_bell_1 : decode cX11_bell 1 = .ok (.iconst 0, 1) := by decide +kernel
theorem dX11_bell_2 : decode cX11_bell 2 = .ok (.bipush 60, 2) := by decide +kernel
theorem dX11_bell_4 : decode cX11_bell 4 = .ok (.invokestatic 79, 3) := by decide +kernel
theorem dX11_bell_7 : decode cX11_bell 7 = .ok (.ifCond .ne 10, 3) := by decide +kernel
theorem dX11_bell_10 : decode cX11_bell 10 = .ok (.aload_n 0, 1) := by decide +kernel
theorem dX11_bell_11 : decode cX11_bell 11 = .ok (.ldc 83, 2) := by decide +kernel
theorem dX11_bell_13 : decode cX11_bell 13 = .ok (.invokevirtual 84, 3) := by decide +kernel
theorem dX11_bell_16 : decode cX11_bell 16 = .ok (.ireturn, 1) := by decide +kernel
theorem dX11_bell_17 : decode cX11_bell 17 = .ok (.aload_n 0, 1) := by decide +kernel
theorem dX11_bell_18 : decode cX11_bell 18 = .ok (.getfield 44, 3) := by decide +kernel
theorem dX11_bell_21 : decode cX11_bell 21 = .ok (.aload_n 0, 1) := by decide +kernel
theorem dX11_bell_22 : decode cX11_bell 22 = .ok (.getfield 40, 3) := by decide +kernel
theorem dX11_bell_25 : decode cX11_bell 25 = .ok (.invokevirtual 198, 3) := by decide +kernel
theorem dX11_bell_28 : decode cX11_bell 28 = .ok (.aload_n 0, 1) := by decide +kernel
theorem dX11_bell_29 : decode cX11_bell 29 = .ok (.getfield 44, 3) := by decide +kernel
theorem dX11_bell_32 : decode cX11_bell 32 = .ok (.iload_n 1, 1) := by decide +kernel
theorem dX11_bell_33 : decode cX11_bell 33 = .ok (.invokevirtual 187, 3) := by decide +kernel
theorem dX11_bell_36 : decode cX11_bell 36 = .ok (.aload_n 0, 1) := by decide +kernel
theorem dX11_bell_37 : decode cX11_bell 37 = .ok (.getfield 44, 3) := by decide +kernel
theorem dX11_bell_40 : decode cX11_bell 40 = .ok (.invokevirtual 191, 3) := by decide +kernel
theorem dX11_bell_43 : decode cX11_bell 43 = .ok (.istore_n 2, 1) := by decide +kernel
theorem dX11_bell_44 : decode cX11_bell 44 = .ok (.aload_n 0, 1) := by decide +kernel
theorem dX11_bell_45 : decode cX11_bell 45 = .ok (.getfield 44, 3) := by decide +kernel
theorem dX11_bell_48 : decode cX11_bell 48 = .ok (.aload_n 0, 1) := by decide +kernel
theorem dX11_bell_49 : decode cX11_bell 49 = .ok (.getfield 40, 3) := by decide +kernel
theorem dX11_bell_52 : decode cX11_bell 52 = .ok (.invokevirtual 198, 3) := by decide +kernel
theorem dX11_bell_55 : decode cX11_bell 55 = .ok (.aload_n 0, 1) := by decide +kernel
theorem dX11_bell_56 : decode cX11_bell 56 = .ok (.getfield 44, 3) := by decide +kernel
theorem dX11_bell_59 : decode cX11_bell 59 = .ok (.iconst 0, 1) := by decide +kernel
theorem dX11_bell_60 : decode cX11_bell 60 = .ok (.putfield 236, 3) := by decide +kernel
theorem dX11_bell_63 : decode cX11_bell 63 = .ok (.aload_n 0, 1) := by decide +kernel
theorem dX11_bell_64 : decode cX11_bell 64 = .ok (.getfield 44, 3) := by decide +kernel
theorem dX11_bell_67 : decode cX11_bell 67 = .ok (.iload_n 1, 1) := by decide +kernel
theorem dX11_bell_68 : decode cX11_bell 68 = .ok (.invokevirtual 187, 3) := by decide +kernel
theorem dX11_bell_71 : decode cX11_bell 71 = .ok (.iload_n 2, 1) := by decide +kernel
theorem dX11_bell_72 : decode cX11_bell 72 = .ok (.aload_n 0, 1) := by decide +kernel
theorem dX11_bell_73 : decode cX11_bell 73 = .ok (.getfield 44, 3) := by decide +kernel
theorem dX11_bell_76 : decode cX11_bell 76 = .ok (.invokevirtual 191, 3) := by decide +kernel
theorem dX11_bell_79 : decode cX11_bell 79 = .ok (.isub, 1) := by decide +kernel
theorem dX11_bell_80 : decode cX11_bell 80 = .ok (.ireturn, 1) := by decide +kernel
theorem dX11_odds_0 : decode cX11_odds 0 = .ok (.iload_n 3, 1) := by decide +kernel
theorem dX11_odds_1 : decode cX11_odds 1 = .ok (.iconst 0, 1) := by decide +kernel
theorem dX11_odds_2 : decode cX11_odds 2 = .ok (.bipush 60, 2) := by decide +kernel
theorem dX11_odds_4 : decode cX11_odds 4 = .ok (.invokestatic 79, 3) := by decide +kernel
theorem dX11_odds_7 : decode cX11_odds 7 = .ok (.ifCond .eq 17, 3) := by decide +kernel
theorem dX11_odds_10 : decode cX11_odds 10 = .ok (.iload 4, 2) := by decide +kernel
theorem dX11_odds_12 : decode cX11_odds 12 = .ok (.iconst 0, 1) := by decide +kernel
theorem dX11_odds_13 : decode cX11_odds 13 = .ok (.iconst 1, 1) := by decide +kernel
theorem dX11_odds_14 : decode cX11_odds 14 = .ok (.invokestatic 79, 3) := by decide +kernel
theorem dX11_odds_17 : decode cX11_odds 17 = .ok (.ifCond .eq 7, 3) := by decide +kernel
theorem dX11_odds_20 : decode cX11_odds 20 = .ok (.iconst 1, 1) := by decide +kernel
theorem dX11_odds_21 : decode cX11_odds 21 = .ok (.goto 4, 3) := by decide +kernel
theorem dX11_odds_24 : decode cX11_odds 24 = .ok (.iconst 0, 1) := by decide +kernel
theorem dX11_odds_25 : decode cX11_odds 25 = .ok (.istore 5, 2) := by decide +kernel
theorem dX11_odds_27 : decode cX11_odds 27 = .ok (.aload_n 0, 1) := by decide +kernel
theorem dX11_odds_28 : decode cX11_odds 28 = .ok (.getfield 40, 3) := by decide +kernel
theorem dX11_odds_31 : decode cX11_odds 31 = .ok (.iload_n 1, 1) := by decide +kernel
theorem dX11_odds_32 : decode cX11_odds 32 = .ok (.invokevirtual 113, 3) := by decide +kernel
theorem dX11_odds_35 : decode cX11_odds 35 = .ok (.ifCond .eq 19, 3) := by decide +kernel
theorem dX11_odds_38 : decode cX11_odds 38 = .ok (.iload_n 2, 1) := by decide +kernel
theorem dX11_odds_39 : decode cX11_odds 39 = .ok (.iconst 1, 1) := by decide +kernel
theorem dX11_odds_40 : decode cX11_odds 40 = .ok (.sipush 999, 3) := by decide +kernel
theorem dX11_odds_43 : decode cX11_odds 43 = .ok (.invokestatic 79, 3) := by decide +kernel
theorem dX11_odds_46 : decode cX11_odds 46 = .ok (.ifCond .eq 8, 3) := by decide +kernel
theorem dX11_odds_49 : decode cX11_odds 49 = .ok (.iload 5, 2) := by decide +kernel
theorem dX11_odds_51 : decode cX11_odds 51 = .ok (.ifCond .ne 10, 3) := by decide +kernel
theorem dX11_odds_54 : decode cX11_odds 54 = .ok (.aload_n 0, 1) := by decide +kernel
theorem dX11_odds_55 : decode cX11_odds 55 = .ok (.ldc 83, 2) := by decide +kernel
theorem dX11_odds_57 : decode cX11_odds 57 = .ok (.invokevirtual 84, 3) := by decide +kernel
theorem dX11_odds_60 : decode cX11_odds 60 = .ok (.ireturn, 1) := by decide +kernel
theorem dX11_odds_61 : decode cX11_odds 61 = .ok (.bipush 10, 2) := by decide +kernel
theorem dX11_odds_63 : decode cX11_odds 63 = .ok (.istore 6, 2) := by decide +kernel
theorem dX11_odds_65 : decode cX11_odds 65 = .ok (.iconst 0, 1) := by decide +kernel
theorem dX11_odds_66 : decode cX11_odds 66 = .ok (.istore 7, 2) := by decide +kernel
theorem dX11_odds_68 : decode cX11_odds 68 = .ok (.iconst 0, 1) := by decide +kernel
theorem dX11_odds_69 : decode cX11_odds 69 = .ok (.istore 8, 2) := by decide +kernel
theorem dX11_odds_71 : decode cX11_odds 71 = .ok (.iload 8, 2) := by decide +kernel
theorem dX11_odds_73 : decode cX11_odds 73 = .ok (.iload 6, 2) := by decide +kernel
theorem dX11_odds_75 : decode cX11_odds 75 = .ok (.if_icmp .ge 45, 3) := by decide +kernel
theorem dX11_odds_78 : decode cX11_odds 78 = .ok (.aload_n 0, 1) := by decide +kernel
theorem dX11_odds_79 : decode cX11_odds 79 = .ok (.getfield 44, 3) := by decide +kernel
theorem dX11_odds_82 : decode cX11_odds 82 = .ok (.aload_n 0, 1) := by decide +kernel
theorem dX11_odds_83 : decode cX11_odds 83 = .ok (.getfield 40, 3) := by decide +kernel
theorem dX11_odds_86 : decode cX11_odds 86 = .ok (.invokevirtual 198, 3) := by decide +kernel
theorem dX11_odds_89 : decode cX11_odds 89 = .ok (.aload_n 0, 1) := by decide +kernel
theorem dX11_odds_90 : decode cX11_odds 90 = .ok (.getfield 44, 3) := by decide +kernel
theorem dX11_odds_93 : decode cX11_odds 93 = .ok (.iload 8, 2) := by decide +kernel
theorem dX11_odds_95 : decode cX11_odds 95 = .ok (.putfield 138, 3) := by decide +kernel
theorem dX11_odds_98 : decode cX11_odds 98 = .ok (.aload_n 0, 1) := by decide +kernel
theorem dX11_odds_99 : decode cX11_odds 99 = .ok (.getfield 44, 3) := by decide +kernel
theorem dX11_odds_102 : decode cX11_odds 102 = .ok (.iload_n 3, 1) := by decide +kernel
theorem dX11_odds_103 : decode cX11_odds 103 = .ok (.iload_n 1, 1) := by decide +kernel
theorem dX11_odds_104 : decode cX11_odds 104 = .ok (.invokevirtual 202, 3) := by decide +kernel
theorem dX11_odds_107 : decode cX11_odds 107 = .ok (.iload_n 2, 1) := by decide +kernel
theorem dX11_odds_108 : decode cX11_odds 108 = .ok (.if_icmp .ge 6, 3) := by decide +kernel
theorem dX11_odds_111 : decode cX11_odds 111 = .ok (.iinc 7 1, 3) := by decide +kernel
theorem dX11_odds_114 : decode cX11_odds 114 = .ok (.iinc 8 1, 3) := by decide +kernel
theorem dX11_odds_117 : decode cX11_odds 117 = .ok (.goto (-46), 3) := by decide +kernel
theorem dX11_odds_120 : decode cX11_odds 120 = .ok (.iload 4, 2) := by decide +kernel
theorem dX11_odds_122 : decode cX11_odds 122 = .ok (.ifCond .ne 8, 3) := by decide +kernel
theorem dX11_odds_125 : decode cX11_odds 125 = .ok (.iload 7, 2) := by decide +kernel
theorem dX11_odds_127 : decode cX11_odds 127 = .ok (.goto 5, 3) := by decide +kernel
theorem dX11_odds_130 : decode cX11_odds 130 = .ok (.iload 6, 2) := by decide +kernel
theorem dX11_odds_132 : decode cX11_odds 132 = .ok (.iload 7, 2) := by decide +kernel
theorem dX11_odds_134 : decode cX11_odds 134 = .ok (.iload 6, 2) := by decide +kernel
theorem dX11_odds_136 : decode cX11_odds 136 = .ok (.invokestatic 239, 3) := by decide +kernel
theorem dX11_odds_139 : decode cX11_odds 139 = .ok (.idiv, 1) := by decide +kernel
theorem dX11_odds_140 : decode cX11_odds 140 = .ok (.ireturn, 1) := by decide +kernel
theorem dX11_seed_0 : decode cX11_seed 0 = .ok (.aload_n 0, 1) := by decide +kernel
theorem dX11_seed_1 : decode cX11_seed 1 = .ok (.getfield 40, 3) := by decide +kernel
theorem dX11_seed_4 : decode cX11_seed 4 = .ok (.getfield 242, 3) := by decide +kernel
theorem dX11_seed_7 : decode cX11_seed 7 = .ok (.istore_n 2, 1) := by decide +kernel
theorem dX11_seed_8 : decode cX11_seed 8 = .ok (.aload_n 0, 1) := by decide +kernel
theorem dX11_seed_9 : decode cX11_seed 9 = .ok (.getfield 40, 3) := by decide +kernel
theorem dX11_seed_12 : decode cX11_seed 12 = .ok (.iload_n 1, 1) := by decide +kernel
theorem dX11_seed_13 : decode cX11_seed 13 = .ok (.putfield 242, 3) := by decide +kernel
theorem dX11_seed_16 : decode cX11_seed 16 = .ok (.iload_n 2, 1) := by decide +kernel
theorem dX11_seed_17 : decode cX11_seed 17 = .ok (.ireturn, 1) := by decide +kernel
theorem dX11_voice_0 : decode cX11_voice 0 = .ok (.aload_n 0, 1) := by decide +kernel
theorem dX11_voice_1 : decode cX11_voice 1 = .ok (.getfield 40, 3) := by decide +kernel
theorem dX11_voice_4 : decode cX11_voice 4 = .ok (.iload_n 1, 1) := by decide +kernel
theorem dX11_voice_5 : decode cX11_voice 5 = .ok (.invokevirtual 113, 3) := by decide +kernel
theorem dX11_voice_8 : decode cX11_voice 8 = .ok (.ifCond .eq 12, 3) := by decide +kernel
theorem dX11_voice_11 : decode cX11_voice 11 = .ok (.iload_n 2, 1) := by decide +kernel
theorem dX11_voice_12 : decode cX11_voice 12 = .ok (.iconst 0, 1) := by decide +kernel
theorem dX11_voice_13 : decode cX11_voice 13 = .ok (.iconst 3, 1) := by decide +kernel
theorem dX11_voice_14 : decode cX11_voice 14 = .ok (.invokestatic 79, 3) := by decide +kernel
theorem dX11_voice_17 : decode cX11_voice 17 = .ok (.ifCond .ne 10, 3) := by decide +kernel
theorem dX11_voice_20 : decode cX11_voice 20 = .ok (.aload_n 0, 1) := by decide +kernel
theorem dX11_voice_21 : decode cX11_voice 21 = .ok (.ldc 83, 2) := by decide +kernel
theorem dX11_voice_23 : decode cX11_voice 23 = .ok (.invokevirtual 84, 3) := by decide +kernel
theorem dX11_voice_26 : decode cX11_voice 26 = .ok (.ireturn, 1) := by decide +kernel
theorem dX11_voice_27 : decode cX11_voice 27 = .ok (.aload_n 0, 1) := by decide +kernel
theorem dX11_voice_28 : decode cX11_voice 28 = .ok (.getfield 60, 3) := by decide +kernel
theorem dX11_voice_31 : decode cX11_voice 31 = .ok (.iload_n 1, 1) := by decide +kernel
theorem dX11_voice_32 : decode cX11_voice 32 = .ok (.aload_n 0, 1) := by decide +kernel
theorem dX11_voice_33 : decode cX11_voice 33 = .ok (.getfield 40, 3) := by decide +kernel
theorem dX11_voice_36 : decode cX11_voice 36 = .ok (.getfield 120, 3) := by decide +kernel
theorem dX11_voice_39 : decode cX11_voice 39 = .ok (.iload_n 1, 1) := by decide +kernel
theorem dX11_voice_40 : decode cX11_voice 40 = .ok (.iaload, 1) := by decide +kernel
theorem dX11_voice_41 : decode cX11_voice 41 = .ok (.invokevirtual 245, 3) := by decide +kernel
theorem dX11_voice_44 : decode cX11_voice 44 = .ok (.aload_n 0, 1) := by decide +kernel
theorem dX11_voice_45 : decode cX11_voice 45 = .ok (.getfield 40, 3) := by decide +kernel
theorem dX11_voice_48 : decode cX11_voice 48 = .ok (.iload_n 1, 1) := by decide +kernel
theorem dX11_voice_49 : decode cX11_voice 49 = .ok (.invokevirtual 248, 3) := by decide +kernel
theorem dX11_voice_52 : decode cX11_voice 52 = .ok (.astore 4, 2) := by decide +kernel
theorem dX11_voice_54 : decode cX11_voice 54 = .ok (.iload_n 2, 1) := by decide +kernel
theorem dX11_voice_55 : decode cX11_voice 55 = .ok (.tableswitch 58 0 2 #[25, 36, 47], 25) := by decide +kernel
theorem dX11_voice_80 : decode cX11_voice 80 = .ok (.aload 4, 2) := by decide +kernel
theorem dX11_voice_82 : decode cX11_voice 82 = .ok (.aload_n 0, 1) := by decide +kernel
theorem dX11_voice_83 : decode cX11_voice 83 = .ok (.getfield 60, 3) := by decide +kernel
theorem dX11_voice_86 : decode cX11_voice 86 = .ok (.iload_n 3, 1) := by decide +kernel
theorem dX11_voice_87 : decode cX11_voice 87 = .ok (.invokevirtual 252, 3) := by decide +kernel
theorem dX11_voice_90 : decode cX11_voice 90 = .ok (.ireturn, 1) := by decide +kernel
theorem dX11_voice_91 : decode cX11_voice 91 = .ok (.aload 4, 2) := by decide +kernel
theorem dX11_voice_93 : decode cX11_voice 93 = .ok (.aload_n 0, 1) := by decide +kernel
theorem dX11_voice_94 : decode cX11_voice 94 = .ok (.getfield 60, 3) := by decide +kernel
theorem dX11_voice_97 : decode cX11_voice 97 = .ok (.iload_n 3, 1) := by decide +kernel
theorem dX11_voice_98 : decode cX11_voice 98 = .ok (.invokevirtual 256, 3) := by decide +kernel
theorem dX11_voice_101 : decode cX11_voice 101 = .ok (.ireturn, 1) := by decide +kernel
theorem dX11_voice_102 : decode cX11_voice 102 = .ok (.aload 4, 2) := by decide +kernel
theorem dX11_voice_104 : decode cX11_voice 104 = .ok (.aload_n 0, 1) := by decide +kernel
theorem dX11_voice_105 : decode cX11_voice 105 = .ok (.getfield 60, 3) := by decide +kernel
theorem dX11_voice_108 : decode cX11_voice 108 = .ok (.iload_n 3, 1) := by decide +kernel
theorem dX11_voice_109 : decode cX11_voice 109 = .ok (.invokevirtual 259, 3) := by decide +kernel
theorem dX11_voice_112 : decode cX11_voice 112 = .ok (.ireturn, 1) := by decide +kernel
theorem dX11_voice_113 : decode cX11_voice 113 = .ok (.aload 4, 2) := by decide +kernel
theorem dX11_voice_115 : decode cX11_voice 115 = .ok (.aload_n 0, 1) := by decide +kernel
theorem dX11_voice_116 : decode cX11_voice 116 = .ok (.getfield 60, 3) := by decide +kernel
theorem dX11_voice_119 : decode cX11_voice 119 = .ok (.iload_n 3, 1) := by decide +kernel
theorem dX11_voice_120 : decode cX11_voice 120 = .ok (.invokevirtual 262, 3) := by decide +kernel
theorem dX11_voice_123 : decode cX11_voice 123 = .ok (.ireturn, 1) := by decide +kernel
theorem dX11_trace_0 : decode cX11_trace 0 = .ok (.iload_n 1, 1) := by decide +kernel
theorem dX11_trace_1 : decode cX11_trace 1 = .ok (.iconst 0, 1) := by decide +kernel
theorem dX11_trace_2 : decode cX11_trace 2 = .ok (.aload_n 0, 1) := by decide +kernel
theorem dX11_trace_3 : decode cX11_trace 3 = .ok (.getfield 60, 3) := by decide +kernel
theorem dX11_trace_6 : decode cX11_trace 6 = .ok (.getfield 265, 3) := by decide +kernel
theorem dX11_trace_9 : decode cX11_trace 9 = .ok (.iconst 1, 1) := by decide +kernel
theorem dX11_trace_10 : decode cX11_trace 10 = .ok (.isub, 1) := by decide +kernel
theorem dX11_trace_11 : decode cX11_trace 11 = .ok (.invokestatic 79, 3) := by decide +kernel
theorem dX11_trace_14 : decode cX11_trace 14 = .ok (.ifCond .ne 10, 3) := by decide +kernel
theorem dX11_trace_17 : decode cX11_trace 17 = .ok (.aload_n 0, 1) := by decide +kernel
theorem dX11_trace_18 : decode cX11_trace 18 = .ok (.ldc 208, 2) := by decide +kernel
theorem dX11_trace_20 : decode cX11_trace 20 = .ok (.invokevirtual 84, 3) := by decide +kernel
theorem dX11_trace_23 : decode cX11_trace 23 = .ok (.ireturn, 1) := by decide +kernel
theorem dX11_trace_24 : decode cX11_trace 24 = .ok (.aload_n 0, 1) := by decide +kernel
theorem dX11_trace_25 : decode cX11_trace 25 = .ok (.getfield 60, 3) := by decide +kernel
theorem dX11_trace_28 : decode cX11_trace 28 = .ok (.getfield 268, 3) := by decide +kernel
theorem dX11_trace_31 : decode cX11_trace 31 = .ok (.iload_n 1, 1) := by decide +kernel
theorem dX11_trace_32 : decode cX11_trace 32 = .ok (.iaload, 1) := by decide +kernel
theorem dX11_trace_33 : decode cX11_trace 33 = .ok (.ireturn, 1) := by decide +kernel
theorem dX11_sheet_0 : decode cX11_sheet 0 = .ok (.iload_n 1, 1) := by decide +kernel
theorem dX11_sheet_1 : decode cX11_sheet 1 = .ok (.invokestatic 230, 3) := by decide +kernel
theorem dX11_sheet_4 : decode cX11_sheet 4 = .ok (.ifCond .eq 10, 3) := by decide +kernel
theorem dX11_sheet_7 : decode cX11_sheet 7 = .ok (.iload_n 2, 1) := by decide +kernel
theorem dX11_sheet_8 : decode cX11_sheet 8 = .ok (.invokestatic 271, 3) := by decide +kernel
theorem dX11_sheet_11 : decode cX11_sheet 11 = .ok (.ifCond .ne 10, 3) := by decide +kernel
theorem dX11_sheet_14 : decode cX11_sheet 14 = .ok (.aload_n 0, 1) := by decide +kernel
theorem dX11_sheet_15 : decode cX11_sheet 15 = .ok (.ldc 83, 2) := by decide +kernel
theorem dX11_sheet_17 : decode cX11_sheet 17 = .ok (.invokevirtual 84, 3) := by decide +kernel
theorem dX11_sheet_20 : decode cX11_sheet 20 = .ok (.ireturn, 1) := by decide +kernel
theorem dX11_sheet_21 : decode cX11_sheet 21 = .ok (.iload_n 2, 1) := by decide +kernel
theorem dX11_sheet_22 : decode cX11_sheet 22 = .ok (.ifCond .eq 14, 3) := by decide +kernel
theorem dX11_sheet_25 : decode cX11_sheet 25 = .ok (.iload_n 3, 1) := by decide +kernel
theorem dX11_sheet_26 : decode cX11_sheet 26 = .ok (.ifCond .ge 10, 3) := by decide +kernel
theorem dX11_sheet_29 : decode cX11_sheet 29 = .ok (.aload_n 0, 1) := by decide +kernel
theorem dX11_sheet_30 : decode cX11_sheet 30 = .ok (.ldc 186, 2) := by decide +kernel
theorem dX11_sheet_32 : decode cX11_sheet 32 = .ok (.invokevirtual 84, 3) := by decide +kernel
theorem dX11_sheet_35 : decode cX11_sheet 35 = .ok (.ireturn, 1) := by decide +kernel
theorem dX11_sheet_36 : decode cX11_sheet 36 = .ok (.iload_n 2, 1) := by decide +kernel
theorem dX11_sheet_37 : decode cX11_sheet 37 = .ok (.ifCond .eq 16, 3) := by decide +kernel
theorem dX11_sheet_40 : decode cX11_sheet 40 = .ok (.iload_n 3, 1) := by decide +kernel
theorem dX11_sheet_41 : decode cX11_sheet 41 = .ok (.bipush 40, 2) := by decide +kernel
theorem dX11_sheet_43 : decode cX11_sheet 43 = .ok (.if_icmp .le 10, 3) := by decide +kernel
theorem dX11_sheet_46 : decode cX11_sheet 46 = .ok (.aload_n 0, 1) := by decide +kernel
theorem dX11_sheet_47 : decode cX11_sheet 47 = .ok (.ldc 83, 2) := by decide +kernel
theorem dX11_sheet_49 : decode cX11_sheet 49 = .ok (.invokevirtual 84, 3) := by decide +kernel
theorem dX11_sheet_52 : decode cX11_sheet 52 = .ok (.ireturn, 1) := by decide +kernel
theorem dX11_sheet_53 : decode cX11_sheet 53 = .ok (.aload_n 0, 1) := by decide +kernel
theorem dX11_sheet_54 : decode cX11_sheet 54 = .ok (.getfield 69, 3) := by decide +kernel
theorem dX11_sheet_57 : decode cX11_sheet 57 = .ok (.iload_n 1, 1) := by decide +kernel
theorem dX11_sheet_58 : decode cX11_sheet 58 = .ok (.iload_n 2, 1) := by decide +kernel
theorem dX11_sheet_59 : decode cX11_sheet 59 = .ok (.iastore, 1) := by decide +kernel
theorem dX11_sheet_60 : decode cX11_sheet 60 = .ok (.aload_n 0, 1) := by decide +kernel
theorem dX11_sheet_61 : decode cX11_sheet 61 = .ok (.getfield 73, 3) := by decide +kernel
theorem dX11_sheet_64 : decode cX11_sheet 64 = .ok (.iload_n 1, 1) := by decide +kernel
theorem dX11_sheet_65 : decode cX11_sheet 65 = .ok (.iload_n 2, 1) := by decide +kernel
theorem dX11_sheet_66 : decode cX11_sheet 66 = .ok (.ifCond .ne 7, 3) := by decide +kernel
theorem dX11_sheet_69 : decode cX11_sheet 69 = .ok (.iconst 0, 1) := by decide +kernel
theorem dX11_sheet_70 : decode cX11_sheet 70 = .ok (.goto 4, 3) := by decide +kernel
theorem dX11_sheet_73 : decode cX11_sheet 73 = .ok (.iload_n 3, 1) := by decide +kernel
theorem dX11_sheet_74 : decode cX11_sheet 74 = .ok (.iastore, 1) := by decide +kernel
theorem dX11_sheet_75 : decode cX11_sheet 75 = .ok (.iconst 0, 1) := by decide +kernel
theorem dX11_sheet_76 : decode cX11_sheet 76 = .ok (.istore 4, 2) := by decide +kernel
theorem dX11_sheet_78 : decode cX11_sheet 78 = .ok (.iload 4, 2) := by decide +kernel
theorem dX11_sheet_80 : decode cX11_sheet 80 = .ok (.bipush 40, 2) := by decide +kernel
theorem dX11_sheet_82 : decode cX11_sheet 82 = .ok (.if_icmp .ge 19, 3) := by decide +kernel
theorem dX11_sheet_85 : decode cX11_sheet 85 = .ok (.aload_n 0, 1) := by decide +kernel
theorem dX11_sheet_86 : decode cX11_sheet 86 = .ok (.getfield 66, 3) := by decide +kernel
theorem dX11_sheet_89 : decode cX11_sheet 89 = .ok (.iload_n 1, 1) := by decide +kernel
theorem dX11_sheet_90 : decode cX11_sheet 90 = .ok (.aaload, 1) := by decide +kernel
theorem dX11_sheet_91 : decode cX11_sheet 91 = .ok (.iload 4, 2) := by decide +kernel
theorem dX11_sheet_93 : decode cX11_sheet 93 = .ok (.iconst 0, 1) := by decide +kernel
theorem dX11_sheet_94 : decode cX11_sheet 94 = .ok (.iastore, 1) := by decide +kernel
theorem dX11_sheet_95 : decode cX11_sheet 95 = .ok (.iinc 4 1, 3) := by decide +kernel
theorem dX11_sheet_98 : decode cX11_sheet 98 = .ok (.goto (-20), 3) := by decide +kernel
theorem dX11_sheet_101 : decode cX11_sheet 101 = .ok (.iconst 1, 1) := by decide +kernel
theorem dX11_sheet_102 : decode cX11_sheet 102 = .ok (.ireturn, 1) := by decide +kernel
theorem dX11_put_0 : decode cX11_put 0 = .ok (.iload_n 1, 1) := by decide +kernel
theorem dX11_put_1 : decode cX11_put 1 = .ok (.invokestatic 230, 3) := by decide +kernel
theorem dX11_put_4 : decode cX11_put 4 = .ok (.ifCond .ne 10, 3) := by decide +kernel
theorem dX11_put_7 : decode cX11_put 7 = .ok (.aload_n 0, 1) := by decide +kernel
theorem dX11_put_8 : decode cX11_put 8 = .ok (.ldc 83, 2) := by decide +kernel
theorem dX11_put_10 : decode cX11_put 10 = .ok (.invokevirtual 84, 3) := by decide +kernel
theorem dX11_put_13 : decode cX11_put 13 = .ok (.ireturn, 1) := by decide +kernel
theorem dX11_put_14 : decode cX11_put 14 = .ok (.aload_n 0, 1) := by decide +kernel
theorem dX11_put_15 : decode cX11_put 15 = .ok (.getfield 69, 3) := by decide +kernel
theorem dX11_put_18 : decode cX11_put 18 = .ok (.iload_n 1, 1) := by decide +kernel
theorem dX11_put_19 : decode cX11_put 19 = .ok (.iaload, 1) := by decide +kernel
theorem dX11_put_20 : decode cX11_put 20 = .ok (.ifCond .ne 10, 3) := by decide +kernel
theorem dX11_put_23 : decode cX11_put 23 = .ok (.aload_n 0, 1) := by decide +kernel
theorem dX11_put_24 : decode cX11_put 24 = .ok (.ldc 208, 2) := by decide +kernel
theorem dX11_put_26 : decode cX11_put 26 = .ok (.invokevirtual 84, 3) := by decide +kernel
theorem dX11_put_29 : decode cX11_put 29 = .ok (.ireturn, 1) := by decide +kernel
theorem dX11_put_30 : decode cX11_put 30 = .ok (.iload_n 2, 1) := by decide +kernel
theorem dX11_put_31 : decode cX11_put 31 = .ok (.iconst 0, 1) := by decide +kernel
theorem dX11_put_32 : decode cX11_put 32 = .ok (.aload_n 0, 1) := by decide +kernel
theorem dX11_put_33 : decode cX11_put 33 = .ok (.getfield 73, 3) := by decide +kernel
theorem dX11_put_36 : decode cX11_put 36 = .ok (.iload_n 1, 1) := by decide +kernel
theorem dX11_put_37 : decode cX11_put 37 = .ok (.iaload, 1) := by decide +kernel
theorem dX11_put_38 : decode cX11_put 38 = .ok (.iconst 1, 1) := by decide +kernel
theorem dX11_put_39 : decode cX11_put 39 = .ok (.isub, 1) := by decide +kernel
theorem dX11_put_40 : decode cX11_put 40 = .ok (.invokestatic 79, 3) := by decide +kernel
theorem dX11_put_43 : decode cX11_put 43 = .ok (.ifCond .ne 10, 3) := by decide +kernel
theorem dX11_put_46 : decode cX11_put 46 = .ok (.aload_n 0, 1) := by decide +kernel
theorem dX11_put_47 : decode cX11_put 47 = .ok (.ldc 83, 2) := by decide +kernel
theorem dX11_put_49 : decode cX11_put 49 = .ok (.invokevirtual 84, 3) := by decide +kernel
theorem dX11_put_52 : decode cX11_put 52 = .ok (.ireturn, 1) := by decide +kernel
theorem dX11_put_53 : decode cX11_put 53 = .ok (.aload_n 0, 1) := by decide +kernel
theorem dX11_put_54 : decode cX11_put 54 = .ok (.getfield 66, 3) := by decide +kernel
theorem dX11_put_57 : decode cX11_put 57 = .ok (.iload_n 1, 1) := by decide +kernel
theorem dX11_put_58 : decode cX11_put 58 = .ok (.aaload, 1) := by decide +kernel
theorem dX11_put_59 : decode cX11_put 59 = .ok (.iload_n 2, 1) := by decide +kernel
theorem dX11_put_60 : decode cX11_put 60 = .ok (.aload_n 0, 1) := by decide +kernel
theorem dX11_put_61 : decode cX11_put 61 = .ok (.getfield 69, 3) := by decide +kernel
theorem dX11_put_64 : decode cX11_put 64 = .ok (.iload_n 1, 1) := by decide +kernel
theorem dX11_put_65 : decode cX11_put 65 = .ok (.iaload, 1) := by decide +kernel
theorem dX11_put_66 : decode cX11_put 66 = .ok (.iload_n 3, 1) := by decide +kernel
theorem dX11_put_67 : decode cX11_put 67 = .ok (.invokestatic 274, 3) := by decide +kernel
theorem dX11_put_70 : decode cX11_put 70 = .ok (.iastore, 1) := by decide +kernel
theorem dX11_put_71 : decode cX11_put 71 = .ok (.iconst 1, 1) := by decide +kernel
theorem dX11_put_72 : decode cX11_put 72 = .ok (.ireturn, 1) := by decide +kernel
theorem dX11_move_0 : decode cX11_move 0 = .ok (.iload_n 1, 1) := by decide +kernel
theorem dX11_move_1 : decode cX11_move 1 = .ok (.invokestatic 230, 3) := by decide +kernel
theorem dX11_move_4 : decode cX11_move 4 = .ok (.ifCond .eq 10, 3) := by decide +kernel
theorem dX11_move_7 : decode cX11_move 7 = .ok (.iload_n 3, 1) := by decide +kernel
theorem dX11_move_8 : decode cX11_move 8 = .ok (.invokestatic 230, 3) := by decide +kernel
theorem dX11_move_11 : decode cX11_move 11 = .ok (.ifCond .ne 10, 3) := by decide +kernel
theorem dX11_move_14 : decode cX11_move 14 = .ok (.aload_n 0, 1) := by decide +kernel
theorem dX11_move_15 : decode cX11_move 15 = .ok (.ldc 83, 2) := by decide +kernel
theorem dX11_move_17 : decode cX11_move 17 = .ok (.invokevirtual 84, 3) := by decide +kernel
theorem dX11_move_20 : decode cX11_move 20 = .ok (.ireturn, 1) := by decide +kernel
theorem dX11_move_21 : decode cX11_move 21 = .ok (.aload_n 0, 1) := by decide +kernel
theorem dX11_move_22 : decode cX11_move 22 = .ok (.getfield 69, 3) := by decide +kernel
theorem dX11_move_25 : decode cX11_move 25 = .ok (.iload_n 1, 1) := by decide +kernel
theorem dX11_move_26 : decode cX11_move 26 = .ok (.iaload, 1) := by decide +kernel
theorem dX11_move_27 : decode cX11_move 27 = .ok (.ifCond .eq 12, 3) := by decide +kernel
theorem dX11_move_30 : decode cX11_move 30 = .ok (.aload_n 0, 1) := by decide +kernel
theorem dX11_move_31 : decode cX11_move 31 = .ok (.getfield 69, 3) := by decide +kernel
theorem dX11_move_34 : decode cX11_move 34 = .ok (.iload_n 3, 1) := by decide +kernel
theorem dX11_move_35 : decode cX11_move 35 = .ok (.iaload, 1) := by decide +kernel
theorem dX11_move_36 : decode cX11_move 36 = .ok (.ifCond .ne 10, 3) := by decide +kernel
theorem dX11_move_39 : decode cX11_move 39 = .ok (.aload_n 0, 1) := by decide +kernel
theorem dX11_move_40 : decode cX11_move 40 = .ok (.ldc 208, 2) := by decide +kernel
theorem dX11_move_42 : decode cX11_move 42 = .ok (.invokevirtual 84, 3) := by decide +kernel
theorem dX11_move_45 : decode cX11_move 45 = .ok (.ireturn, 1) := by decide +kernel
theorem dX11_move_46 : decode cX11_move 46 = .ok (.aload_n 0, 1) := by decide +kernel
theorem dX11_move_47 : decode cX11_move 47 = .ok (.getfield 69, 3) := by decide +kernel
theorem dX11_move_50 : decode cX11_move 50 = .ok (.iload_n 1, 1) := by decide +kernel
theorem dX11_move_51 : decode cX11_move 51 = .ok (.iaload, 1) := by decide +kernel
theorem dX11_move_52 : decode cX11_move 52 = .ok (.aload_n 0, 1) := by decide +kernel
theorem dX11_move_53 : decode cX11_move 53 = .ok (.getfield 69, 3) := by decide +kernel
theorem dX11_move_56 : decode cX11_move 56 = .ok (.iload_n 3, 1) := by decide +kernel
theorem dX11_move_57 : decode cX11_move 57 = .ok (.iaload, 1) := by decide +kernel
theorem dX11_move_58 : decode cX11_move 58 = .ok (.if_icmp .eq 10, 3) := by decide +kernel
theorem dX11_move_61 : decode cX11_move 61 = .ok (.aload_n 0, 1) := by decide +kernel
theorem dX11_move_62 : decode cX11_move 62 = .ok (.ldc 154, 2) := by decide +kernel
theorem dX11_move_64 : decode cX11_move 64 = .ok (.invokevirtual 84, 3) := by decide +kernel
theorem dX11_move_67 : decode cX11_move 67 = .ok (.ireturn, 1) := by decide +kernel
theorem dX11_move_68 : decode cX11_move 68 = .ok (.aload_n 0, 1) := by decide +kernel
theorem dX11_move_69 : decode cX11_move 69 = .ok (.iload_n 1, 1) := by decide +kernel
theorem dX11_move_70 : decode cX11_move 70 = .ok (.iload_n 2, 1) := by decide +kernel
theorem dX11_move_71 : decode cX11_move 71 = .ok (.iload 5, 2) := by decide +kernel
theorem dX11_move_73 : decode cX11_move 73 = .ok (.invokevirtual 277, 3) := by decide +kernel
theorem dX11_move_76 : decode cX11_move 76 = .ok (.ifCond .eq 15, 3) := by decide +kernel
theorem dX11_move_79 : decode cX11_move 79 = .ok (.aload_n 0, 1) := by decide +kernel
theorem dX11_move_80 : decode cX11_move 80 = .ok (.iload_n 3, 1) := by decide +kernel
theorem dX11_move_81 : decode cX11_move 81 = .ok (.iload 4, 2) := by decide +kernel
theorem dX11_move_83 : decode cX11_move 83 = .ok (.iload 5, 2) := by decide +kernel
