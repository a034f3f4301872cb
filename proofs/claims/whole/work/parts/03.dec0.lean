theorem dX0_init_0 : decode cX0_init 0 = .ok (.aload_n 0, 1) := by decide +kernel
theorem dX0_init_1 : decode cX0_init 1 = .ok (.invokespecial 1, 3) := by decide +kernel
theorem dX0_init_4 : decode cX0_init 4 = .ok (.return_, 1) := by decide +kernel
theorem dX0_fallen_0 : decode cX0_fallen 0 = .ok (.aload_n 0, 1) := by decide +kernel
theorem dX0_fallen_1 : decode cX0_fallen 1 = .ok (.iload_n 1, 1) := by decide +kernel
theorem dX0_fallen_2 : decode cX0_fallen 2 = .ok (.iload_n 2, 1) := by decide +kernel
theorem dX0_fallen_3 : decode cX0_fallen 3 = .ok (.iload_n 3, 1) := by decide +kernel
theorem dX0_fallen_4 : decode cX0_fallen 4 = .ok (.iload 4, 2) := by decide +kernel
theorem dX0_fallen_6 : decode cX0_fallen 6 = .ok (.iload 5, 2) := by decide +kernel
theorem dX0_fallen_8 : decode cX0_fallen 8 = .ok (.invokespecial 7, 3) := by decide +kernel
theorem dX0_fallen_11 : decode cX0_fallen 11 = .ok (.iload 5, 2) := by decide +kernel
theorem dX0_fallen_13 : decode cX0_fallen 13 = .ok (.iadd, 1) := by decide +kernel
theorem dX0_fallen_14 : decode cX0_fallen 14 = .ok (.ireturn, 1) := by decide +kernel
theorem dX0_sweeps_0 : decode cX0_sweeps 0 = .ok (.aload_n 1, 1) := by decide +kernel
theorem dX0_sweeps_1 : decode cX0_sweeps 1 = .ok (.bipush 70, 2) := by decide +kernel
theorem dX0_sweeps_3 : decode cX0_sweeps 3 = .ok (.invokevirtual 11, 3) := by decide +kernel
theorem dX0_sweeps_6 : decode cX0_sweeps 6 = .ok (.aload_n 0, 1) := by decide +kernel
theorem dX0_sweeps_7 : decode cX0_sweeps 7 = .ok (.aload_n 1, 1) := by decide +kernel
theorem dX0_sweeps_8 : decode cX0_sweeps 8 = .ok (.iload_n 2, 1) := by decide +kernel
theorem dX0_sweeps_9 : decode cX0_sweeps 9 = .ok (.invokespecial 17, 3) := by decide +kernel
theorem dX0_sweeps_12 : decode cX0_sweeps 12 = .ok (.aload_n 1, 1) := by decide +kernel
theorem dX0_sweeps_13 : decode cX0_sweeps 13 = .ok (.getfield 21, 3) := by decide +kernel
theorem dX0_sweeps_16 : decode cX0_sweeps 16 = .ok (.ixor, 1) := by decide +kernel
theorem dX0_sweeps_17 : decode cX0_sweeps 17 = .ok (.ireturn, 1) := by decide +kernel
theorem dX0_blocks_0 : decode cX0_blocks 0 = .ok (.aload_n 1, 1) := by decide +kernel
theorem dX0_blocks_1 : decode cX0_blocks 1 = .ok (.bipush 71, 2) := by decide +kernel
theorem dX0_blocks_3 : decode cX0_blocks 3 = .ok (.invokevirtual 11, 3) := by decide +kernel
theorem dX0_blocks_6 : decode cX0_blocks 6 = .ok (.aload_n 0, 1) := by decide +kernel
theorem dX0_blocks_7 : decode cX0_blocks 7 = .ok (.aload_n 1, 1) := by decide +kernel
theorem dX0_blocks_8 : decode cX0_blocks 8 = .ok (.iload_n 2, 1) := by decide +kernel
theorem dX0_blocks_9 : decode cX0_blocks 9 = .ok (.invokevirtual 25, 3) := by decide +kernel
theorem dX0_blocks_12 : decode cX0_blocks 12 = .ok (.aload_n 0, 1) := by decide +kernel
theorem dX0_blocks_13 : decode cX0_blocks 13 = .ok (.aload_n 1, 1) := by decide +kernel
theorem dX0_blocks_14 : decode cX0_blocks 14 = .ok (.iload_n 2, 1) := by decide +kernel
theorem dX0_blocks_15 : decode cX0_blocks 15 = .ok (.invokespecial 30, 3) := by decide +kernel
theorem dX0_blocks_18 : decode cX0_blocks 18 = .ok (.isub, 1) := by decide +kernel
theorem dX0_blocks_19 : decode cX0_blocks 19 = .ok (.ireturn, 1) := by decide +kernel
theorem dX1_init_0 : decode cX1_init 0 = .ok (.aload_n 0, 1) := by decide +kernel
theorem dX1_init_1 : decode cX1_init 1 = .ok (.invokespecial 1, 3) := by decide +kernel
theorem dX1_init_4 : decode cX1_init 4 = .ok (.return_, 1) := by decide +kernel
theorem dX1_fallen_0 : decode cX1_fallen 0 = .ok (.iload_n 1, 1) := by decide +kernel
theorem dX1_fallen_1 : decode cX1_fallen 1 = .ok (.iconst 2, 1) := by decide +kernel
theorem dX1_fallen_2 : decode cX1_fallen 2 = .ok (.idiv, 1) := by decide +kernel
theorem dX1_fallen_3 : decode cX1_fallen 3 = .ok (.ireturn, 1) := by decide +kernel
theorem dX1_taken_0 : decode cX1_taken 0 = .ok (.iload_n 1, 1) := by decide +kernel
theorem dX1_taken_1 : decode cX1_taken 1 = .ok (.iconst 2, 1) := by decide +kernel
theorem dX1_taken_2 : decode cX1_taken 2 = .ok (.idiv, 1) := by decide +kernel
theorem dX1_taken_3 : decode cX1_taken 3 = .ok (.ireturn, 1) := by decide +kernel
theorem dX1_moves_0 : decode cX1_moves 0 = .ok (.aload_n 1, 1) := by decide +kernel
theorem dX1_moves_1 : decode cX1_moves 1 = .ok (.bipush 30, 2) := by decide +kernel
theorem dX1_moves_3 : decode cX1_moves 3 = .ok (.invokevirtual 7, 3) := by decide +kernel
theorem dX1_moves_6 : decode cX1_moves 6 = .ok (.aload_n 0, 1) := by decide +kernel
theorem dX1_moves_7 : decode cX1_moves 7 = .ok (.aload_n 1, 1) := by decide +kernel
theorem dX1_moves_8 : decode cX1_moves 8 = .ok (.iload_n 2, 1) := by decide +kernel
theorem dX1_moves_9 : decode cX1_moves 9 = .ok (.invokespecial 13, 3) := by decide +kernel
theorem dX1_moves_12 : decode cX1_moves 12 = .ok (.aload_n 0, 1) := by decide +kernel
theorem dX1_moves_13 : decode cX1_moves 13 = .ok (.aload_n 1, 1) := by decide +kernel
theorem dX1_moves_14 : decode cX1_moves 14 = .ok (.iconst 1, 1) := by decide +kernel
theorem dX1_moves_15 : decode cX1_moves 15 = .ok (.invokevirtual 17, 3) := by decide +kernel
theorem dX1_moves_18 : decode cX1_moves 18 = .ok (.isub, 1) := by decide +kernel
theorem dX1_moves_19 : decode cX1_moves 19 = .ok (.ireturn, 1) := by decide +kernel
theorem dX2_init_0 : decode cX2_init 0 = .ok (.aload_n 0, 1) := by decide +kernel
theorem dX2_init_1 : decode cX2_init 1 = .ok (.invokespecial 1, 3) := by decide +kernel
theorem dX2_init_4 : decode cX2_init 4 = .ok (.return_, 1) := by decide +kernel
theorem dX2_fallen_0 : decode cX2_fallen 0 = .ok (.iconst 2, 1) := by decide +kernel
theorem dX2_fallen_1 : decode cX2_fallen 1 = .ok (.aload_n 0, 1) := by decide +kernel
theorem dX2_fallen_2 : decode cX2_fallen 2 = .ok (.iload_n 1, 1) := by decide +kernel
theorem dX2_fallen_3 : decode cX2_fallen 3 = .ok (.iload_n 2, 1) := by decide +kernel
theorem dX2_fallen_4 : decode cX2_fallen 4 = .ok (.iload_n 3, 1) := by decide +kernel
theorem dX2_fallen_5 : decode cX2_fallen 5 = .ok (.iload 4, 2) := by decide +kernel
theorem dX2_fallen_7 : decode cX2_fallen 7 = .ok (.iload 5, 2) := by decide +kernel
theorem dX2_fallen_9 : decode cX2_fallen 9 = .ok (.invokespecial 7, 3) := by decide +kernel
theorem dX2_fallen_12 : decode cX2_fallen 12 = .ok (.imul, 1) := by decide +kernel
theorem dX2_fallen_13 : decode cX2_fallen 13 = .ok (.ireturn, 1) := by decide +kernel
theorem dX2_taken_0 : decode cX2_taken 0 = .ok (.aload_n 0, 1) := by decide +kernel
theorem dX2_taken_1 : decode cX2_taken 1 = .ok (.iload_n 1, 1) := by decide +kernel
theorem dX2_taken_2 : decode cX2_taken 2 = .ok (.invokespecial 11, 3) := by decide +kernel
theorem dX2_taken_5 : decode cX2_taken 5 = .ok (.bipush 99, 2) := by decide +kernel
theorem dX2_taken_7 : decode cX2_taken 7 = .ok (.invokestatic 15, 3) := by decide +kernel
theorem dX2_taken_10 : decode cX2_taken 10 = .ok (.ireturn, 1) := by decide +kernel
theorem dX2_blocks_0 : decode cX2_blocks 0 = .ok (.aload_n 1, 1) := by decide +kernel
theorem dX2_blocks_1 : decode cX2_blocks 1 = .ok (.bipush 50, 2) := by decide +kernel
theorem dX2_blocks_3 : decode cX2_blocks 3 = .ok (.invokevirtual 21, 3) := by decide +kernel
theorem dX2_blocks_6 : decode cX2_blocks 6 = .ok (.aload_n 0, 1) := by decide +kernel
theorem dX2_blocks_7 : decode cX2_blocks 7 = .ok (.aload_n 1, 1) := by decide +kernel
theorem dX2_blocks_8 : decode cX2_blocks 8 = .ok (.iload_n 2, 1) := by decide +kernel
theorem dX2_blocks_9 : decode cX2_blocks 9 = .ok (.invokespecial 27, 3) := by decide +kernel
theorem dX2_blocks_12 : decode cX2_blocks 12 = .ok (.aload_n 0, 1) := by decide +kernel
theorem dX2_blocks_13 : decode cX2_blocks 13 = .ok (.aload_n 1, 1) := by decide +kernel
theorem dX2_blocks_14 : decode cX2_blocks 14 = .ok (.iconst 2, 1) := by decide +kernel
theorem dX2_blocks_15 : decode cX2_blocks 15 = .ok (.invokevirtual 31, 3) := by decide +kernel
theorem dX2_blocks_18 : decode cX2_blocks 18 = .ok (.isub, 1) := by decide +kernel
theorem dX2_blocks_19 : decode cX2_blocks 19 = .ok (.ireturn, 1) := by decide +kernel
theorem dX3_init_0 : decode cX3_init 0 = .ok (.aload_n 0, 1) := by decide +kernel
theorem dX3_init_1 : decode cX3_init 1 = .ok (.invokespecial 1, 3) := by decide +kernel
theorem dX3_init_4 : decode cX3_init 4 = .ok (.return_, 1) := by decide +kernel
theorem dX3_fallen_0 : decode cX3_fallen 0 = .ok (.aload_n 0, 1) := by decide +kernel
theorem dX3_fallen_1 : decode cX3_fallen 1 = .ok (.iload_n 1, 1) := by decide +kernel
theorem dX3_fallen_2 : decode cX3_fallen 2 = .ok (.iload_n 2, 1) := by decide +kernel
theorem dX3_fallen_3 : decode cX3_fallen 3 = .ok (.iload_n 3, 1) := by decide +kernel
theorem dX3_fallen_4 : decode cX3_fallen 4 = .ok (.iload 4, 2) := by decide +kernel
theorem dX3_fallen_6 : decode cX3_fallen 6 = .ok (.iload 5, 2) := by decide +kernel
theorem dX3_fallen_8 : decode cX3_fallen 8 = .ok (.invokespecial 7, 3) := by decide +kernel
theorem dX3_fallen_11 : decode cX3_fallen 11 = .ok (.iload 4, 2) := by decide +kernel
theorem dX3_fallen_13 : decode cX3_fallen 13 = .ok (.bipush 7, 2) := by decide +kernel
theorem dX3_fallen_15 : decode cX3_fallen 15 = .ok (.irem, 1) := by decide +kernel
theorem dX3_fallen_16 : decode cX3_fallen 16 = .ok (.ifCond .ne 7, 3) := by decide +kernel
theorem dX3_fallen_19 : decode cX3_fallen 19 = .ok (.iload_n 2, 1) := by decide +kernel
theorem dX3_fallen_20 : decode cX3_fallen 20 = .ok (.goto 4, 3) := by decide +kernel
theorem dX3_fallen_23 : decode cX3_fallen 23 = .ok (.iconst 0, 1) := by decide +kernel
theorem dX3_fallen_24 : decode cX3_fallen 24 = .ok (.iadd, 1) := by decide +kernel
theorem dX3_fallen_25 : decode cX3_fallen 25 = .ok (.ireturn, 1) := by decide +kernel
theorem dX3_taken_0 : decode cX3_taken 0 = .ok (.aload_n 0, 1) := by decide +kernel
theorem dX3_taken_1 : decode cX3_taken 1 = .ok (.iload_n 1, 1) := by decide +kernel
theorem dX3_taken_2 : decode cX3_taken 2 = .ok (.invokespecial 11, 3) := by decide +kernel
theorem dX3_taken_5 : decode cX3_taken 5 = .ok (.bipush 10, 2) := by decide +kernel
theorem dX3_taken_7 : decode cX3_taken 7 = .ok (.iadd, 1) := by decide +kernel
theorem dX3_taken_8 : decode cX3_taken 8 = .ok (.iload_n 1, 1) := by decide +kernel
theorem dX3_taken_9 : decode cX3_taken 9 = .ok (.invokestatic 15, 3) := by decide +kernel
theorem dX3_taken_12 : decode cX3_taken 12 = .ok (.ireturn, 1) := by decide +kernel
theorem dX3_moves_0 : decode cX3_moves 0 = .ok (.aload_n 1, 1) := by decide +kernel
theorem dX3_moves_1 : decode cX3_moves 1 = .ok (.bipush 60, 2) := by decide +kernel
theorem dX3_moves_3 : decode cX3_moves 3 = .ok (.invokevirtual 21, 3) := by decide +kernel
theorem dX3_moves_6 : decode cX3_moves 6 = .ok (.aload_n 0, 1) := by decide +kernel
theorem dX3_moves_7 : decode cX3_moves 7 = .ok (.aload_n 1, 1) := by decide +kernel
theorem dX3_moves_8 : decode cX3_moves 8 = .ok (.iload_n 2, 1) := by decide +kernel
theorem dX3_moves_9 : decode cX3_moves 9 = .ok (.iconst 1, 1) := by decide +kernel
theorem dX3_moves_10 : decode cX3_moves 10 = .ok (.iadd, 1) := by decide +kernel
theorem dX3_moves_11 : decode cX3_moves 11 = .ok (.invokespecial 27, 3) := by decide +kernel
theorem dX3_moves_14 : decode cX3_moves 14 = .ok (.ireturn, 1) := by decide +kernel
theorem dX4_init_0 : decode cX4_init 0 = .ok (.aload_n 0, 1) := by decide +kernel
theorem dX4_init_1 : decode cX4_init 1 = .ok (.invokespecial 3, 3) := by decide +kernel
theorem dX4_init_4 : decode cX4_init 4 = .ok (.aload_n 0, 1) := by decide +kernel
theorem dX4_init_5 : decode cX4_init 5 = .ok (.iload_n 1, 1) := by decide +kernel
theorem dX4_init_6 : decode cX4_init 6 = .ok (.putfield 9, 3) := by decide +kernel
theorem dX4_init_9 : decode cX4_init 9 = .ok (.aload_n 0, 1) := by decide +kernel
theorem dX4_init_10 : decode cX4_init 10 = .ok (.aload_n 2, 1) := by decide +kernel
theorem dX4_init_11 : decode cX4_init 11 = .ok (.putfield 15, 3) := by decide +kernel
theorem dX4_init_14 : decode cX4_init 14 = .ok (.aload_n 0, 1) := by decide +kernel
theorem dX4_init_15 : decode cX4_init 15 = .ok (.aload_n 2, 1) := by decide +kernel
theorem dX4_init_16 : decode cX4_init 16 = .ok (.arraylength, 1) := by decide +kernel
theorem dX4_init_17 : decode cX4_init 17 = .ok (.newarray .int, 2) := by decide +kernel
theorem dX4_init_19 : decode cX4_init 19 = .ok (.putfield 19, 3) := by decide +kernel
theorem dX4_init_22 : decode cX4_init 22 = .ok (.return_, 1) := by decide +kernel
theorem dX4_give_0 : decode cX4_give 0 = .ok (.aload_n 0, 1) := by decide +kernel
theorem dX4_give_1 : decode cX4_give 1 = .ok (.getfield 15, 3) := by decide +kernel
theorem dX4_give_4 : decode cX4_give 4 = .ok (.arraylength, 1) := by decide +kernel
theorem dX4_give_5 : decode cX4_give 5 = .ok (.ifCond .ne 10, 3) := by decide +kernel
theorem dX4_give_8 : decode cX4_give 8 = .ok (.aload_n 0, 1) := by decide +kernel
theorem dX4_give_9 : decode cX4_give 9 = .ok (.iload_n 1, 1) := by decide +kernel
theorem dX4_give_10 : decode cX4_give 10 = .ok (.iload_n 2, 1) := by decide +kernel
theorem dX4_give_11 : decode cX4_give 11 = .ok (.invokevirtual 22, 3) := by decide +kernel
theorem dX4_give_14 : decode cX4_give 14 = .ok (.ireturn, 1) := by decide +kernel
theorem dX4_give_15 : decode cX4_give 15 = .ok (.iconst 0, 1) := by decide +kernel
theorem dX4_give_16 : decode cX4_give 16 = .ok (.istore 4, 2) := by decide +kernel
theorem dX4_give_18 : decode cX4_give 18 = .ok (.iconst 0, 1) := by decide +kernel
theorem dX4_give_19 : decode cX4_give 19 = .ok (.istore 5, 2) := by decide +kernel
theorem dX4_give_21 : decode cX4_give 21 = .ok (.iload 5, 2) := by decide +kernel
theorem dX4_give_23 : decode cX4_give 23 = .ok (.aload_n 0, 1) := by decide +kernel
theorem dX4_give_24 : decode cX4_give 24 = .ok (.getfield 15, 3) := by decide +kernel
theorem dX4_give_27 : decode cX4_give 27 = .ok (.arraylength, 1) := by decide +kernel
theorem dX4_give_28 : decode cX4_give 28 = .ok (.if_icmp .ge 162, 3) := by decide +kernel
theorem dX4_give_31 : decode cX4_give 31 = .ok (.aload_n 0, 1) := by decide +kernel
theorem dX4_give_32 : decode cX4_give 32 = .ok (.getfield 15, 3) := by decide +kernel
theorem dX4_give_35 : decode cX4_give 35 = .ok (.iload 5, 2) := by decide +kernel
theorem dX4_give_37 : decode cX4_give 37 = .ok (.iaload, 1) := by decide +kernel
theorem dX4_give_38 : decode cX4_give 38 = .ok (.istore 6, 2) := by decide +kernel
theorem dX4_give_40 : decode cX4_give 40 = .ok (.iload 6, 2) := by decide +kernel
theorem dX4_give_42 : decode cX4_give 42 = .ok (.bipush (-3), 2) := by decide +kernel
theorem dX4_give_44 : decode cX4_give 44 = .ok (.if_icmp .lt 58, 3) := by decide +kernel
theorem dX4_give_47 : decode cX4_give 47 = .ok (.iload 4, 2) := by decide +kernel
theorem dX4_give_49 : decode cX4_give 49 = .ok (.aload_n 0, 1) := by decide +kernel
theorem dX4_give_50 : decode cX4_give 50 = .ok (.getfield 19, 3) := by decide +kernel
theorem dX4_give_53 : decode cX4_give 53 = .ok (.arraylength, 1) := by decide +kernel
theorem dX4_give_54 : decode cX4_give 54 = .ok (.if_icmp .ge 48, 3) := by decide +kernel
theorem dX4_give_57 : decode cX4_give 57 = .ok (.aload_n 0, 1) := by decide +kernel
theorem dX4_give_58 : decode cX4_give 58 = .ok (.getfield 19, 3) := by decide +kernel
theorem dX4_give_61 : decode cX4_give 61 = .ok (.iload 4, 2) := by decide +kernel
theorem dX4_give_63 : decode cX4_give 63 = .ok (.iload 6, 2) := by decide +kernel
theorem dX4_give_65 : decode cX4_give 65 = .ok (.ifCond .lt 8, 3) := by decide +kernel
theorem dX4_give_68 : decode cX4_give 68 = .ok (.iload 6, 2) := by decide +kernel
theorem dX4_give_70 : decode cX4_give 70 = .ok (.goto 25, 3) := by decide +kernel
theorem dX4_give_73 : decode cX4_give 73 = .ok (.iload 6, 2) := by decide +kernel
theorem dX4_give_75 : decode cX4_give 75 = .ok (.iconst (-1), 1) := by decide +kernel
theorem dX4_give_76 : decode cX4_give 76 = .ok (.if_icmp .ne 7, 3) := by decide +kernel
theorem dX4_give_79 : decode cX4_give 79 = .ok (.iload_n 1, 1) := by decide +kernel
theorem dX4_give_80 : decode cX4_give 80 = .ok (.goto 15, 3) := by decide +kernel
theorem dX4_give_83 : decode cX4_give 83 = .ok (.iload 6, 2) := by decide +kernel
theorem dX4_give_85 : decode cX4_give 85 = .ok (.bipush (-2), 2) := by decide +kernel
theorem dX4_give_87 : decode cX4_give 87 = .ok (.if_icmp .ne 7, 3) := by decide +kernel
theorem dX4_give_90 : decode cX4_give 90 = .ok (.iload_n 2, 1) := by decide +kernel
theorem dX4_give_91 : decode cX4_give 91 = .ok (.goto 4, 3) := by decide +kernel
theorem dX4_give_94 : decode cX4_give 94 = .ok (.iload_n 3, 1) := by decide +kernel
theorem dX4_give_95 : decode cX4_give 95 = .ok (.iastore, 1) := by decide +kernel
theorem dX4_give_96 : decode cX4_give 96 = .ok (.iinc 4 1, 3) := by decide +kernel
theorem dX4_give_99 : decode cX4_give 99 = .ok (.goto 85, 3) := by decide +kernel
theorem dX4_give_102 : decode cX4_give 102 = .ok (.iload 6, 2) := by decide +kernel
theorem dX4_give_104 : decode cX4_give 104 = .ok (.bipush (-33), 2) := by decide +kernel
theorem dX4_give_106 : decode cX4_give 106 = .ok (.if_icmp .ne 38, 3) := by decide +kernel
theorem dX4_give_109 : decode cX4_give 109 = .ok (.iload 4, 2) := by decide +kernel
theorem dX4_give_111 : decode cX4_give 111 = .ok (.iconst 1, 1) := by decide +kernel
theorem dX4_give_112 : decode cX4_give 112 = .ok (.if_icmp .lt 32, 3) := by decide +kernel
theorem dX4_give_115 : decode cX4_give 115 = .ok (.aload_n 0, 1) := by decide +kernel
theorem dX4_give_116 : decode cX4_give 116 = .ok (.getfield 19, 3) := by decide +kernel
theorem dX4_give_119 : decode cX4_give 119 = .ok (.iload 4, 2) := by decide +kernel
theorem dX4_give_121 : decode cX4_give 121 = .ok (.iconst 1, 1) := by decide +kernel
theorem dX4_give_122 : decode cX4_give 122 = .ok (.isub, 1) := by decide +kernel
theorem dX4_give_123 : decode cX4_give 123 = .ok (.aload_n 0, 1) := by decide +kernel
theorem dX4_give_124 : decode cX4_give 124 = .ok (.getfield 19, 3) := by decide +kernel
theorem dX4_give_127 : decode cX4_give 127 = .ok (.iload 4, 2) := by decide +kernel
theorem dX4_give_129 : decode cX4_give 129 = .ok (.iconst 1, 1) := by decide +kernel
theorem dX4_give_130 : decode cX4_give 130 = .ok (.isub, 1) := by decide +kernel
theorem dX4_give_131 : decode cX4_give 131 = .ok (.iaload, 1) := by decide +kernel
theorem dX4_give_132 : decode cX4_give 132 = .ok (.ifCond .ne 7, 3) := by decide +kernel
theorem dX4_give_135 : decode cX4_give 135 = .ok (.iconst 1, 1) := by decide +kernel
theorem dX4_give_136 : decode cX4_give 136 = .ok (.goto 4, 3) := by decide +kernel
theorem dX4_give_139 : decode cX4_give 139 = .ok (.iconst 0, 1) := by decide +kernel
theorem dX4_give_140 : decode cX4_give 140 = .ok (.iastore, 1) := by decide +kernel
theorem dX4_give_141 : decode cX4_give 141 = .ok (.goto 43, 3) := by decide +kernel
theorem dX4_give_144 : decode cX4_give 144 = .ok (.iload 4, 2) := by decide +kernel
theorem dX4_give_146 : decode cX4_give 146 = .ok (.iconst 2, 1) := by decide +kernel
theorem dX4_give_147 : decode cX4_give 147 = .ok (.if_icmp .lt 37, 3) := by decide +kernel
theorem dX4_give_150 : decode cX4_give 150 = .ok (.iinc 4 (-1), 3) := by decide +kernel
theorem dX4_give_153 : decode cX4_give 153 = .ok (.aload_n 0, 1) := by decide +kernel
theorem dX4_give_154 : decode cX4_give 154 = .ok (.getfield 19, 3) := by decide +kernel
theorem dX4_give_157 : decode cX4_give 157 = .ok (.iload 4, 2) := by decide +kernel
theorem dX4_give_159 : decode cX4_give 159 = .ok (.iconst 1, 1) := by decide +kernel
theorem dX4_give_160 : decode cX4_give 160 = .ok (.isub, 1) := by decide +kernel
theorem dX4_give_161 : decode cX4_give 161 = .ok (.iload 6, 2) := by decide +kernel
theorem dX4_give_163 : decode cX4_give 163 = .ok (.ineg, 1) := by decide +kernel
theorem dX4_give_164 : decode cX4_give 164 = .ok (.aload_n 0, 1) := by decide +kernel
theorem dX4_give_165 : decode cX4_give 165 = .ok (.getfield 19, 3) := by decide +kernel
theorem dX4_give_168 : decode cX4_give 168 = .ok (.iload 4, 2) := by decide +kernel
theorem dX4_give_170 : decode cX4_give 170 = .ok (.iconst 1, 1) := by decide +kernel
theorem dX4_give_171 : decode cX4_give 171 = .ok (.isub, 1) := by decide +kernel
theorem dX4_give_172 : decode cX4_give 172 = .ok (.iaload, 1) := by decide +kernel
theorem dX4_give_173 : decode cX4_give 173 = .ok (.aload_n 0, 1) := by decide +kernel
theorem dX4_give_174 : decode cX4_give 174 = .ok (.getfield 19, 3) := by decide +kernel
theorem dX4_give_177 : decode cX4_give 177 = .ok (.iload 4, 2) := by decide +kernel
theorem dX4_give_179 : decode cX4_give 179 = .ok (.iaload, 1) := by decide +kernel
theorem dX4_give_180 : decode cX4_give 180 = .ok (.invokestatic 26, 3) := by decide +kernel
theorem dX4_give_183 : decode cX4_give 183 = .ok (.iastore, 1) := by decide +kernel
theorem dX4_give_184 : decode cX4_give 184 = .ok (.iinc 5 1, 3) := by decide +kernel
theorem dX4_give_187 : decode cX4_give 187 = .ok (.goto (-166), 3) := by decide +kernel
theorem dX4_give_190 : decode cX4_give 190 = .ok (.iconst 0, 1) := by decide +kernel
theorem dX4_give_191 : decode cX4_give 191 = .ok (.aload_n 0, 1) := by decide +kernel
theorem dX4_give_192 : decode cX4_give 192 = .ok (.getfield 9, 3) := by decide +kernel
theorem dX4_give_195 : decode cX4_give 195 = .ok (.ifCond .ne 8, 3) := by decide +kernel
theorem dX4_give_198 : decode cX4_give 198 = .ok (.bipush 99, 2) := by decide +kernel
theorem dX4_give_200 : decode cX4_give 200 = .ok (.goto 4, 3) := by decide +kernel
theorem dX4_give_203 : decode cX4_give 203 = .ok (.iconst 1, 1) := by decide +kernel
theorem dX4_give_204 : decode cX4_give 204 = .ok (.aload_n 0, 1) := by decide +kernel
theorem dX4_give_205 : decode cX4_give 205 = .ok (.getfield 19, 3) := by decide +kernel
theorem dX4_give_208 : decode cX4_give 208 = .ok (.iconst 0, 1) := by decide +kernel
theorem dX4_give_209 : decode cX4_give 209 = .ok (.iaload, 1) := by decide +kernel
theorem dX4_give_210 : decode cX4_give 210 = .ok (.invokestatic 30, 3) := by decide +kernel
theorem dX4_give_213 : decode cX4_give 213 = .ok (.invokestatic 35, 3) := by decide +kernel
theorem dX4_give_216 : decode cX4_give 216 = .ok (.ireturn, 1) := by decide +kernel
theorem dX4_withoutText_0 : decode cX4_withoutText 0 = .ok (.aload_n 0, 1) := by decide +kernel
theorem dX4_withoutText_1 : decode cX4_withoutText 1 = .ok (.getfield 9, 3) := by decide +kernel
theorem dX4_withoutText_4 : decode cX4_withoutText 4 = .ok (.ifCond .ne 5, 3) := by decide +kernel
theorem dX4_withoutText_7 : decode cX4_withoutText 7 = .ok (.iconst 3, 1) := by decide +kernel
theorem dX4_withoutText_8 : decode cX4_withoutText 8 = .ok (.ireturn, 1) := by decide +kernel
theorem dX4_withoutText_9 : decode cX4_withoutText 9 = .ok (.iload_n 1, 1) := by decide +kernel
theorem dX4_withoutText_10 : decode cX4_withoutText 10 = .ok (.ifCond .ne 8, 3) := by decide +kernel
theorem dX4_withoutText_13 : decode cX4_withoutText 13 = .ok (.iload_n 2, 1) := by decide +kernel
theorem dX4_withoutText_14 : decode cX4_withoutText 14 = .ok (.iconst 1, 1) := by decide +kernel
theorem dX4_withoutText_15 : decode cX4_withoutText 15 = .ok (.if_icmp .eq 13, 3) := by decide +kernel
theorem dX4_withoutText_18 : decode cX4_withoutText 18 = .ok (.iload_n 1, 1) := by decide +kernel
theorem dX4_withoutText_19 : decode cX4_withoutText 19 = .ok (.iconst 1, 1) := by decide +kernel
theorem dX4_withoutText_20 : decode cX4_withoutText 20 = .ok (.if_icmp .ne 12, 3) := by decide +kernel
theorem dX4_withoutText_23 : decode cX4_withoutText 23 = .ok (.iload_n 2, 1) := by decide +kernel
theorem dX4_withoutText_24 : decode cX4_withoutText 24 = .ok (.iconst 4, 1) := by decide +kernel
theorem dX4_withoutText_25 : decode cX4_withoutText 25 = .ok (.if_icmp .ne 7, 3) := by decide +kernel
theorem dX4_withoutText_28 : decode cX4_withoutText 28 = .ok (.iconst 1, 1) := by decide +kernel
theorem dX4_withoutText_29 : decode cX4_withoutText 29 = .ok (.goto 4, 3) := by decide +kernel
theorem dX4_withoutText_32 : decode cX4_withoutText 32 = .ok (.iconst 0, 1) := by decide +kernel
theorem dX4_withoutText_33 : decode cX4_withoutText 33 = .ok (.ireturn, 1) := by decide +kernel
theorem dX4_joined_0 : decode cX4_joined 0 = .ok (.iload_n 0, 1) := by decide +kernel
theorem dX4_joined_1 : decode cX4_joined 1 = .ok (.tableswitch 202 37 62 #[143, 188, 202, 202, 202, 127, 119, 202, 123, 202, 131, 202, 202, 202, 202, 202, 202, 202, 202, 202, 202, 202, 202, 155, 166, 177], 119) := by decide +kernel
theorem dX4_joined_120 : decode cX4_joined 120 = .ok (.iload_n 1, 1) := by decide +kernel
theorem dX4_joined_121 : decode cX4_joined 121 = .ok (.iload_n 2, 1) := by decide +kernel
theorem dX4_joined_122 : decode cX4_joined 122 = .ok (.iadd, 1) := by decide +kernel
theorem dX4_joined_123 : decode cX4_joined 123 = .ok (.ireturn, 1) := by decide +kernel
theorem dX4_joined_124 : decode cX4_joined 124 = .ok (.iload_n 1, 1) := by decide +kernel
theorem dX4_joined_125 : decode cX4_joined 125 = .ok (.iload_n 2, 1) := by decide +kernel
theorem dX4_joined_126 : decode cX4_joined 126 = .ok (.isub, 1) := by decide +kernel
theorem dX4_joined_127 : decode cX4_joined 127 = .ok (.ireturn, 1) := by decide +kernel
theorem dX4_joined_128 : decode cX4_joined 128 = .ok (.iload_n 1, 1) := by decide +kernel
theorem dX4_joined_129 : decode cX4_joined 129 = .ok (.iload_n 2, 1) := by decide +kernel
theorem dX4_joined_130 : decode cX4_joined 130 = .ok (.imul, 1) := by decide +kernel
theorem dX4_joined_131 : decode cX4_joined 131 = .ok (.ireturn, 1) := by decide +kernel
theorem dX4_joined_132 : decode cX4_joined 132 = .ok (.iload_n 2, 1) := by decide +kernel
theorem dX4_joined_133 : decode cX4_joined 133 = .ok (.ifCond .ne 7, 3) := by decide +kernel
theorem dX4_joined_136 : decode cX4_joined 136 = .ok (.iconst 0, 1) := by decide +kernel
theorem dX4_joined_137 : decode cX4_joined 137 = .ok (.goto 6, 3) := by decide +kernel
theorem dX4_joined_140 : decode cX4_joined 140 = .ok (.iload_n 1, 1) := by decide +kernel
theorem dX4_joined_141 : decode cX4_joined 141 = .ok (.iload_n 2, 1) := by decide +kernel
theorem dX4_joined_142 : decode cX4_joined 142 = .ok (.idiv, 1) := by decide +kernel
theorem dX4_joined_143 : decode cX4_joined 143 = .ok (.ireturn, 1) := by decide +kernel
theorem dX4_joined_144 : decode cX4_joined 144 = .ok (.iload_n 2, 1) := by decide +kernel
theorem dX4_joined_145 : decode cX4_joined 145 = .ok (.ifCond .ne 7, 3) := by decide +kernel
theorem dX4_joined_148 : decode cX4_joined 148 = .ok (.iconst 0, 1) := by decide +kernel
theorem dX4_joined_149 : decode cX4_joined 149 = .ok (.goto 6, 3) := by decide +kernel
theorem dX4_joined_152 : decode cX4_joined 152 = .ok (.iload_n 1, 1) := by decide +kernel
theorem dX4_joined_153 : decode cX4_joined 153 = .ok (.iload_n 2, 1) := by decide +kernel
theorem dX4_joined_154 : decode cX4_joined 154 = .ok (.irem, 1) := by decide +kernel
theorem dX4_joined_155 : decode cX4_joined 155 = .ok (.ireturn, 1) := by decide +kernel
theorem dX4_joined_156 : decode cX4_joined 156 = .ok (.iload_n 1, 1) := by decide +kernel
theorem dX4_joined_157 : decode cX4_joined 157 = .ok (.iload_n 2, 1) := by decide +kernel
theorem dX4_joined_158 : decode cX4_joined 158 = .ok (.if_icmp .ge 7, 3) := by decide +kernel
theorem dX4_joined_161 : decode cX4_joined 161 = .ok (.iconst 1, 1) := by decide +kernel
theorem dX4_joined_162 : decode cX4_joined 162 = .ok (.goto 4, 3) := by decide +kernel
theorem dX4_joined_165 : decode cX4_joined 165 = .ok (.iconst 0, 1) := by decide +kernel
theorem dX4_joined_166 : decode cX4_joined 166 = .ok (.ireturn, 1) := by decide +kernel
theorem dX4_joined_167 : decode cX4_joined 167 = .ok (.iload_n 1, 1) := by decide +kernel
theorem dX4_joined_168 : decode cX4_joined 168 = .ok (.iload_n 2, 1) := by decide +kernel
theorem dX4_joined_169 : decode cX4_joined 169 = .ok (.if_icmp .ne 7, 3) := by decide +kernel
theorem dX4_joined_172 : decode cX4_joined 172 = .ok (.iconst 1, 1) := by decide +kernel
theorem dX4_joined_173 : decode cX4_joined 173 = .ok (.goto 4, 3) := by decide +kernel
theorem dX4_joined_176 : decode cX4_joined 176 = .ok (.iconst 0, 1) := by decide +kernel
theorem dX4_joined_177 : decode cX4_joined 177 = .ok (.ireturn, 1) := by decide +kernel
theorem dX4_joined_178 : decode cX4_joined 178 = .ok (.iload_n 1, 1) := by decide +kernel
theorem dX4_joined_179 : decode cX4_joined 179 = .ok (.iload_n 2, 1) := by decide +kernel
theorem dX4_joined_180 : decode cX4_joined 180 = .ok (.if_icmp .le 7, 3) := by decide +kernel
theorem dX4_joined_183 : decode cX4_joined 183 = .ok (.iconst 1, 1) := by decide +kernel
theorem dX4_joined_184 : decode cX4_joined 184 = .ok (.goto 4, 3) := by decide +kernel
theorem dX4_joined_187 : decode cX4_joined 187 = .ok (.iconst 0, 1) := by decide +kernel
theorem dX4_joined_188 : decode cX4_joined 188 = .ok (.ireturn, 1) := by decide +kernel
theorem dX4_joined_189 : decode cX4_joined 189 = .ok (.iload_n 1, 1) := by decide +kernel
theorem dX4_joined_190 : decode cX4_joined 190 = .ok (.ifCond .eq 11, 3) := by decide +kernel
theorem dX4_joined_193 : decode cX4_joined 193 = .ok (.iload_n 2, 1) := by decide +kernel
theorem dX4_joined_194 : decode cX4_joined 194 = .ok (.ifCond .eq 7, 3) := by decide +kernel
theorem dX4_joined_197 : decode cX4_joined 197 = .ok (.iconst 1, 1) := by decide +kernel
theorem dX4_joined_198 : decode cX4_joined 198 = .ok (.goto 4, 3) := by decide +kernel
theorem dX4_joined_201 : decode cX4_joined 201 = .ok (.iconst 0, 1) := by decide +kernel
theorem dX4_joined_202 : decode cX4_joined 202 = .ok (.ireturn, 1) := by decide +kernel
theorem dX4_joined_203 : decode cX4_joined 203 = .ok (.iload_n 1, 1) := by decide +kernel
theorem dX4_joined_204 : decode cX4_joined 204 = .ok (.ifCond .ne 7, 3) := by decide +kernel
theorem dX4_joined_207 : decode cX4_joined 207 = .ok (.iload_n 2, 1) := by decide +kernel
theorem dX4_joined_208 : decode cX4_joined 208 = .ok (.ifCond .eq 7, 3) := by decide +kernel
theorem dX4_joined_211 : decode cX4_joined 211 = .ok (.iconst 1, 1) := by decide +kernel
theorem dX4_joined_212 : decode cX4_joined 212 = .ok (.goto 4, 3) := by decide +kernel
theorem dX4_joined_215 : decode cX4_joined 215 = .ok (.iconst 0, 1) := by decide +kernel
theorem dX4_joined_216 : decode cX4_joined 216 = .ok (.ireturn, 1) := by decide +kernel
theorem dX5_init_0 : decode cX5_init 0 = .ok (.aload_n 0, 1) := by decide +kernel
theorem dX5_init_1 : decode cX5_init 1 = .ok (.invokespecial 3, 3) := by decide +kernel
theorem dX5_init_4 : decode cX5_init 4 = .ok (.aload_n 0, 1) := by decide +kernel
theorem dX5_init_5 : decode cX5_init 5 = .ok (.bipush 50, 2) := by decide +kernel
theorem dX5_init_7 : decode cX5_init 7 = .ok (.newarray .int, 2) := by decide +kernel
theorem dX5_init_9 : decode cX5_init 9 = .ok (.putfield 9, 3) := by decide +kernel
theorem dX5_init_12 : decode cX5_init 12 = .ok (.aload_n 0, 1) := by decide +kernel
theorem dX5_init_13 : decode cX5_init 13 = .ok (.bipush 50, 2) := by decide +kernel
theorem dX5_init_15 : decode cX5_init 15 = .ok (.newarray .int, 2) := by decide +kernel
theorem dX5_init_17 : decode cX5_init 17 = .ok (.putfield 15, 3) := by decide +kernel
theorem dX5_init_20 : decode cX5_init 20 = .ok (.return_, 1) := by decide +kernel
theorem dX5_faultIn_0 : decode cX5_faultIn 0 = .ok (.aload_n 1, 1) := by decide +kernel
theorem dX5_faultIn_1 : decode cX5_faultIn 1 = .ok (.iconst 0, 1) := by decide +kernel
theorem dX5_faultIn_2 : decode cX5_faultIn 2 = .ok (.aload_n 0, 1) := by decide +kernel
theorem dX5_faultIn_3 : decode cX5_faultIn 3 = .ok (.getfield 9, 3) := by decide +kernel
theorem dX5_faultIn_6 : decode cX5_faultIn 6 = .ok (.iconst 0, 1) := by decide +kernel
theorem dX5_faultIn_7 : decode cX5_faultIn 7 = .ok (.iload_n 2, 1) := by decide +kernel
theorem dX5_faultIn_8 : decode cX5_faultIn 8 = .ok (.invokestatic 18, 3) := by decide +kernel
theorem dX5_faultIn_11 : decode cX5_faultIn 11 = .ok (.aload_n 0, 1) := by decide +kernel
theorem dX5_faultIn_12 : decode cX5_faultIn 12 = .ok (.iload_n 2, 1) := by decide +kernel
theorem dX5_faultIn_13 : decode cX5_faultIn 13 = .ok (.putfield 24, 3) := by decide +kernel
theorem dX5_faultIn_16 : decode cX5_faultIn 16 = .ok (.aload_n 0, 1) := by decide +kernel
theorem dX5_faultIn_17 : decode cX5_faultIn 17 = .ok (.iload_n 3, 1) := by decide +kernel
theorem dX5_faultIn_18 : decode cX5_faultIn 18 = .ok (.putfield 28, 3) := by decide +kernel
theorem dX5_faultIn_21 : decode cX5_faultIn 21 = .ok (.aload_n 0, 1) := by decide +kernel
theorem dX5_faultIn_22 : decode cX5_faultIn 22 = .ok (.iconst 0, 1) := by decide +kernel
theorem dX5_faultIn_23 : decode cX5_faultIn 23 = .ok (.putfield 31, 3) := by decide +kernel
theorem dX5_faultIn_26 : decode cX5_faultIn 26 = .ok (.aload_n 0, 1) := by decide +kernel
theorem dX5_faultIn_27 : decode cX5_faultIn 27 = .ok (.iconst 0, 1) := by decide +kernel
theorem dX5_faultIn_28 : decode cX5_faultIn 28 = .ok (.putfield 34, 3) := by decide +kernel
theorem dX5_faultIn_31 : decode cX5_faultIn 31 = .ok (.aload_n 0, 1) := by decide +kernel
theorem dX5_faultIn_32 : decode cX5_faultIn 32 = .ok (.iconst 0, 1) := by decide +kernel
theorem dX5_faultIn_33 : decode cX5_faultIn 33 = .ok (.iconst 0, 1) := by decide +kernel
theorem dX5_faultIn_34 : decode cX5_faultIn 34 = .ok (.invokevirtual 37, 3) := by decide +kernel
theorem dX5_faultIn_37 : decode cX5_faultIn 37 = .ok (.ifCond .eq 18, 3) := by decide +kernel
theorem dX5_faultIn_40 : decode cX5_faultIn 40 = .ok (.aload_n 0, 1) := by decide +kernel
theorem dX5_faultIn_41 : decode cX5_faultIn 41 = .ok (.getfield 31, 3) := by decide +kernel
theorem dX5_faultIn_44 : decode cX5_faultIn 44 = .ok (.aload_n 0, 1) := by decide +kernel
theorem dX5_faultIn_45 : decode cX5_faultIn 45 = .ok (.getfield 24, 3) := by decide +kernel
theorem dX5_faultIn_48 : decode cX5_faultIn 48 = .ok (.if_icmp .ne 7, 3) := by decide +kernel
theorem dX5_faultIn_51 : decode cX5_faultIn 51 = .ok (.iconst (-1), 1) := by decide +kernel
theorem dX5_faultIn_52 : decode cX5_faultIn 52 = .ok (.goto 7, 3) := by decide +kernel
theorem dX5_faultIn_55 : decode cX5_faultIn 55 = .ok (.aload_n 0, 1) := by decide +kernel
theorem dX5_faultIn_56 : decode cX5_faultIn 56 = .ok (.getfield 31, 3) := by decide +kernel
theorem dX5_faultIn_59 : decode cX5_faultIn 59 = .ok (.ireturn, 1) := by decide +kernel
theorem dX5_lawRead_0 : decode cX5_lawRead 0 = .ok (.aload_n 0, 1) := by decide +kernel
theorem dX5_lawRead_1 : decode cX5_lawRead 1 = .ok (.getfield 34, 3) := by decide +kernel
theorem dX5_lawRead_4 : decode cX5_lawRead 4 = .ok (.newarray .int, 2) := by decide +kernel
theorem dX5_lawRead_6 : decode cX5_lawRead 6 = .ok (.astore_n 1, 1) := by decide +kernel
theorem dX5_lawRead_7 : decode cX5_lawRead 7 = .ok (.aload_n 0, 1) := by decide +kernel
theorem dX5_lawRead_8 : decode cX5_lawRead 8 = .ok (.getfield 15, 3) := by decide +kernel
theorem dX5_lawRead_11 : decode cX5_lawRead 11 = .ok (.iconst 0, 1) := by decide +kernel
theorem dX5_lawRead_12 : decode cX5_lawRead 12 = .ok (.aload_n 1, 1) := by decide +kernel
theorem dX5_lawRead_13 : decode cX5_lawRead 13 = .ok (.iconst 0, 1) := by decide +kernel
theorem dX5_lawRead_14 : decode cX5_lawRead 14 = .ok (.aload_n 0, 1) := by decide +kernel
theorem dX5_lawRead_15 : decode cX5_lawRead 15 = .ok (.getfield 34, 3) := by decide +kernel
theorem dX5_lawRead_18 : decode cX5_lawRead 18 = .ok (.invokestatic 18, 3) := by decide +kernel
theorem dX5_lawRead_21 : decode cX5_lawRead 21 = .ok (.new 41, 3) := by decide +kernel
theorem dX5_lawRead_24 : decode cX5_lawRead 24 = .ok (.dup, 1) := by decide +kernel
theorem dX5_lawRead_25 : decode cX5_lawRead 25 = .ok (.aload_n 0, 1) := by decide +kernel
theorem dX5_lawRead_26 : decode cX5_lawRead 26 = .ok (.getfield 28, 3) := by decide +kernel
theorem dX5_lawRead_29 : decode cX5_lawRead 29 = .ok (.aload_n 1, 1) := by decide +kernel
theorem dX5_lawRead_30 : decode cX5_lawRead 30 = .ok (.invokespecial 43, 3) := by decide +kernel
theorem dX5_lawRead_33 : decode cX5_lawRead 33 = .ok (.areturn, 1) := by decide +kernel
theorem dX5_reads_0 : decode cX5_reads 0 = .ok (.iload_n 1, 1) := by decide +kernel
theorem dX5_reads_1 : decode cX5_reads 1 = .ok (.iconst 5, 1) := by decide +kernel
theorem dX5_reads_2 : decode cX5_reads 2 = .ok (.if_icmp .lt 9, 3) := by decide +kernel
theorem dX5_reads_5 : decode cX5_reads 5 = .ok (.aload_n 0, 1) := by decide +kernel
theorem dX5_reads_6 : decode cX5_reads 6 = .ok (.iload_n 2, 1) := by decide +kernel
theorem dX5_reads_7 : decode cX5_reads 7 = .ok (.invokevirtual 46, 3) := by decide +kernel
theorem dX5_reads_10 : decode cX5_reads 10 = .ok (.ireturn, 1) := by decide +kernel
theorem dX5_reads_11 : decode cX5_reads 11 = .ok (.aload_n 0, 1) := by decide +kernel
theorem dX5_reads_12 : decode cX5_reads 12 = .ok (.iload_n 1, 1) := by decide +kernel
theorem dX5_reads_13 : decode cX5_reads 13 = .ok (.iconst 1, 1) := by decide +kernel
theorem dX5_reads_14 : decode cX5_reads 14 = .ok (.iadd, 1) := by decide +kernel
theorem dX5_reads_15 : decode cX5_reads 15 = .ok (.iload_n 2, 1) := by decide +kernel
theorem dX5_reads_16 : decode cX5_reads 16 = .ok (.invokevirtual 37, 3) := by decide +kernel
theorem dX5_reads_19 : decode cX5_reads 19 = .ok (.ifCond .ne 5, 3) := by decide +kernel
theorem dX5_reads_22 : decode cX5_reads 22 = .ok (.iconst 0, 1) := by decide +kernel
theorem dX5_reads_23 : decode cX5_reads 23 = .ok (.ireturn, 1) := by decide +kernel
theorem dX5_reads_24 : decode cX5_reads 24 = .ok (.iload_n 1, 1) := by decide +kernel
theorem dX5_reads_25 : decode cX5_reads 25 = .ok (.iconst 2, 1) := by decide +kernel
theorem dX5_reads_26 : decode cX5_reads 26 = .ok (.if_icmp .ne 7, 3) := by decide +kernel
theorem dX5_reads_29 : decode cX5_reads 29 = .ok (.iconst 1, 1) := by decide +kernel
theorem dX5_reads_30 : decode cX5_reads 30 = .ok (.goto 5, 3) := by decide +kernel
theorem dX5_reads_33 : decode cX5_reads 33 = .ok (.bipush 50, 2) := by decide +kernel
theorem dX5_reads_35 : decode cX5_reads 35 = .ok (.istore_n 3, 1) := by decide +kernel
theorem dX5_reads_36 : decode cX5_reads 36 = .ok (.iconst 0, 1) := by decide +kernel
theorem dX5_reads_37 : decode cX5_reads 37 = .ok (.istore 4, 2) := by decide +kernel
theorem dX5_reads_39 : decode cX5_reads 39 = .ok (.iload 4, 2) := by decide +kernel
theorem dX5_reads_41 : decode cX5_reads 41 = .ok (.iload_n 3, 1) := by decide +kernel
theorem dX5_reads_42 : decode cX5_reads 42 = .ok (.if_icmp .ge 56, 3) := by decide +kernel
theorem dX5_reads_45 : decode cX5_reads 45 = .ok (.aload_n 0, 1) := by decide +kernel
theorem dX5_reads_46 : decode cX5_reads 46 = .ok (.invokevirtual 50, 3) := by decide +kernel
theorem dX5_reads_49 : decode cX5_reads 49 = .ok (.invokestatic 54, 3) := by decide +kernel
theorem dX5_reads_52 : decode cX5_reads 52 = .ok (.iload_n 1, 1) := by decide +kernel
theorem dX5_reads_53 : decode cX5_reads 53 = .ok (.if_icmp .ne 45, 3) := by decide +kernel
theorem dX5_reads_56 : decode cX5_reads 56 = .ok (.aload_n 0, 1) := by decide +kernel
theorem dX5_reads_57 : decode cX5_reads 57 = .ok (.invokevirtual 50, 3) := by decide +kernel
theorem dX5_reads_60 : decode cX5_reads 60 = .ok (.istore 5, 2) := by decide +kernel
theorem dX5_reads_62 : decode cX5_reads 62 = .ok (.aload_n 0, 1) := by decide +kernel
theorem dX5_reads_63 : decode cX5_reads 63 = .ok (.dup, 1) := by decide +kernel
theorem dX5_reads_64 : decode cX5_reads 64 = .ok (.getfield 31, 3) := by decide +kernel
theorem dX5_reads_67 : decode cX5_reads 67 = .ok (.iconst 1, 1) := by decide +kernel
theorem dX5_reads_68 : decode cX5_reads 68 = .ok (.iadd, 1) := by decide +kernel
theorem dX5_reads_69 : decode cX5_reads 69 = .ok (.putfield 31, 3) := by decide +kernel
theorem dX5_reads_72 : decode cX5_reads 72 = .ok (.aload_n 0, 1) := by decide +kernel
theorem dX5_reads_73 : decode cX5_reads 73 = .ok (.iload_n 1, 1) := by decide +kernel
theorem dX5_reads_74 : decode cX5_reads 74 = .ok (.iconst 1, 1) := by decide +kernel
theorem dX5_reads_75 : decode cX5_reads 75 = .ok (.iadd, 1) := by decide +kernel
theorem dX5_reads_76 : decode cX5_reads 76 = .ok (.iload_n 2, 1) := by decide +kernel
theorem dX5_reads_77 : decode cX5_reads 77 = .ok (.invokevirtual 37, 3) := by decide +kernel
theorem dX5_reads_80 : decode cX5_reads 80 = .ok (.ifCond .ne 5, 3) := by decide +kernel
theorem dX5_reads_83 : decode cX5_reads 83 = .ok (.iconst 0, 1) := by decide +kernel
theorem dX5_reads_84 : decode cX5_reads 84 = .ok (.ireturn, 1) := by decide +kernel
theorem dX5_reads_85 : decode cX5_reads 85 = .ok (.aload_n 0, 1) := by decide +kernel
theorem dX5_reads_86 : decode cX5_reads 86 = .ok (.iload 5, 2) := by decide +kernel
theorem dX5_reads_88 : decode cX5_reads 88 = .ok (.ineg, 1) := by decide +kernel
theorem dX5_reads_89 : decode cX5_reads 89 = .ok (.invokevirtual 58, 3) := by decide +kernel
theorem dX5_reads_92 : decode cX5_reads 92 = .ok (.iinc 4 1, 3) := by decide +kernel
theorem dX5_reads_95 : decode cX5_reads 95 = .ok (.goto (-56), 3) := by decide +kernel
theorem dX5_reads_98 : decode cX5_reads 98 = .ok (.iconst 1, 1) := by decide +kernel
theorem dX5_reads_99 : decode cX5_reads 99 = .ok (.ireturn, 1) := by decide +kernel
theorem dX5_readsOne_0 : decode cX5_readsOne 0 = .ok (.aload_n 0, 1) := by decide +kernel
theorem dX5_readsOne_1 : decode cX5_readsOne 1 = .ok (.invokevirtual 50, 3) := by decide +kernel
theorem dX5_readsOne_4 : decode cX5_readsOne 4 = .ok (.istore_n 2, 1) := by decide +kernel
theorem dX5_readsOne_5 : decode cX5_readsOne 5 = .ok (.iload_n 2, 1) := by decide +kernel
theorem dX5_readsOne_6 : decode cX5_readsOne 6 = .ok (.invokestatic 62, 3) := by decide +kernel
theorem dX5_readsOne_9 : decode cX5_readsOne 9 = .ok (.ifCond .eq 9, 3) := by decide +kernel
theorem dX5_readsOne_12 : decode cX5_readsOne 12 = .ok (.aload_n 0, 1) := by decide +kernel
theorem dX5_readsOne_13 : decode cX5_readsOne 13 = .ok (.invokevirtual 65, 3) := by decide +kernel
theorem dX5_readsOne_16 : decode cX5_readsOne 16 = .ok (.iconst 1, 1) := by decide +kernel
theorem dX5_readsOne_17 : decode cX5_readsOne 17 = .ok (.ireturn, 1) := by decide +kernel
theorem dX5_readsOne_18 : decode cX5_readsOne 18 = .ok (.aload_n 0, 1) := by decide +kernel
theorem dX5_readsOne_19 : decode cX5_readsOne 19 = .ok (.iload_n 2, 1) := by decide +kernel
theorem dX5_readsOne_20 : decode cX5_readsOne 20 = .ok (.invokevirtual 68, 3) := by decide +kernel
theorem dX5_readsOne_23 : decode cX5_readsOne 23 = .ok (.istore_n 3, 1) := by decide +kernel
theorem dX5_readsOne_24 : decode cX5_readsOne 24 = .ok (.iload_n 3, 1) := by decide +kernel
theorem dX5_readsOne_25 : decode cX5_readsOne 25 = .ok (.ifCond .lt 22, 3) := by decide +kernel
theorem dX5_readsOne_28 : decode cX5_readsOne 28 = .ok (.aload_n 0, 1) := by decide +kernel
theorem dX5_readsOne_29 : decode cX5_readsOne 29 = .ok (.dup, 1) := by decide +kernel
theorem dX5_readsOne_30 : decode cX5_readsOne 30 = .ok (.getfield 31, 3) := by decide +kernel
theorem dX5_readsOne_33 : decode cX5_readsOne 33 = .ok (.iconst 1, 1) := by decide +kernel
theorem dX5_readsOne_34 : decode cX5_readsOne 34 = .ok (.iadd, 1) := by decide +kernel
theorem dX5_readsOne_35 : decode cX5_readsOne 35 = .ok (.putfield 31, 3) := by decide +kernel
theorem dX5_readsOne_38 : decode cX5_readsOne 38 = .ok (.aload_n 0, 1) := by decide +kernel
theorem dX5_readsOne_39 : decode cX5_readsOne 39 = .ok (.iconst (-1), 1) := by decide +kernel
theorem dX5_readsOne_40 : decode cX5_readsOne 40 = .ok (.iload_n 3, 1) := by decide +kernel
theorem dX5_readsOne_41 : decode cX5_readsOne 41 = .ok (.isub, 1) := by decide +kernel
theorem dX5_readsOne_42 : decode cX5_readsOne 42 = .ok (.invokevirtual 58, 3) := by decide +kernel
theorem dX5_readsOne_45 : decode cX5_readsOne 45 = .ok (.iconst 1, 1) := by decide +kernel
theorem dX5_readsOne_46 : decode cX5_readsOne 46 = .ok (.ireturn, 1) := by decide +kernel
theorem dX5_readsOne_47 : decode cX5_readsOne 47 = .ok (.iload_n 2, 1) := by decide +kernel
theorem dX5_readsOne_48 : decode cX5_readsOne 48 = .ok (.bipush 33, 2) := by decide +kernel
theorem dX5_readsOne_50 : decode cX5_readsOne 50 = .ok (.if_icmp .eq 9, 3) := by decide +kernel
theorem dX5_readsOne_53 : decode cX5_readsOne 53 = .ok (.iload_n 2, 1) := by decide +kernel
theorem dX5_readsOne_54 : decode cX5_readsOne 54 = .ok (.bipush 40, 2) := by decide +kernel
theorem dX5_readsOne_56 : decode cX5_readsOne 56 = .ok (.if_icmp .ne 8, 3) := by decide +kernel
theorem dX5_readsOne_59 : decode cX5_readsOne 59 = .ok (.iload_n 1, 1) := by decide +kernel
theorem dX5_readsOne_60 : decode cX5_readsOne 60 = .ok (.iconst 5, 1) := by decide +kernel
theorem dX5_readsOne_61 : decode cX5_readsOne 61 = .ok (.if_icmp .lt 5, 3) := by decide +kernel
theorem dX5_readsOne_64 : decode cX5_readsOne 64 = .ok (.iconst 0, 1) := by decide +kernel
theorem dX5_readsOne_65 : decode cX5_readsOne 65 = .ok (.ireturn, 1) := by decide +kernel
theorem dX5_readsOne_66 : decode cX5_readsOne 66 = .ok (.aload_n 0, 1) := by decide +kernel
theorem dX5_readsOne_67 : decode cX5_readsOne 67 = .ok (.dup, 1) := by decide +kernel
theorem dX5_readsOne_68 : decode cX5_readsOne 68 = .ok (.getfield 31, 3) := by decide +kernel
theorem dX5_readsOne_71 : decode cX5_readsOne 71 = .ok (.iconst 1, 1) := by decide +kernel
theorem dX5_readsOne_72 : decode cX5_readsOne 72 = .ok (.iadd, 1) := by decide +kernel
theorem dX5_readsOne_73 : decode cX5_readsOne 73 = .ok (.putfield 31, 3) := by decide +kernel
theorem dX5_readsOne_76 : decode cX5_readsOne 76 = .ok (.iload_n 2, 1) := by decide +kernel
theorem dX5_readsOne_77 : decode cX5_readsOne 77 = .ok (.bipush 33, 2) := by decide +kernel
theorem dX5_readsOne_79 : decode cX5_readsOne 79 = .ok (.if_icmp .ne 13, 3) := by decide +kernel
theorem dX5_readsOne_82 : decode cX5_readsOne 82 = .ok (.aload_n 0, 1) := by decide +kernel
theorem dX5_readsOne_83 : decode cX5_readsOne 83 = .ok (.iload_n 1, 1) := by decide +kernel
theorem dX5_readsOne_84 : decode cX5_readsOne 84 = .ok (.iconst 1, 1) := by decide +kernel
theorem dX5_readsOne_85 : decode cX5_readsOne 85 = .ok (.iadd, 1) := by decide +kernel
theorem dX5_readsOne_86 : decode cX5_readsOne 86 = .ok (.invokevirtual 71, 3) := by decide +kernel
theorem dX5_readsOne_89 : decode cX5_readsOne 89 = .ok (.goto 10, 3) := by decide +kernel
theorem dX5_readsOne_92 : decode cX5_readsOne 92 = .ok (.aload_n 0, 1) := by decide +kernel
theorem dX5_readsOne_93 : decode cX5_readsOne 93 = .ok (.iload_n 1, 1) := by decide +kernel
theorem dX5_readsOne_94 : decode cX5_readsOne 94 = .ok (.iconst 1, 1) := by decide +kernel
theorem dX5_readsOne_95 : decode cX5_readsOne 95 = .ok (.iadd, 1) := by decide +kernel
theorem dX5_readsOne_96 : decode cX5_readsOne 96 = .ok (.invokevirtual 74, 3) := by decide +kernel
theorem dX5_readsOne_99 : decode cX5_readsOne 99 = .ok (.ireturn, 1) := by decide +kernel
theorem dX5_readsDenied_0 : decode cX5_readsDenied 0 = .ok (.aload_n 0, 1) := by decide +kernel
theorem dX5_readsDenied_1 : decode cX5_readsDenied 1 = .ok (.iload_n 1, 1) := by decide +kernel
theorem dX5_readsDenied_2 : decode cX5_readsDenied 2 = .ok (.invokevirtual 46, 3) := by decide +kernel
theorem dX5_readsDenied_5 : decode cX5_readsDenied 5 = .ok (.ifCond .ne 5, 3) := by decide +kernel
theorem dX5_readsDenied_8 : decode cX5_readsDenied 8 = .ok (.iconst 0, 1) := by decide +kernel
theorem dX5_readsDenied_9 : decode cX5_readsDenied 9 = .ok (.ireturn, 1) := by decide +kernel
theorem dX5_readsDenied_10 : decode cX5_readsDenied 10 = .ok (.aload_n 0, 1) := by decide +kernel
theorem dX5_readsDenied_11 : decode cX5_readsDenied 11 = .ok (.bipush (-33), 2) := by decide +kernel
theorem dX5_readsDenied_13 : decode cX5_readsDenied 13 = .ok (.invokevirtual 58, 3) := by decide +kernel
theorem dX5_readsDenied_16 : decode cX5_readsDenied 16 = .ok (.iconst 1, 1) := by decide +kernel
theorem dX5_readsDenied_17 : decode cX5_readsDenied 17 = .ok (.ireturn, 1) := by decide +kernel
theorem dX5_readsClosed_0 : decode cX5_readsClosed 0 = .ok (.aload_n 0, 1) := by decide +kernel
theorem dX5_readsClosed_1 : decode cX5_readsClosed 1 = .ok (.iconst 0, 1) := by decide +kernel
theorem dX5_readsClosed_2 : decode cX5_readsClosed 2 = .ok (.iload_n 1, 1) := by decide +kernel
theorem dX5_readsClosed_3 : decode cX5_readsClosed 3 = .ok (.invokevirtual 37, 3) := by decide +kernel
theorem dX5_readsClosed_6 : decode cX5_readsClosed 6 = .ok (.ifCond .eq 12, 3) := by decide +kernel
theorem dX5_readsClosed_9 : decode cX5_readsClosed 9 = .ok (.aload_n 0, 1) := by decide +kernel
theorem dX5_readsClosed_10 : decode cX5_readsClosed 10 = .ok (.invokevirtual 50, 3) := by decide +kernel
theorem dX5_readsClosed_13 : decode cX5_readsClosed 13 = .ok (.bipush 41, 2) := by decide +kernel
theorem dX5_readsClosed_15 : decode cX5_readsClosed 15 = .ok (.if_icmp .eq 5, 3) := by decide +kernel
theorem dX5_readsClosed_18 : decode cX5_readsClosed 18 = .ok (.iconst 0, 1) := by decide +kernel
theorem dX5_readsClosed_19 : decode cX5_readsClosed 19 = .ok (.ireturn, 1) := by decide +kernel
theorem dX5_readsClosed_20 : decode cX5_readsClosed 20 = .ok (.aload_n 0, 1) := by decide +kernel
theorem dX5_readsClosed_21 : decode cX5_readsClosed 21 = .ok (.dup, 1) := by decide +kernel
theorem dX5_readsClosed_22 : decode cX5_readsClosed 22 = .ok (.getfield 31, 3) := by decide +kernel
theorem dX5_readsClosed_25 : decode cX5_readsClosed 25 = .ok (.iconst 1, 1) := by decide +kernel
theorem dX5_readsClosed_26 : decode cX5_readsClosed 26 = .ok (.iadd, 1) := by decide +kernel
theorem dX5_readsClosed_27 : decode cX5_readsClosed 27 = .ok (.putfield 31, 3) := by decide +kernel
theorem dX5_readsClosed_30 : decode cX5_readsClosed 30 = .ok (.iconst 1, 1) := by decide +kernel
theorem dX5_readsClosed_31 : decode cX5_readsClosed 31 = .ok (.ireturn, 1) := by decide +kernel
theorem dX5_readNumber_0 : decode cX5_readNumber 0 = .ok (.iconst 0, 1) := by decide +kernel
theorem dX5_readNumber_1 : decode cX5_readNumber 1 = .ok (.istore_n 1, 1) := by decide +kernel
theorem dX5_readNumber_2 : decode cX5_readNumber 2 = .ok (.iconst 0, 1) := by decide +kernel
theorem dX5_readNumber_3 : decode cX5_readNumber 3 = .ok (.istore_n 2, 1) := by decide +kernel
theorem dX5_readNumber_4 : decode cX5_readNumber 4 = .ok (.iload_n 2, 1) := by decide +kernel
theorem dX5_readNumber_5 : decode cX5_readNumber 5 = .ok (.iconst 4, 1) := by decide +kernel
theorem dX5_readNumber_6 : decode cX5_readNumber 6 = .ok (.if_icmp .ge 42, 3) := by decide +kernel
theorem dX5_readNumber_9 : decode cX5_readNumber 9 = .ok (.aload_n 0, 1) := by decide +kernel
theorem dX5_readNumber_10 : decode cX5_readNumber 10 = .ok (.invokevirtual 50, 3) := by decide +kernel
theorem dX5_readNumber_13 : decode cX5_readNumber 13 = .ok (.invokestatic 62, 3) := by decide +kernel
theorem dX5_readNumber_16 : decode cX5_readNumber 16 = .ok (.ifCond .eq 32, 3) := by decide +kernel
theorem dX5_readNumber_19 : decode cX5_readNumber 19 = .ok (.iload_n 1, 1) := by decide +kernel
theorem dX5_readNumber_20 : decode cX5_readNumber 20 = .ok (.bipush 10, 2) := by decide +kernel
theorem dX5_readNumber_22 : decode cX5_readNumber 22 = .ok (.imul, 1) := by decide +kernel
theorem dX5_readNumber_23 : decode cX5_readNumber 23 = .ok (.aload_n 0, 1) := by decide +kernel
theorem dX5_readNumber_24 : decode cX5_readNumber 24 = .ok (.invokevirtual 50, 3) := by decide +kernel
theorem dX5_readNumber_27 : decode cX5_readNumber 27 = .ok (.iadd, 1) := by decide +kernel
theorem dX5_readNumber_28 : decode cX5_readNumber 28 = .ok (.bipush 48, 2) := by decide +kernel
theorem dX5_readNumber_30 : decode cX5_readNumber 30 = .ok (.isub, 1) := by decide +kernel
theorem dX5_readNumber_31 : decode cX5_readNumber 31 = .ok (.istore_n 1, 1) := by decide +kernel
theorem dX5_readNumber_32 : decode cX5_readNumber 32 = .ok (.aload_n 0, 1) := by decide +kernel
theorem dX5_readNumber_33 : decode cX5_readNumber 33 = .ok (.dup, 1) := by decide +kernel
theorem dX5_readNumber_34 : decode cX5_readNumber 34 = .ok (.getfield 31, 3) := by decide +kernel
theorem dX5_readNumber_37 : decode cX5_readNumber 37 = .ok (.iconst 1, 1) := by decide +kernel
theorem dX5_readNumber_38 : decode cX5_readNumber 38 = .ok (.iadd, 1) := by decide +kernel
theorem dX5_readNumber_39 : decode cX5_readNumber 39 = .ok (.putfield 31, 3) := by decide +kernel
theorem dX5_readNumber_42 : decode cX5_readNumber 42 = .ok (.iinc 2 1, 3) := by decide +kernel
theorem dX5_readNumber_45 : decode cX5_readNumber 45 = .ok (.goto (-41), 3) := by decide +kernel
theorem dX5_readNumber_48 : decode cX5_readNumber 48 = .ok (.aload_n 0, 1) := by decide +kernel
theorem dX5_readNumber_49 : decode cX5_readNumber 49 = .ok (.iload_n 1, 1) := by decide +kernel
theorem dX5_readNumber_50 : decode cX5_readNumber 50 = .ok (.invokevirtual 58, 3) := by decide +kernel
theorem dX5_readNumber_53 : decode cX5_readNumber 53 = .ok (.return_, 1) := by decide +kernel
theorem dX5_next_0 : decode cX5_next 0 = .ok (.aload_n 0, 1) := by decide +kernel
theorem dX5_next_1 : decode cX5_next 1 = .ok (.getfield 31, 3) := by decide +kernel
theorem dX5_next_4 : decode cX5_next 4 = .ok (.aload_n 0, 1) := by decide +kernel
theorem dX5_next_5 : decode cX5_next 5 = .ok (.getfield 24, 3) := by decide +kernel
theorem dX5_next_8 : decode cX5_next 8 = .ok (.if_icmp .ge 15, 3) := by decide +kernel
theorem dX5_next_11 : decode cX5_next 11 = .ok (.aload_n 0, 1) := by decide +kernel
theorem dX5_next_12 : decode cX5_next 12 = .ok (.getfield 9, 3) := by decide +kernel
theorem dX5_next_15 : decode cX5_next 15 = .ok (.aload_n 0, 1) := by decide +kernel
theorem dX5_next_16 : decode cX5_next 16 = .ok (.getfield 31, 3) := by decide +kernel
theorem dX5_next_19 : decode cX5_next 19 = .ok (.iaload, 1) := by decide +kernel
theorem dX5_next_20 : decode cX5_next 20 = .ok (.goto 4, 3) := by decide +kernel
theorem dX5_next_23 : decode cX5_next 23 = .ok (.iconst (-1), 1) := by decide +kernel
theorem dX5_next_24 : decode cX5_next 24 = .ok (.ireturn, 1) := by decide +kernel
theorem dX5_write_0 : decode cX5_write 0 = .ok (.aload_n 0, 1) := by decide +kernel
theorem dX5_write_1 : decode cX5_write 1 = .ok (.getfield 34, 3) := by decide +kernel
theorem dX5_write_4 : decode cX5_write 4 = .ok (.aload_n 0, 1) := by decide +kernel
theorem dX5_write_5 : decode cX5_write 5 = .ok (.getfield 15, 3) := by decide +kernel
theorem dX5_write_8 : decode cX5_write 8 = .ok (.arraylength, 1) := by decide +kernel
theorem dX5_write_9 : decode cX5_write 9 = .ok (.if_icmp .ge 23, 3) := by decide +kernel
theorem dX5_write_12 : decode cX5_write 12 = .ok (.aload_n 0, 1) := by decide +kernel
theorem dX5_write_13 : decode cX5_write 13 = .ok (.getfield 15, 3) := by decide +kernel
theorem dX5_write_16 : decode cX5_write 16 = .ok (.aload_n 0, 1) := by decide +kernel
theorem dX5_write_17 : decode cX5_write 17 = .ok (.getfield 34, 3) := by decide +kernel
theorem dX5_write_20 : decode cX5_write 20 = .ok (.iload_n 1, 1) := by decide +kernel
theorem dX5_write_21 : decode cX5_write 21 = .ok (.iastore, 1) := by decide +kernel
theorem dX5_write_22 : decode cX5_write 22 = .ok (.aload_n 0, 1) := by decide +kernel
theorem dX5_write_23 : decode cX5_write 23 = .ok (.dup, 1) := by decide +kernel
theorem dX5_write_24 : decode cX5_write 24 = .ok (.getfield 34, 3) := by decide +kernel
theorem dX5_write_27 : decode cX5_write 27 = .ok (.iconst 1, 1) := by decide +kernel
theorem dX5_write_28 : decode cX5_write 28 = .ok (.iadd, 1) := by decide +kernel
theorem dX5_write_29 : decode cX5_write 29 = .ok (.putfield 34, 3) := by decide +kernel
theorem dX5_write_32 : decode cX5_write 32 = .ok (.return_, 1) := by decide +kernel
theorem dX5_isDigit_0 : decode cX5_isDigit 0 = .ok (.iload_n 0, 1) := by decide +kernel
theorem dX5_isDigit_1 : decode cX5_isDigit 1 = .ok (.bipush 48, 2) := by decide +kernel
theorem dX5_isDigit_3 : decode cX5_isDigit 3 = .ok (.bipush 57, 2) := by decide +kernel
theorem dX5_isDigit_5 : decode cX5_isDigit 5 = .ok (.invokestatic 77, 3) := by decide +kernel
theorem dX5_isDigit_8 : decode cX5_isDigit 8 = .ok (.ireturn, 1) := by decide +kernel
theorem dX5_nameOf_0 : decode cX5_nameOf 0 = .ok (.aload_n 0, 1) := by decide +kernel
theorem dX5_nameOf_1 : decode cX5_nameOf 1 = .ok (.getfield 28, 3) := by decide +kernel
theorem dX5_nameOf_4 : decode cX5_nameOf 4 = .ok (.ifCond .ne 8, 3) := by decide +kernel
theorem dX5_nameOf_7 : decode cX5_nameOf 7 = .ok (.ldc 81, 2) := by decide +kernel
theorem dX5_nameOf_9 : decode cX5_nameOf 9 = .ok (.goto 5, 3) := by decide +kernel
theorem dX5_nameOf_12 : decode cX5_nameOf 12 = .ok (.ldc 83, 2) := by decide +kernel
theorem dX5_nameOf_14 : decode cX5_nameOf 14 = .ok (.astore_n 2, 1) := by decide +kernel
theorem dX5_nameOf_15 : decode cX5_nameOf 15 = .ok (.iload_n 1, 1) := by decide +kernel
theorem dX5_nameOf_16 : decode cX5_nameOf 16 = .ok (.ifCond .ge 7, 3) := by decide +kernel
theorem dX5_nameOf_19 : decode cX5_nameOf 19 = .ok (.iconst (-1), 1) := by decide +kernel
theorem dX5_nameOf_20 : decode cX5_nameOf 20 = .ok (.goto 9, 3) := by decide +kernel
theorem dX5_nameOf_23 : decode cX5_nameOf 23 = .ok (.aload_n 2, 1) := by decide +kernel
theorem dX5_nameOf_24 : decode cX5_nameOf 24 = .ok (.iload_n 1, 1) := by decide +kernel
theorem dX5_nameOf_25 : decode cX5_nameOf 25 = .ok (.i2c, 1) := by decide +kernel
theorem dX5_nameOf_26 : decode cX5_nameOf 26 = .ok (.invokevirtual 85, 3) := by decide +kernel
theorem dX5_nameOf_29 : decode cX5_nameOf 29 = .ok (.ireturn, 1) := by decide +kernel
theorem dX5_levelOf_0 : decode cX5_levelOf 0 = .ok (.iload_n 0, 1) := by decide +kernel
theorem dX5_levelOf_1 : decode cX5_levelOf 1 = .ok (.lookupswitch 101 #[(37, 99), (38, 93), (42, 99), (43, 97), (45, 97), (47, 99), (60, 95), (61, 95), (62, 95), (124, 91)], 91) := by decide +kernel
theorem dX5_levelOf_92 : decode cX5_levelOf 92 = .ok (.iconst 0, 1) := by decide +kernel
theorem dX5_levelOf_93 : decode cX5_levelOf 93 = .ok (.ireturn, 1) := by decide +kernel
theorem dX5_levelOf_94 : decode cX5_levelOf 94 = .ok (.iconst 1, 1) := by decide +kernel
theorem dX5_levelOf_95 : decode cX5_levelOf 95 = .ok (.ireturn, 1) := by decide +kernel
theorem dX5_levelOf_96 : decode cX5_levelOf 96 = .ok (.iconst 2, 1) := by decide +kernel
theorem dX5_levelOf_97 : decode cX5_levelOf 97 = .ok (.ireturn, 1) := by decide +kernel
theorem dX5_levelOf_98 : decode cX5_levelOf 98 = .ok (.iconst 3, 1) := by decide +kernel
theorem dX5_levelOf_99 : decode cX5_levelOf 99 = .ok (.ireturn, 1) := by decide +kernel
theorem dX5_levelOf_100 : decode cX5_levelOf 100 = .ok (.iconst 4, 1) := by decide +kernel
theorem dX5_levelOf_101 : decode cX5_levelOf 101 = .ok (.ireturn, 1) := by decide +kernel
theorem dX5_levelOf_102 : decode cX5_levelOf 102 = .ok (.iconst (-1), 1) := by decide +kernel
theorem dX5_levelOf_103 : decode cX5_levelOf 103 = .ok (.ireturn, 1) := by decide +kernel
theorem dX6_init_0 : decode cX6_init 0 = .ok (.aload_n 0, 1) := by decide +kernel
theorem dX6_init_1 : decode cX6_init 1 = .ok (.invokespecial 3, 3) := by decide +kernel
theorem dX6_init_4 : decode cX6_init 4 = .ok (.aload_n 0, 1) := by decide +kernel
theorem dX6_init_5 : decode cX6_init 5 = .ok (.bipush 40, 2) := by decide +kernel
theorem dX6_init_7 : decode cX6_init 7 = .ok (.newarray .int, 2) := by decide +kernel
theorem dX6_init_9 : decode cX6_init 9 = .ok (.putfield 9, 3) := by decide +kernel
theorem dX6_init_12 : decode cX6_init 12 = .ok (.return_, 1) := by decide +kernel
theorem dX6_open_0 : decode cX6_open 0 = .ok (.aload_n 0, 1) := by decide +kernel
theorem dX6_open_1 : decode cX6_open 1 = .ok (.iload_n 1, 1) := by decide +kernel
theorem dX6_open_2 : decode cX6_open 2 = .ok (.putfield 15, 3) := by decide +kernel
theorem dX6_open_5 : decode cX6_open 5 = .ok (.aload_n 0, 1) := by decide +kernel
theorem dX6_open_6 : decode cX6_open 6 = .ok (.iload_n 2, 1) := by decide +kernel
theorem dX6_open_7 : decode cX6_open 7 = .ok (.putfield 19, 3) := by decide +kernel
theorem dX6_open_10 : decode cX6_open 10 = .ok (.aload_n 0, 1) := by decide +kernel
theorem dX6_open_11 : decode cX6_open 11 = .ok (.iconst 0, 1) := by decide +kernel
theorem dX6_open_12 : decode cX6_open 12 = .ok (.putfield 22, 3) := by decide +kernel
theorem dX6_open_15 : decode cX6_open 15 = .ok (.return_, 1) := by decide +kernel
theorem dX6_begin_0 : decode cX6_begin 0 = .ok (.aload_n 0, 1) := by decide +kernel
theorem dX6_begin_1 : decode cX6_begin 1 = .ok (.getfield 22, 3) := by decide +kernel
theorem dX6_begin_4 : decode cX6_begin 4 = .ok (.aload_n 0, 1) := by decide +kernel
theorem dX6_begin_5 : decode cX6_begin 5 = .ok (.getfield 9, 3) := by decide +kernel
theorem dX6_begin_8 : decode cX6_begin 8 = .ok (.arraylength, 1) := by decide +kernel
theorem dX6_begin_9 : decode cX6_begin 9 = .ok (.if_icmp .ge 23, 3) := by decide +kernel
theorem dX6_begin_12 : decode cX6_begin 12 = .ok (.aload_n 0, 1) := by decide +kernel
theorem dX6_begin_13 : decode cX6_begin 13 = .ok (.getfield 9, 3) := by decide +kernel
theorem dX6_begin_16 : decode cX6_begin 16 = .ok (.aload_n 0, 1) := by decide +kernel
theorem dX6_begin_17 : decode cX6_begin 17 = .ok (.getfield 22, 3) := by decide +kernel
theorem dX6_begin_20 : decode cX6_begin 20 = .ok (.iload_n 1, 1) := by decide +kernel
theorem dX6_begin_21 : decode cX6_begin 21 = .ok (.iastore, 1) := by decide +kernel
theorem dX6_begin_22 : decode cX6_begin 22 = .ok (.aload_n 0, 1) := by decide +kernel
theorem dX6_begin_23 : decode cX6_begin 23 = .ok (.dup, 1) := by decide +kernel
theorem dX6_begin_24 : decode cX6_begin 24 = .ok (.getfield 22, 3) := by decide +kernel
theorem dX6_begin_27 : decode cX6_begin 27 = .ok (.iconst 1, 1) := by decide +kernel
theorem dX6_begin_28 : decode cX6_begin 28 = .ok (.iadd, 1) := by decide +kernel
theorem dX6_begin_29 : decode cX6_begin 29 = .ok (.putfield 22, 3) := by decide +kernel
theorem dX6_begin_32 : decode cX6_begin 32 = .ok (.return_, 1) := by decide +kernel
theorem dX7_init_0 : decode cX7_init 0 = .ok (.aload_n 0, 1) := by decide +kernel
theorem dX7_init_1 : decode cX7_init 1 = .ok (.invokespecial 3, 3) := by decide +kernel
theorem dX7_init_4 : decode cX7_init 4 = .ok (.aload_n 0, 1) := by decide +kernel
theorem dX7_init_5 : decode cX7_init 5 = .ok (.bipush 12, 2) := by decide +kernel
theorem dX7_init_7 : decode cX7_init 7 = .ok (.newarray .int, 2) := by decide +kernel
theorem dX7_init_9 : decode cX7_init 9 = .ok (.putfield 9, 3) := by decide +kernel
theorem dX7_init_12 : decode cX7_init 12 = .ok (.aload_n 0, 1) := by decide +kernel
theorem dX7_init_13 : decode cX7_init 13 = .ok (.bipush 12, 2) := by decide +kernel
theorem dX7_init_15 : decode cX7_init 15 = .ok (.newarray .int, 2) := by decide +kernel
theorem dX7_init_17 : decode cX7_init 17 = .ok (.putfield 15, 3) := by decide +kernel
theorem dX7_init_20 : decode cX7_init 20 = .ok (.aload_n 0, 1) := by decide +kernel
theorem dX7_init_21 : decode cX7_init 21 = .ok (.bipush 12, 2) := by decide +kernel
theorem dX7_init_23 : decode cX7_init 23 = .ok (.newarray .int, 2) := by decide +kernel
theorem dX7_init_25 : decode cX7_init 25 = .ok (.putfield 18, 3) := by decide +kernel
theorem dX7_init_28 : decode cX7_init 28 = .ok (.aload_n 0, 1) := by decide +kernel
theorem dX7_init_29 : decode cX7_init 29 = .ok (.bipush 12, 2) := by decide +kernel
theorem dX7_init_31 : decode cX7_init 31 = .ok (.newarray .int, 2) := by decide +kernel
theorem dX7_init_33 : decode cX7_init 33 = .ok (.putfield 21, 3) := by decide +kernel
theorem dX7_init_36 : decode cX7_init 36 = .ok (.aload_n 0, 1) := by decide +kernel
theorem dX7_init_37 : decode cX7_init 37 = .ok (.bipush 11, 2) := by decide +kernel
theorem dX7_init_39 : decode cX7_init 39 = .ok (.putfield 24, 3) := by decide +kernel
theorem dX7_init_42 : decode cX7_init 42 = .ok (.aload_n 0, 1) := by decide +kernel
theorem dX7_init_43 : decode cX7_init 43 = .ok (.bipush 50, 2) := by decide +kernel
theorem dX7_init_45 : decode cX7_init 45 = .ok (.newarray .int, 2) := by decide +kernel
theorem dX7_init_47 : decode cX7_init 47 = .ok (.putfield 28, 3) := by decide +kernel
theorem dX7_init_50 : decode cX7_init 50 = .ok (.aload_n 0, 1) := by decide +kernel
theorem dX7_init_51 : decode cX7_init 51 = .ok (.bipush 20, 2) := by decide +kernel
theorem dX7_init_53 : decode cX7_init 53 = .ok (.newarray .int, 2) := by decide +kernel
theorem dX7_init_55 : decode cX7_init 55 = .ok (.putfield 31, 3) := by decide +kernel
theorem dX7_init_58 : decode cX7_init 58 = .ok (.aload_n 0, 1) := by decide +kernel
theorem dX7_init_59 : decode cX7_init 59 = .ok (.iconst 1, 1) := by decide +kernel
theorem dX7_init_60 : decode cX7_init 60 = .ok (.putfield 34, 3) := by decide +kernel
theorem dX7_init_63 : decode cX7_init 63 = .ok (.aload_n 0, 1) := by decide +kernel
theorem dX7_init_64 : decode cX7_init 64 = .ok (.aload_n 1, 1) := by decide +kernel
theorem dX7_init_65 : decode cX7_init 65 = .ok (.putfield 37, 3) := by decide +kernel
theorem dX7_init_68 : decode cX7_init 68 = .ok (.aload_n 0, 1) := by decide +kernel
theorem dX7_init_69 : decode cX7_init 69 = .ok (.aload_n 2, 1) := by decide +kernel
theorem dX7_init_70 : decode cX7_init 70 = .ok (.putfield 41, 3) := by decide +kernel
theorem dX7_init_73 : decode cX7_init 73 = .ok (.aload_n 0, 1) := by decide +kernel
theorem dX7_init_74 : decode cX7_init 74 = .ok (.aload_n 3, 1) := by decide +kernel
theorem dX7_init_75 : decode cX7_init 75 = .ok (.putfield 45, 3) := by decide +kernel
theorem dX7_init_78 : decode cX7_init 78 = .ok (.return_, 1) := by decide +kernel
theorem dX7_thinkOf_0 : decode cX7_thinkOf 0 = .ok (.aload_n 1, 1) := by decide +kernel
theorem dX7_thinkOf_1 : decode cX7_thinkOf 1 = .ok (.getfield 9, 3) := by decide +kernel
theorem dX7_thinkOf_4 : decode cX7_thinkOf 4 = .ok (.iconst 0, 1) := by decide +kernel
theorem dX7_thinkOf_5 : decode cX7_thinkOf 5 = .ok (.aload_n 0, 1) := by decide +kernel
theorem dX7_thinkOf_6 : decode cX7_thinkOf 6 = .ok (.getfield 9, 3) := by decide +kernel
theorem dX7_thinkOf_9 : decode cX7_thinkOf 9 = .ok (.iconst 0, 1) := by decide +kernel
theorem dX7_thinkOf_10 : decode cX7_thinkOf 10 = .ok (.bipush 12, 2) := by decide +kernel
theorem dX7_thinkOf_12 : decode cX7_thinkOf 12 = .ok (.invokestatic 48, 3) := by decide +kernel
theorem dX7_thinkOf_15 : decode cX7_thinkOf 15 = .ok (.aload_n 1, 1) := by decide +kernel
theorem dX7_thinkOf_16 : decode cX7_thinkOf 16 = .ok (.getfield 15, 3) := by decide +kernel
theorem dX7_thinkOf_19 : decode cX7_thinkOf 19 = .ok (.iconst 0, 1) := by decide +kernel
theorem dX7_thinkOf_20 : decode cX7_thinkOf 20 = .ok (.aload_n 0, 1) := by decide +kernel
theorem dX7_thinkOf_21 : decode cX7_thinkOf 21 = .ok (.getfield 15, 3) := by decide +kernel
theorem dX7_thinkOf_24 : decode cX7_thinkOf 24 = .ok (.iconst 0, 1) := by decide +kernel
theorem dX7_thinkOf_25 : decode cX7_thinkOf 25 = .ok (.bipush 12, 2) := by decide +kernel
theorem dX7_thinkOf_27 : decode cX7_thinkOf 27 = .ok (.invokestatic 48, 3) := by decide +kernel
theorem dX7_thinkOf_30 : decode cX7_thinkOf 30 = .ok (.aload_n 1, 1) := by decide +kernel
theorem dX7_thinkOf_31 : decode cX7_thinkOf 31 = .ok (.getfield 18, 3) := by decide +kernel
theorem dX7_thinkOf_34 : decode cX7_thinkOf 34 = .ok (.iconst 0, 1) := by decide +kernel
theorem dX7_thinkOf_35 : decode cX7_thinkOf 35 = .ok (.aload_n 0, 1) := by decide +kernel
theorem dX7_thinkOf_36 : decode cX7_thinkOf 36 = .ok (.getfield 18, 3) := by decide +kernel
theorem dX7_thinkOf_39 : decode cX7_thinkOf 39 = .ok (.iconst 0, 1) := by decide +kernel
theorem dX7_thinkOf_40 : decode cX7_thinkOf 40 = .ok (.bipush 12, 2) := by decide +kernel
theorem dX7_thinkOf_42 : decode cX7_thinkOf 42 = .ok (.invokestatic 48, 3) := by decide +kernel
theorem dX7_thinkOf_45 : decode cX7_thinkOf 45 = .ok (.aload_n 1, 1) := by decide +kernel
theorem dX7_thinkOf_46 : decode cX7_thinkOf 46 = .ok (.getfield 21, 3) := by decide +kernel
theorem dX7_thinkOf_49 : decode cX7_thinkOf 49 = .ok (.iconst 0, 1) := by decide +kernel
theorem dX7_thinkOf_50 : decode cX7_thinkOf 50 = .ok (.aload_n 0, 1) := by decide +kernel
theorem dX7_thinkOf_51 : decode cX7_thinkOf 51 = .ok (.getfield 21, 3) := by decide +kernel
theorem dX7_thinkOf_54 : decode cX7_thinkOf 54 = .ok (.iconst 0, 1) := by decide +kernel
theorem dX7_thinkOf_55 : decode cX7_thinkOf 55 = .ok (.bipush 12, 2) := by decide +kernel
theorem dX7_thinkOf_57 : decode cX7_thinkOf 57 = .ok (.invokestatic 48, 3) := by decide +kernel
theorem dX7_thinkOf_60 : decode cX7_thinkOf 60 = .ok (.aload_n 0, 1) := by decide +kernel
theorem dX7_thinkOf_61 : decode cX7_thinkOf 61 = .ok (.aload_n 1, 1) := by decide +kernel
theorem dX7_thinkOf_62 : decode cX7_thinkOf 62 = .ok (.getfield 54, 3) := by decide +kernel
theorem dX7_thinkOf_65 : decode cX7_thinkOf 65 = .ok (.putfield 54, 3) := by decide +kernel
theorem dX7_thinkOf_68 : decode cX7_thinkOf 68 = .ok (.aload_n 0, 1) := by decide +kernel
theorem dX7_thinkOf_69 : decode cX7_thinkOf 69 = .ok (.aload_n 1, 1) := by decide +kernel
theorem dX7_thinkOf_70 : decode cX7_thinkOf 70 = .ok (.getfield 57, 3) := by decide +kernel
theorem dX7_thinkOf_73 : decode cX7_thinkOf 73 = .ok (.putfield 57, 3) := by decide +kernel
theorem dX7_thinkOf_76 : decode cX7_thinkOf 76 = .ok (.aload_n 0, 1) := by decide +kernel
theorem dX7_thinkOf_77 : decode cX7_thinkOf 77 = .ok (.aload_n 1, 1) := by decide +kernel
theorem dX7_thinkOf_78 : decode cX7_thinkOf 78 = .ok (.getfield 60, 3) := by decide +kernel
theorem dX7_thinkOf_81 : decode cX7_thinkOf 81 = .ok (.putfield 60, 3) := by decide +kernel
theorem dX7_thinkOf_84 : decode cX7_thinkOf 84 = .ok (.aload_n 0, 1) := by decide +kernel
theorem dX7_thinkOf_85 : decode cX7_thinkOf 85 = .ok (.aload_n 1, 1) := by decide +kernel
theorem dX7_thinkOf_86 : decode cX7_thinkOf 86 = .ok (.getfield 63, 3) := by decide +kernel
theorem dX7_thinkOf_89 : decode cX7_thinkOf 89 = .ok (.putfield 63, 3) := by decide +kernel
theorem dX7_thinkOf_92 : decode cX7_thinkOf 92 = .ok (.aload_n 0, 1) := by decide +kernel
theorem dX7_thinkOf_93 : decode cX7_thinkOf 93 = .ok (.aload_n 1, 1) := by decide +kernel
theorem dX7_thinkOf_94 : decode cX7_thinkOf 94 = .ok (.getfield 24, 3) := by decide +kernel
theorem dX7_thinkOf_97 : decode cX7_thinkOf 97 = .ok (.putfield 24, 3) := by decide +kernel
theorem dX7_thinkOf_100 : decode cX7_thinkOf 100 = .ok (.aload_n 0, 1) := by decide +kernel
theorem dX7_thinkOf_101 : decode cX7_thinkOf 101 = .ok (.aload_n 1, 1) := by decide +kernel
theorem dX7_thinkOf_102 : decode cX7_thinkOf 102 = .ok (.getfield 66, 3) := by decide +kernel
theorem dX7_thinkOf_105 : decode cX7_thinkOf 105 = .ok (.putfield 66, 3) := by decide +kernel
theorem dX7_thinkOf_108 : decode cX7_thinkOf 108 = .ok (.aload_n 0, 1) := by decide +kernel
theorem dX7_thinkOf_109 : decode cX7_thinkOf 109 = .ok (.aload_n 1, 1) := by decide +kernel
theorem dX7_thinkOf_110 : decode cX7_thinkOf 110 = .ok (.getfield 41, 3) := by decide +kernel
theorem dX7_thinkOf_113 : decode cX7_thinkOf 113 = .ok (.putfield 41, 3) := by decide +kernel
theorem dX7_thinkOf_116 : decode cX7_thinkOf 116 = .ok (.aload_n 0, 1) := by decide +kernel
theorem dX7_thinkOf_117 : decode cX7_thinkOf 117 = .ok (.aload_n 1, 1) := by decide +kernel
theorem dX7_thinkOf_118 : decode cX7_thinkOf 118 = .ok (.getfield 45, 3) := by decide +kernel
theorem dX7_thinkOf_121 : decode cX7_thinkOf 121 = .ok (.putfield 45, 3) := by decide +kernel
theorem dX7_thinkOf_124 : decode cX7_thinkOf 124 = .ok (.return_, 1) := by decide +kernel
theorem dX7_keepAllOf_0 : decode cX7_keepAllOf 0 = .ok (.aload_n 0, 1) := by decide +kernel
theorem dX7_keepAllOf_1 : decode cX7_keepAllOf 1 = .ok (.aload_n 1, 1) := by decide +kernel
theorem dX7_keepAllOf_2 : decode cX7_keepAllOf 2 = .ok (.invokevirtual 69, 3) := by decide +kernel
theorem dX7_keepAllOf_5 : decode cX7_keepAllOf 5 = .ok (.aload_n 1, 1) := by decide +kernel
theorem dX7_keepAllOf_6 : decode cX7_keepAllOf 6 = .ok (.getfield 28, 3) := by decide +kernel
theorem dX7_keepAllOf_9 : decode cX7_keepAllOf 9 = .ok (.iconst 0, 1) := by decide +kernel
theorem dX7_keepAllOf_10 : decode cX7_keepAllOf 10 = .ok (.aload_n 0, 1) := by decide +kernel
theorem dX7_keepAllOf_11 : decode cX7_keepAllOf 11 = .ok (.getfield 28, 3) := by decide +kernel
theorem dX7_keepAllOf_14 : decode cX7_keepAllOf 14 = .ok (.iconst 0, 1) := by decide +kernel
theorem dX7_keepAllOf_15 : decode cX7_keepAllOf 15 = .ok (.bipush 50, 2) := by decide +kernel
theorem dX7_keepAllOf_17 : decode cX7_keepAllOf 17 = .ok (.invokestatic 48, 3) := by decide +kernel
theorem dX7_keepAllOf_20 : decode cX7_keepAllOf 20 = .ok (.aload_n 0, 1) := by decide +kernel
theorem dX7_keepAllOf_21 : decode cX7_keepAllOf 21 = .ok (.aload_n 1, 1) := by decide +kernel
theorem dX7_keepAllOf_22 : decode cX7_keepAllOf 22 = .ok (.getfield 73, 3) := by decide +kernel
theorem dX7_keepAllOf_25 : decode cX7_keepAllOf 25 = .ok (.putfield 73, 3) := by decide +kernel
theorem dX7_keepAllOf_28 : decode cX7_keepAllOf 28 = .ok (.aload_n 1, 1) := by decide +kernel
theorem dX7_keepAllOf_29 : decode cX7_keepAllOf 29 = .ok (.getfield 31, 3) := by decide +kernel
theorem dX7_keepAllOf_32 : decode cX7_keepAllOf 32 = .ok (.iconst 0, 1) := by decide +kernel
theorem dX7_keepAllOf_33 : decode cX7_keepAllOf 33 = .ok (.aload_n 0, 1) := by decide +kernel
theorem dX7_keepAllOf_34 : decode cX7_keepAllOf 34 = .ok (.getfield 31, 3) := by decide +kernel
theorem dX7_keepAllOf_37 : decode cX7_keepAllOf 37 = .ok (.iconst 0, 1) := by decide +kernel
theorem dX7_keepAllOf_38 : decode cX7_keepAllOf 38 = .ok (.bipush 20, 2) := by decide +kernel
theorem dX7_keepAllOf_40 : decode cX7_keepAllOf 40 = .ok (.invokestatic 48, 3) := by decide +kernel
theorem dX7_keepAllOf_43 : decode cX7_keepAllOf 43 = .ok (.aload_n 0, 1) := by decide +kernel
theorem dX7_keepAllOf_44 : decode cX7_keepAllOf 44 = .ok (.aload_n 1, 1) := by decide +kernel
theorem dX7_keepAllOf_45 : decode cX7_keepAllOf 45 = .ok (.getfield 76, 3) := by decide +kernel
theorem dX7_keepAllOf_48 : decode cX7_keepAllOf 48 = .ok (.putfield 76, 3) := by decide +kernel
theorem dX7_keepAllOf_51 : decode cX7_keepAllOf 51 = .ok (.aload_n 0, 1) := by decide +kernel
theorem dX7_keepAllOf_52 : decode cX7_keepAllOf 52 = .ok (.aload_n 1, 1) := by decide +kernel
theorem dX7_keepAllOf_53 : decode cX7_keepAllOf 53 = .ok (.getfield 34, 3) := by decide +kernel
theorem dX7_keepAllOf_56 : decode cX7_keepAllOf 56 = .ok (.putfield 34, 3) := by decide +kernel
theorem dX7_keepAllOf_59 : decode cX7_keepAllOf 59 = .ok (.return_, 1) := by decide +kernel
theorem dX7_has_0 : decode cX7_has 0 = .ok (.iload_n 1, 1) := by decide +kernel
theorem dX7_has_1 : decode cX7_has 1 = .ok (.iconst 0, 1) := by decide +kernel
theorem dX7_has_2 : decode cX7_has 2 = .ok (.aload_n 0, 1) := by decide +kernel
theorem dX7_has_3 : decode cX7_has 3 = .ok (.getfield 54, 3) := by decide +kernel
theorem dX7_has_6 : decode cX7_has 6 = .ok (.iconst 1, 1) := by decide +kernel
theorem dX7_has_7 : decode cX7_has 7 = .ok (.isub, 1) := by decide +kernel
theorem dX7_has_8 : decode cX7_has 8 = .ok (.invokestatic 79, 3) := by decide +kernel
theorem dX7_has_11 : decode cX7_has 11 = .ok (.ireturn, 1) := by decide +kernel
theorem dX7_shape_0 : decode cX7_shape 0 = .ok (.aload_n 0, 1) := by decide +kernel
theorem dX7_shape_1 : decode cX7_shape 1 = .ok (.getfield 9, 3) := by decide +kernel
theorem dX7_shape_4 : decode cX7_shape 4 = .ok (.iload_n 1, 1) := by decide +kernel
theorem dX7_shape_5 : decode cX7_shape 5 = .ok (.iload_n 2, 1) := by decide +kernel
theorem dX7_shape_6 : decode cX7_shape 6 = .ok (.bipush 10, 2) := by decide +kernel
theorem dX7_shape_8 : decode cX7_shape 8 = .ok (.idiv, 1) := by decide +kernel
theorem dX7_shape_9 : decode cX7_shape 9 = .ok (.iastore, 1) := by decide +kernel
theorem dX7_shape_10 : decode cX7_shape 10 = .ok (.aload_n 0, 1) := by decide +kernel
theorem dX7_shape_11 : decode cX7_shape 11 = .ok (.getfield 15, 3) := by decide +kernel
theorem dX7_shape_14 : decode cX7_shape 14 = .ok (.iload_n 1, 1) := by decide +kernel
theorem dX7_shape_15 : decode cX7_shape 15 = .ok (.iload_n 2, 1) := by decide +kernel
theorem dX7_shape_16 : decode cX7_shape 16 = .ok (.bipush 10, 2) := by decide +kernel
theorem dX7_shape_18 : decode cX7_shape 18 = .ok (.irem, 1) := by decide +kernel
theorem dX7_shape_19 : decode cX7_shape 19 = .ok (.iastore, 1) := by decide +kernel
theorem dX7_shape_20 : decode cX7_shape 20 = .ok (.return_, 1) := by decide +kernel
theorem dX7_kindOf_0 : decode cX7_kindOf 0 = .ok (.aload_n 0, 1) := by decide +kernel
theorem dX7_kindOf_1 : decode cX7_kindOf 1 = .ok (.getfield 37, 3) := by decide +kernel
theorem dX7_kindOf_4 : decode cX7_kindOf 4 = .ok (.aload_n 0, 1) := by decide +kernel
theorem dX7_kindOf_5 : decode cX7_kindOf 5 = .ok (.getfield 9, 3) := by decide +kernel
theorem dX7_kindOf_8 : decode cX7_kindOf 8 = .ok (.iload_n 1, 1) := by decide +kernel
theorem dX7_kindOf_9 : decode cX7_kindOf 9 = .ok (.iaload, 1) := by decide +kernel
theorem dX7_kindOf_10 : decode cX7_kindOf 10 = .ok (.aaload, 1) := by decide +kernel
theorem dX7_kindOf_11 : decode cX7_kindOf 11 = .ok (.areturn, 1) := by decide +kernel
theorem dX7_carOf_0 : decode cX7_carOf 0 = .ok (.aload_n 0, 1) := by decide +kernel
theorem dX7_carOf_1 : decode cX7_carOf 1 = .ok (.getfield 57, 3) := by decide +kernel
theorem dX7_carOf_4 : decode cX7_carOf 4 = .ok (.iload_n 1, 1) := by decide +kernel
theorem dX7_carOf_5 : decode cX7_carOf 5 = .ok (.ishr, 1) := by decide +kernel
theorem dX7_carOf_6 : decode cX7_carOf 6 = .ok (.iconst 1, 1) := by decide +kernel
theorem dX7_carOf_7 : decode cX7_carOf 7 = .ok (.iand, 1) := by decide +kernel
theorem dX7_carOf_8 : decode cX7_carOf 8 = .ok (.ireturn, 1) := by decide +kernel
theorem dX7_park_0 : decode cX7_park 0 = .ok (.aload_n 0, 1) := by decide +kernel
theorem dX7_park_1 : decode cX7_park 1 = .ok (.iload_n 2, 1) := by decide +kernel
theorem dX7_park_2 : decode cX7_park 2 = .ok (.ifCond .eq 14, 3) := by decide +kernel
theorem dX7_park_5 : decode cX7_park 5 = .ok (.aload_n 0, 1) := by decide +kernel
theorem dX7_park_6 : decode cX7_park 6 = .ok (.getfield 57, 3) := by decide +kernel
theorem dX7_park_9 : decode cX7_park 9 = .ok (.iconst 1, 1) := by decide +kernel
theorem dX7_park_10 : decode cX7_park 10 = .ok (.iload_n 1, 1) := by decide +kernel
theorem dX7_park_11 : decode cX7_park 11 = .ok (.ishl, 1) := by decide +kernel
theorem dX7_park_12 : decode cX7_park 12 = .ok (.ior, 1) := by decide +kernel
theorem dX7_park_13 : decode cX7_park 13 = .ok (.goto 13, 3) := by decide +kernel
theorem dX7_park_16 : decode cX7_park 16 = .ok (.aload_n 0, 1) := by decide +kernel
theorem dX7_park_17 : decode cX7_park 17 = .ok (.getfield 57, 3) := by decide +kernel
theorem dX7_park_20 : decode cX7_park 20 = .ok (.iconst 1, 1) := by decide +kernel
theorem dX7_park_21 : decode cX7_park 21 = .ok (.iload_n 1, 1) := by decide +kernel
theorem dX7_park_22 : decode cX7_park 22 = .ok (.ishl, 1) := by decide +kernel
theorem dX7_park_23 : decode cX7_park 23 = .ok (.iconst (-1), 1) := by decide +kernel
theorem dX7_park_24 : decode cX7_park 24 = .ok (.ixor, 1) := by decide +kernel
theorem dX7_park_25 : decode cX7_park 25 = .ok (.iand, 1) := by decide +kernel
theorem dX7_park_26 : decode cX7_park 26 = .ok (.putfield 57, 3) := by decide +kernel
theorem dX7_park_29 : decode cX7_park 29 = .ok (.return_, 1) := by decide +kernel
theorem dX7_fallsNow_0 : decode cX7_fallsNow 0 = .ok (.aload_n 0, 1) := by decide +kernel
theorem dX7_fallsNow_1 : decode cX7_fallsNow 1 = .ok (.getfield 41, 3) := by decide +kernel
theorem dX7_fallsNow_4 : decode cX7_fallsNow 4 = .ok (.iload_n 1, 1) := by decide +kernel
theorem dX7_fallsNow_5 : decode cX7_fallsNow 5 = .ok (.aload_n 0, 1) := by decide +kernel
theorem dX7_fallsNow_6 : decode cX7_fallsNow 6 = .ok (.getfield 60, 3) := by decide +kernel
theorem dX7_fallsNow_9 : decode cX7_fallsNow 9 = .ok (.bipush 30, 2) := by decide +kernel
theorem dX7_fallsNow_11 : decode cX7_fallsNow 11 = .ok (.irem, 1) := by decide +kernel
theorem dX7_fallsNow_12 : decode cX7_fallsNow 12 = .ok (.aload_n 0, 1) := by decide +kernel
theorem dX7_fallsNow_13 : decode cX7_fallsNow 13 = .ok (.getfield 18, 3) := by decide +kernel
theorem dX7_fallsNow_16 : decode cX7_fallsNow 16 = .ok (.iload_n 1, 1) := by decide +kernel
theorem dX7_fallsNow_17 : decode cX7_fallsNow 17 = .ok (.iaload, 1) := by decide +kernel
theorem dX7_fallsNow_18 : decode cX7_fallsNow 18 = .ok (.invokevirtual 83, 3) := by decide +kernel
theorem dX7_fallsNow_21 : decode cX7_fallsNow 21 = .ok (.istore_n 2, 1) := by decide +kernel
theorem dX7_fallsNow_22 : decode cX7_fallsNow 22 = .ok (.iconst 0, 1) := by decide +kernel
theorem dX7_fallsNow_23 : decode cX7_fallsNow 23 = .ok (.aload_n 0, 1) := by decide +kernel
theorem dX7_fallsNow_24 : decode cX7_fallsNow 24 = .ok (.iload_n 1, 1) := by decide +kernel
theorem dX7_fallsNow_25 : decode cX7_fallsNow 25 = .ok (.invokevirtual 89, 3) := by decide +kernel
theorem dX7_fallsNow_28 : decode cX7_fallsNow 28 = .ok (.iload_n 2, 1) := by decide +kernel
theorem dX7_fallsNow_29 : decode cX7_fallsNow 29 = .ok (.aload_n 0, 1) := by decide +kernel
theorem dX7_fallsNow_30 : decode cX7_fallsNow 30 = .ok (.getfield 15, 3) := by decide +kernel
theorem dX7_fallsNow_33 : decode cX7_fallsNow 33 = .ok (.iload_n 1, 1) := by decide +kernel
theorem dX7_fallsNow_34 : decode cX7_fallsNow 34 = .ok (.iaload, 1) := by decide +kernel
theorem dX7_fallsNow_35 : decode cX7_fallsNow 35 = .ok (.aload_n 0, 1) := by decide +kernel
theorem dX7_fallsNow_36 : decode cX7_fallsNow 36 = .ok (.iload_n 1, 1) := by decide +kernel
theorem dX7_fallsNow_37 : decode cX7_fallsNow 37 = .ok (.invokevirtual 93, 3) := by decide +kernel
theorem dX7_fallsNow_40 : decode cX7_fallsNow 40 = .ok (.aload_n 0, 1) := by decide +kernel
theorem dX7_fallsNow_41 : decode cX7_fallsNow 41 = .ok (.getfield 60, 3) := by decide +kernel
theorem dX7_fallsNow_44 : decode cX7_fallsNow 44 = .ok (.aload_n 0, 1) := by decide +kernel
theorem dX7_fallsNow_45 : decode cX7_fallsNow 45 = .ok (.getfield 63, 3) := by decide +kernel
theorem dX7_fallsNow_48 : decode cX7_fallsNow 48 = .ok (.invokevirtual 97, 3) := by decide +kernel
theorem dX7_fallsNow_51 : decode cX7_fallsNow 51 = .ok (.invokestatic 103, 3) := by decide +kernel
theorem dX7_fallsNow_54 : decode cX7_fallsNow 54 = .ok (.ireturn, 1) := by decide +kernel
theorem dX7_takesNow_0 : decode cX7_takesNow 0 = .ok (.aload_n 0, 1) := by decide +kernel
theorem dX7_takesNow_1 : decode cX7_takesNow 1 = .ok (.iload_n 1, 1) := by decide +kernel
theorem dX7_takesNow_2 : decode cX7_takesNow 2 = .ok (.invokevirtual 89, 3) := by decide +kernel
theorem dX7_takesNow_5 : decode cX7_takesNow 5 = .ok (.aload_n 0, 1) := by decide +kernel
theorem dX7_takesNow_6 : decode cX7_takesNow 6 = .ok (.getfield 18, 3) := by decide +kernel
theorem dX7_takesNow_9 : decode cX7_takesNow 9 = .ok (.iload_n 1, 1) := by decide +kernel
theorem dX7_takesNow_10 : decode cX7_takesNow 10 = .ok (.iaload, 1) := by decide +kernel
theorem dX7_takesNow_11 : decode cX7_takesNow 11 = .ok (.invokevirtual 109, 3) := by decide +kernel
theorem dX7_takesNow_14 : decode cX7_takesNow 14 = .ok (.ireturn, 1) := by decide +kernel
theorem dX7_signOf_0 : decode cX7_signOf 0 = .ok (.aload_n 0, 1) := by decide +kernel
theorem dX7_signOf_1 : decode cX7_signOf 1 = .ok (.getfield 45, 3) := by decide +kernel
theorem dX7_signOf_4 : decode cX7_signOf 4 = .ok (.iload_n 1, 1) := by decide +kernel
theorem dX7_signOf_5 : decode cX7_signOf 5 = .ok (.iload_n 2, 1) := by decide +kernel
theorem dX7_signOf_6 : decode cX7_signOf 6 = .ok (.bipush 7, 2) := by decide +kernel
theorem dX7_signOf_8 : decode cX7_signOf 8 = .ok (.irem, 1) := by decide +kernel
theorem dX7_signOf_9 : decode cX7_signOf 9 = .ok (.iload_n 2, 1) := by decide +kernel
theorem dX7_signOf_10 : decode cX7_signOf 10 = .ok (.bipush 30, 2) := by decide +kernel
theorem dX7_signOf_12 : decode cX7_signOf 12 = .ok (.irem, 1) := by decide +kernel
theorem dX7_signOf_13 : decode cX7_signOf 13 = .ok (.invokevirtual 83, 3) := by decide +kernel
theorem dX7_signOf_16 : decode cX7_signOf 16 = .ok (.ireturn, 1) := by decide +kernel
theorem dX7_signedNow_0 : decode cX7_signedNow 0 = .ok (.aload_n 0, 1) := by decide +kernel
theorem dX7_signedNow_1 : decode cX7_signedNow 1 = .ok (.iconst 0, 1) := by decide +kernel
theorem dX7_signedNow_2 : decode cX7_signedNow 2 = .ok (.aload_n 0, 1) := by decide +kernel
theorem dX7_signedNow_3 : decode cX7_signedNow 3 = .ok (.getfield 60, 3) := by decide +kernel
theorem dX7_signedNow_6 : decode cX7_signedNow 6 = .ok (.invokevirtual 112, 3) := by decide +kernel
theorem dX7_signedNow_9 : decode cX7_signedNow 9 = .ok (.aload_n 0, 1) := by decide +kernel
theorem dX7_signedNow_10 : decode cX7_signedNow 10 = .ok (.iconst 1, 1) := by decide +kernel
theorem dX7_signedNow_11 : decode cX7_signedNow 11 = .ok (.aload_n 0, 1) := by decide +kernel
theorem dX7_signedNow_12 : decode cX7_signedNow 12 = .ok (.getfield 60, 3) := by decide +kernel
theorem dX7_signedNow_15 : decode cX7_signedNow 15 = .ok (.invokevirtual 112, 3) := by decide +kernel
theorem dX7_signedNow_18 : decode cX7_signedNow 18 = .ok (.iconst 1, 1) := by decide +kernel
theorem dX7_signedNow_19 : decode cX7_signedNow 19 = .ok (.ishl, 1) := by decide +kernel
theorem dX7_signedNow_20 : decode cX7_signedNow 20 = .ok (.ior, 1) := by decide +kernel
theorem dX7_signedNow_21 : decode cX7_signedNow 21 = .ok (.ireturn, 1) := by decide +kernel
theorem dX7_dirtOfAll_0 : decode cX7_dirtOfAll 0 = .ok (.iconst 0, 1) := by decide +kernel
theorem dX7_dirtOfAll_1 : decode cX7_dirtOfAll 1 = .ok (.istore_n 1, 1) := by decide +kernel
theorem dX7_dirtOfAll_2 : decode cX7_dirtOfAll 2 = .ok (.iconst 0, 1) := by decide +kernel
theorem dX7_dirtOfAll_3 : decode cX7_dirtOfAll 3 = .ok (.istore_n 2, 1) := by decide +kernel
theorem dX7_dirtOfAll_4 : decode cX7_dirtOfAll 4 = .ok (.iload_n 2, 1) := by decide +kernel
theorem dX7_dirtOfAll_5 : decode cX7_dirtOfAll 5 = .ok (.aload_n 0, 1) := by decide +kernel
theorem dX7_dirtOfAll_6 : decode cX7_dirtOfAll 6 = .ok (.getfield 54, 3) := by decide +kernel
theorem dX7_dirtOfAll_9 : decode cX7_dirtOfAll 9 = .ok (.if_icmp .ge 18, 3) := by decide +kernel
theorem dX7_dirtOfAll_12 : decode cX7_dirtOfAll 12 = .ok (.iload_n 1, 1) := by decide +kernel
theorem dX7_dirtOfAll_13 : decode cX7_dirtOfAll 13 = .ok (.aload_n 0, 1) := by decide +kernel
theorem dX7_dirtOfAll_14 : decode cX7_dirtOfAll 14 = .ok (.getfield 18, 3) := by decide +kernel
theorem dX7_dirtOfAll_17 : decode cX7_dirtOfAll 17 = .ok (.iload_n 2, 1) := by decide +kernel
theorem dX7_dirtOfAll_18 : decode cX7_dirtOfAll 18 = .ok (.iaload, 1) := by decide +kernel
theorem dX7_dirtOfAll_19 : decode cX7_dirtOfAll 19 = .ok (.iadd, 1) := by decide +kernel
theorem dX7_dirtOfAll_20 : decode cX7_dirtOfAll 20 = .ok (.istore_n 1, 1) := by decide +kernel
theorem dX7_dirtOfAll_21 : decode cX7_dirtOfAll 21 = .ok (.iinc 2 1, 3) := by decide +kernel
theorem dX7_dirtOfAll_24 : decode cX7_dirtOfAll 24 = .ok (.goto (-20), 3) := by decide +kernel
theorem dX7_dirtOfAll_27 : decode cX7_dirtOfAll 27 = .ok (.iload_n 1, 1) := by decide +kernel
theorem dX7_dirtOfAll_28 : decode cX7_dirtOfAll 28 = .ok (.ireturn, 1) := by decide +kernel
theorem dX7_greatestDirt_0 : decode cX7_greatestDirt 0 = .ok (.iconst 0, 1) := by decide +kernel
theorem dX7_greatestDirt_1 : decode cX7_greatestDirt 1 = .ok (.istore_n 1, 1) := by decide +kernel
theorem dX7_greatestDirt_2 : decode cX7_greatestDirt 2 = .ok (.iconst 0, 1) := by decide +kernel
theorem dX7_greatestDirt_3 : decode cX7_greatestDirt 3 = .ok (.istore_n 2, 1) := by decide +kernel
theorem dX7_greatestDirt_4 : decode cX7_greatestDirt 4 = .ok (.iload_n 2, 1) := by decide +kernel
theorem dX7_greatestDirt_5 : decode cX7_greatestDirt 5 = .ok (.aload_n 0, 1) := by decide +kernel
theorem dX7_greatestDirt_6 : decode cX7_greatestDirt 6 = .ok (.getfield 54, 3) := by decide +kernel
theorem dX7_greatestDirt_9 : decode cX7_greatestDirt 9 = .ok (.if_icmp .ge 20, 3) := by decide +kernel
theorem dX7_greatestDirt_12 : decode cX7_greatestDirt 12 = .ok (.iload_n 1, 1) := by decide +kernel
theorem dX7_greatestDirt_13 : decode cX7_greatestDirt 13 = .ok (.aload_n 0, 1) := by decide +kernel
theorem dX7_greatestDirt_14 : decode cX7_greatestDirt 14 = .ok (.getfield 18, 3) := by decide +kernel
theorem dX7_greatestDirt_17 : decode cX7_greatestDirt 17 = .ok (.iload_n 2, 1) := by decide +kernel
theorem dX7_greatestDirt_18 : decode cX7_greatestDirt 18 = .ok (.iaload, 1) := by decide +kernel
theorem dX7_greatestDirt_19 : decode cX7_greatestDirt 19 = .ok (.invokestatic 103, 3) := by decide +kernel
theorem dX7_greatestDirt_22 : decode cX7_greatestDirt 22 = .ok (.istore_n 1, 1) := by decide +kernel
theorem dX7_greatestDirt_23 : decode cX7_greatestDirt 23 = .ok (.iinc 2 1, 3) := by decide +kernel
theorem dX7_greatestDirt_26 : decode cX7_greatestDirt 26 = .ok (.goto (-22), 3) := by decide +kernel
theorem dX7_greatestDirt_29 : decode cX7_greatestDirt 29 = .ok (.iload_n 1, 1) := by decide +kernel
theorem dX7_greatestDirt_30 : decode cX7_greatestDirt 30 = .ok (.ireturn, 1) := by decide +kernel
theorem dX7_firstWith_0 : decode cX7_firstWith 0 = .ok (.iconst 0, 1) := by decide +kernel
theorem dX7_firstWith_1 : decode cX7_firstWith 1 = .ok (.istore_n 2, 1) := by decide +kernel
theorem dX7_firstWith_2 : decode cX7_firstWith 2 = .ok (.iload_n 2, 1) := by decide +kernel
theorem dX7_firstWith_3 : decode cX7_firstWith 3 = .ok (.aload_n 0, 1) := by decide +kernel
theorem dX7_firstWith_4 : decode cX7_firstWith 4 = .ok (.getfield 54, 3) := by decide +kernel
theorem dX7_firstWith_7 : decode cX7_firstWith 7 = .ok (.if_icmp .ge 21, 3) := by decide +kernel
theorem dX7_firstWith_10 : decode cX7_firstWith 10 = .ok (.aload_n 0, 1) := by decide +kernel
theorem dX7_firstWith_11 : decode cX7_firstWith 11 = .ok (.getfield 18, 3) := by decide +kernel
theorem dX7_firstWith_14 : decode cX7_firstWith 14 = .ok (.iload_n 2, 1) := by decide +kernel
theorem dX7_firstWith_15 : decode cX7_firstWith 15 = .ok (.iaload, 1) := by decide +kernel
theorem dX7_firstWith_16 : decode cX7_firstWith 16 = .ok (.iload_n 1, 1) := by decide +kernel
theorem dX7_firstWith_17 : decode cX7_firstWith 17 = .ok (.if_icmp .lt 5, 3) := by decide +kernel
theorem dX7_firstWith_20 : decode cX7_firstWith 20 = .ok (.iload_n 2, 1) := by decide +kernel
theorem dX7_firstWith_21 : decode cX7_firstWith 21 = .ok (.ireturn, 1) := by decide +kernel
theorem dX7_firstWith_22 : decode cX7_firstWith 22 = .ok (.iinc 2 1, 3) := by decide +kernel
theorem dX7_firstWith_25 : decode cX7_firstWith 25 = .ok (.goto (-23), 3) := by decide +kernel
theorem dX7_firstWith_28 : decode cX7_firstWith 28 = .ok (.iconst (-1), 1) := by decide +kernel
theorem dX7_firstWith_29 : decode cX7_firstWith 29 = .ok (.ireturn, 1) := by decide +kernel
theorem dX7_passAll_0 : decode cX7_passAll 0 = .ok (.iconst 0, 1) := by decide +kernel
theorem dX7_passAll_1 : decode cX7_passAll 1 = .ok (.istore_n 2, 1) := by decide +kernel
theorem dX7_passAll_2 : decode cX7_passAll 2 = .ok (.iload_n 2, 1) := by decide +kernel
theorem dX7_passAll_3 : decode cX7_passAll 3 = .ok (.iload_n 1, 1) := by decide +kernel
theorem dX7_passAll_4 : decode cX7_passAll 4 = .ok (.if_icmp .ge 22, 3) := by decide +kernel
theorem dX7_passAll_7 : decode cX7_passAll 7 = .ok (.aload_n 0, 1) := by decide +kernel
theorem dX7_passAll_8 : decode cX7_passAll 8 = .ok (.iconst 0, 1) := by decide +kernel
theorem dX7_passAll_9 : decode cX7_passAll 9 = .ok (.aload_n 0, 1) := by decide +kernel
theorem dX7_passAll_10 : decode cX7_passAll 10 = .ok (.getfield 54, 3) := by decide +kernel
theorem dX7_passAll_13 : decode cX7_passAll 13 = .ok (.aload_n 0, 1) := by decide +kernel
theorem dX7_passAll_14 : decode cX7_passAll 14 = .ok (.invokevirtual 115, 3) := by decide +kernel
theorem dX7_passAll_17 : decode cX7_passAll 17 = .ok (.invokevirtual 119, 3) := by decide +kernel
theorem dX7_passAll_20 : decode cX7_passAll 20 = .ok (.iinc 2 1, 3) := by decide +kernel
theorem dX7_passAll_23 : decode cX7_passAll 23 = .ok (.goto (-21), 3) := by decide +kernel
theorem dX7_passAll_26 : decode cX7_passAll 26 = .ok (.return_, 1) := by decide +kernel
theorem dX7_dirtBehind_0 : decode cX7_dirtBehind 0 = .ok (.iload_n 2, 1) := by decide +kernel
theorem dX7_dirtBehind_1 : decode cX7_dirtBehind 1 = .ok (.iload_n 2, 1) := by decide +kernel
theorem dX7_dirtBehind_2 : decode cX7_dirtBehind 2 = .ok (.iconst 2, 1) := by decide +kernel
theorem dX7_dirtBehind_3 : decode cX7_dirtBehind 3 = .ok (.irem, 1) := by decide +kernel
theorem dX7_dirtBehind_4 : decode cX7_dirtBehind 4 = .ok (.isub, 1) := by decide +kernel
theorem dX7_dirtBehind_5 : decode cX7_dirtBehind 5 = .ok (.istore_n 3, 1) := by decide +kernel
theorem dX7_dirtBehind_6 : decode cX7_dirtBehind 6 = .ok (.iload_n 3, 1) := by decide +kernel
theorem dX7_dirtBehind_7 : decode cX7_dirtBehind 7 = .ok (.iconst 2, 1) := by decide +kernel
theorem dX7_dirtBehind_8 : decode cX7_dirtBehind 8 = .ok (.iadd, 1) := by decide +kernel
theorem dX7_dirtBehind_9 : decode cX7_dirtBehind 9 = .ok (.aload_n 0, 1) := by decide +kernel
theorem dX7_dirtBehind_10 : decode cX7_dirtBehind 10 = .ok (.getfield 54, 3) := by decide +kernel
theorem dX7_dirtBehind_13 : decode cX7_dirtBehind 13 = .ok (.invokestatic 123, 3) := by decide +kernel
theorem dX7_dirtBehind_16 : decode cX7_dirtBehind 16 = .ok (.istore 4, 2) := by decide +kernel
theorem dX7_dirtBehind_18 : decode cX7_dirtBehind 18 = .ok (.iconst 0, 1) := by decide +kernel
theorem dX7_dirtBehind_19 : decode cX7_dirtBehind 19 = .ok (.istore 5, 2) := by decide +kernel
theorem dX7_dirtBehind_21 : decode cX7_dirtBehind 21 = .ok (.iload 5, 2) := by decide +kernel
theorem dX7_dirtBehind_23 : decode cX7_dirtBehind 23 = .ok (.iload_n 1, 1) := by decide +kernel
theorem dX7_dirtBehind_24 : decode cX7_dirtBehind 24 = .ok (.if_icmp .ge 20, 3) := by decide +kernel
theorem dX7_dirtBehind_27 : decode cX7_dirtBehind 27 = .ok (.aload_n 0, 1) := by decide +kernel
theorem dX7_dirtBehind_28 : decode cX7_dirtBehind 28 = .ok (.iload_n 3, 1) := by decide +kernel
theorem dX7_dirtBehind_29 : decode cX7_dirtBehind 29 = .ok (.iload 4, 2) := by decide +kernel
theorem dX7_dirtBehind_31 : decode cX7_dirtBehind 31 = .ok (.aload_n 0, 1) := by decide +kernel
theorem dX7_dirtBehind_32 : decode cX7_dirtBehind 32 = .ok (.invokevirtual 115, 3) := by decide +kernel
theorem dX7_dirtBehind_35 : decode cX7_dirtBehind 35 = .ok (.invokevirtual 119, 3) := by decide +kernel
theorem dX7_dirtBehind_38 : decode cX7_dirtBehind 38 = .ok (.iinc 5 1, 3) := by decide +kernel
theorem dX7_dirtBehind_41 : decode cX7_dirtBehind 41 = .ok (.goto (-20), 3) := by decide +kernel
theorem dX7_dirtBehind_44 : decode cX7_dirtBehind 44 = .ok (.aload_n 0, 1) := by decide +kernel
theorem dX7_dirtBehind_45 : decode cX7_dirtBehind 45 = .ok (.getfield 18, 3) := by decide +kernel
theorem dX7_dirtBehind_48 : decode cX7_dirtBehind 48 = .ok (.iload_n 2, 1) := by decide +kernel
theorem dX7_dirtBehind_49 : decode cX7_dirtBehind 49 = .ok (.iaload, 1) := by decide +kernel
theorem dX7_dirtBehind_50 : decode cX7_dirtBehind 50 = .ok (.ireturn, 1) := by decide +kernel
theorem dX7_passPart_0 : decode cX7_passPart 0 = .ok (.iload_n 1, 1) := by decide +kernel
theorem dX7_passPart_1 : decode cX7_passPart 1 = .ok (.istore 4, 2) := by decide +kernel
theorem dX7_passPart_3 : decode cX7_passPart 3 = .ok (.iload 4, 2) := by decide +kernel
theorem dX7_passPart_5 : decode cX7_passPart 5 = .ok (.iload_n 2, 1) := by decide +kernel
theorem dX7_passPart_6 : decode cX7_passPart 6 = .ok (.if_icmp .ge 36, 3) := by decide +kernel
theorem dX7_passPart_9 : decode cX7_passPart 9 = .ok (.aload_n 0, 1) := by decide +kernel
theorem dX7_passPart_10 : decode cX7_passPart 10 = .ok (.getfield 18, 3) := by decide +kernel
theorem dX7_passPart_13 : decode cX7_passPart 13 = .ok (.iload 4, 2) := by decide +kernel
theorem dX7_passPart_15 : decode cX7_passPart 15 = .ok (.sipush 999, 3) := by decide +kernel
theorem dX7_passPart_18 : decode cX7_passPart 18 = .ok (.aload_n 0, 1) := by decide +kernel
theorem dX7_passPart_19 : decode cX7_passPart 19 = .ok (.getfield 18, 3) := by decide +kernel
theorem dX7_passPart_22 : decode cX7_passPart 22 = .ok (.iload 4, 2) := by decide +kernel
theorem dX7_passPart_24 : decode cX7_passPart 24 = .ok (.iaload, 1) := by decide +kernel
theorem dX7_passPart_25 : decode cX7_passPart 25 = .ok (.aload_n 0, 1) := by decide +kernel
theorem dX7_passPart_26 : decode cX7_passPart 26 = .ok (.iload 4, 2) := by decide +kernel
theorem dX7_passPart_28 : decode cX7_passPart 28 = .ok (.invokevirtual 126, 3) := by decide +kernel
theorem dX7_passPart_31 : decode cX7_passPart 31 = .ok (.iadd, 1) := by decide +kernel
theorem dX7_passPart_32 : decode cX7_passPart 32 = .ok (.invokestatic 123, 3) := by decide +kernel
theorem dX7_passPart_35 : decode cX7_passPart 35 = .ok (.iastore, 1) := by decide +kernel
theorem dX7_passPart_36 : decode cX7_passPart 36 = .ok (.iinc 4 1, 3) := by decide +kernel
theorem dX7_passPart_39 : decode cX7_passPart 39 = .ok (.goto (-36), 3) := by decide +kernel
theorem dX7_passPart_42 : decode cX7_passPart 42 = .ok (.iload_n 1, 1) := by decide +kernel
theorem dX7_passPart_43 : decode cX7_passPart 43 = .ok (.iconst 1, 1) := by decide +kernel
theorem dX7_passPart_44 : decode cX7_passPart 44 = .ok (.iadd, 1) := by decide +kernel
theorem dX7_passPart_45 : decode cX7_passPart 45 = .ok (.istore 4, 2) := by decide +kernel
theorem dX7_passPart_47 : decode cX7_passPart 47 = .ok (.iload 4, 2) := by decide +kernel
theorem dX7_passPart_49 : decode cX7_passPart 49 = .ok (.iload_n 2, 1) := by decide +kernel
theorem dX7_passPart_50 : decode cX7_passPart 50 = .ok (.if_icmp .ge 65, 3) := by decide +kernel
theorem dX7_passPart_53 : decode cX7_passPart 53 = .ok (.aload_n 0, 1) := by decide +kernel
theorem dX7_passPart_54 : decode cX7_passPart 54 = .ok (.getfield 18, 3) := by decide +kernel
theorem dX7_passPart_57 : decode cX7_passPart 57 = .ok (.iload 4, 2) := by decide +kernel
theorem dX7_passPart_59 : decode cX7_passPart 59 = .ok (.iaload, 1) := by decide +kernel
theorem dX7_passPart_60 : decode cX7_passPart 60 = .ok (.aload_n 0, 1) := by decide +kernel
theorem dX7_passPart_61 : decode cX7_passPart 61 = .ok (.getfield 63, 3) := by decide +kernel
theorem dX7_passPart_64 : decode cX7_passPart 64 = .ok (.imul, 1) := by decide +kernel
theorem dX7_passPart_65 : decode cX7_passPart 65 = .ok (.bipush 20, 2) := by decide +kernel
theorem dX7_passPart_67 : decode cX7_passPart 67 = .ok (.idiv, 1) := by decide +kernel
theorem dX7_passPart_68 : decode cX7_passPart 68 = .ok (.istore 5, 2) := by decide +kernel
theorem dX7_passPart_70 : decode cX7_passPart 70 = .ok (.aload_n 0, 1) := by decide +kernel
theorem dX7_passPart_71 : decode cX7_passPart 71 = .ok (.getfield 18, 3) := by decide +kernel
theorem dX7_passPart_74 : decode cX7_passPart 74 = .ok (.iload 4, 2) := by decide +kernel
theorem dX7_passPart_76 : decode cX7_passPart 76 = .ok (.dup2, 1) := by decide +kernel
theorem dX7_passPart_77 : decode cX7_passPart 77 = .ok (.iaload, 1) := by decide +kernel
theorem dX7_passPart_78 : decode cX7_passPart 78 = .ok (.iload 5, 2) := by decide +kernel
theorem dX7_passPart_80 : decode cX7_passPart 80 = .ok (.isub, 1) := by decide +kernel
theorem dX7_passPart_81 : decode cX7_passPart 81 = .ok (.iastore, 1) := by decide +kernel
theorem dX7_passPart_82 : decode cX7_passPart 82 = .ok (.aload_n 0, 1) := by decide +kernel
theorem dX7_passPart_83 : decode cX7_passPart 83 = .ok (.getfield 18, 3) := by decide +kernel
theorem dX7_passPart_86 : decode cX7_passPart 86 = .ok (.iload 4, 2) := by decide +kernel
theorem dX7_passPart_88 : decode cX7_passPart 88 = .ok (.iconst 1, 1) := by decide +kernel
theorem dX7_passPart_89 : decode cX7_passPart 89 = .ok (.isub, 1) := by decide +kernel
theorem dX7_passPart_90 : decode cX7_passPart 90 = .ok (.sipush 999, 3) := by decide +kernel
theorem dX7_passPart_93 : decode cX7_passPart 93 = .ok (.aload_n 0, 1) := by decide +kernel
theorem dX7_passPart_94 : decode cX7_passPart 94 = .ok (.getfield 18, 3) := by decide +kernel
theorem dX7_passPart_97 : decode cX7_passPart 97 = .ok (.iload 4, 2) := by decide +kernel
theorem dX7_passPart_99 : decode cX7_passPart 99 = .ok (.iconst 1, 1) := by decide +kernel
theorem dX7_passPart_100 : decode cX7_passPart 100 = .ok (.isub, 1) := by decide +kernel
theorem dX7_passPart_101 : decode cX7_passPart 101 = .ok (.iaload, 1) := by decide +kernel
theorem dX7_passPart_102 : decode cX7_passPart 102 = .ok (.iload 5, 2) := by decide +kernel
theorem dX7_passPart_104 : decode cX7_passPart 104 = .ok (.iadd, 1) := by decide +kernel
theorem dX7_passPart_105 : decode cX7_passPart 105 = .ok (.invokestatic 123, 3) := by decide +kernel
theorem dX7_passPart_108 : decode cX7_passPart 108 = .ok (.iastore, 1) := by decide +kernel
theorem dX7_passPart_109 : decode cX7_passPart 109 = .ok (.iinc 4 2, 3) := by decide +kernel
theorem dX7_passPart_112 : decode cX7_passPart 112 = .ok (.goto (-65), 3) := by decide +kernel
theorem dX7_passPart_115 : decode cX7_passPart 115 = .ok (.aload_n 0, 1) := by decide +kernel
theorem dX7_passPart_116 : decode cX7_passPart 116 = .ok (.iload_n 1, 1) := by decide +kernel
theorem dX7_passPart_117 : decode cX7_passPart 117 = .ok (.iload_n 2, 1) := by decide +kernel
theorem dX7_passPart_118 : decode cX7_passPart 118 = .ok (.iload_n 3, 1) := by decide +kernel
theorem dX7_passPart_119 : decode cX7_passPart 119 = .ok (.invokevirtual 129, 3) := by decide +kernel
theorem dX7_passPart_122 : decode cX7_passPart 122 = .ok (.aload_n 0, 1) := by decide +kernel
theorem dX7_passPart_123 : decode cX7_passPart 123 = .ok (.dup, 1) := by decide +kernel
theorem dX7_passPart_124 : decode cX7_passPart 124 = .ok (.getfield 60, 3) := by decide +kernel
theorem dX7_passPart_127 : decode cX7_passPart 127 = .ok (.iconst 1, 1) := by decide +kernel
theorem dX7_passPart_128 : decode cX7_passPart 128 = .ok (.iadd, 1) := by decide +kernel
theorem dX7_passPart_129 : decode cX7_passPart 129 = .ok (.putfield 60, 3) := by decide +kernel
theorem dX7_passPart_132 : decode cX7_passPart 132 = .ok (.return_, 1) := by decide +kernel
theorem dX7_sweep_0 : decode cX7_sweep 0 = .ok (.iconst 0, 1) := by decide +kernel
theorem dX7_sweep_1 : decode cX7_sweep 1 = .ok (.istore 4, 2) := by decide +kernel
theorem dX7_sweep_3 : decode cX7_sweep 3 = .ok (.iload 4, 2) := by decide +kernel
theorem dX7_sweep_5 : decode cX7_sweep 5 = .ok (.iconst 1, 1) := by decide +kernel
theorem dX7_sweep_6 : decode cX7_sweep 6 = .ok (.if_icmp .gt 124, 3) := by decide +kernel
theorem dX7_sweep_9 : decode cX7_sweep 9 = .ok (.iload_n 3, 1) := by decide +kernel
theorem dX7_sweep_10 : decode cX7_sweep 10 = .ok (.iload 4, 2) := by decide +kernel
theorem dX7_sweep_12 : decode cX7_sweep 12 = .ok (.ishr, 1) := by decide +kernel
theorem dX7_sweep_13 : decode cX7_sweep 13 = .ok (.iconst 1, 1) := by decide +kernel
theorem dX7_sweep_14 : decode cX7_sweep 14 = .ok (.iand, 1) := by decide +kernel
theorem dX7_sweep_15 : decode cX7_sweep 15 = .ok (.ifCond .ne 6, 3) := by decide +kernel
theorem dX7_sweep_18 : decode cX7_sweep 18 = .ok (.goto 106, 3) := by decide +kernel
theorem dX7_sweep_21 : decode cX7_sweep 21 = .ok (.iload_n 3, 1) := by decide +kernel
theorem dX7_sweep_22 : decode cX7_sweep 22 = .ok (.iconst 3, 1) := by decide +kernel
theorem dX7_sweep_23 : decode cX7_sweep 23 = .ok (.if_icmp .ne 10, 3) := by decide +kernel
theorem dX7_sweep_26 : decode cX7_sweep 26 = .ok (.aload_n 0, 1) := by decide +kernel
theorem dX7_sweep_27 : decode cX7_sweep 27 = .ok (.getfield 57, 3) := by decide +kernel
theorem dX7_sweep_30 : decode cX7_sweep 30 = .ok (.goto 16, 3) := by decide +kernel
theorem dX7_sweep_33 : decode cX7_sweep 33 = .ok (.aload_n 0, 1) := by decide +kernel
theorem dX7_sweep_34 : decode cX7_sweep 34 = .ok (.getfield 57, 3) := by decide +kernel
theorem dX7_sweep_37 : decode cX7_sweep 37 = .ok (.aload_n 0, 1) := by decide +kernel
theorem dX7_sweep_38 : decode cX7_sweep 38 = .ok (.iload 4, 2) := by decide +kernel
theorem dX7_sweep_40 : decode cX7_sweep 40 = .ok (.invokevirtual 132, 3) := by decide +kernel
theorem dX7_sweep_43 : decode cX7_sweep 43 = .ok (.iconst (-1), 1) := by decide +kernel
theorem dX7_sweep_44 : decode cX7_sweep 44 = .ok (.ixor, 1) := by decide +kernel
theorem dX7_sweep_45 : decode cX7_sweep 45 = .ok (.iand, 1) := by decide +kernel
theorem dX7_sweep_46 : decode cX7_sweep 46 = .ok (.istore 5, 2) := by decide +kernel
theorem dX7_sweep_48 : decode cX7_sweep 48 = .ok (.iload_n 1, 1) := by decide +kernel
theorem dX7_sweep_49 : decode cX7_sweep 49 = .ok (.iload 4, 2) := by decide +kernel
theorem dX7_sweep_51 : decode cX7_sweep 51 = .ok (.iadd, 1) := by decide +kernel
theorem dX7_sweep_52 : decode cX7_sweep 52 = .ok (.istore 6, 2) := by decide +kernel
theorem dX7_sweep_54 : decode cX7_sweep 54 = .ok (.iload 6, 2) := by decide +kernel
theorem dX7_sweep_56 : decode cX7_sweep 56 = .ok (.iload_n 2, 1) := by decide +kernel
theorem dX7_sweep_57 : decode cX7_sweep 57 = .ok (.if_icmp .ge 67, 3) := by decide +kernel
theorem dX7_sweep_60 : decode cX7_sweep 60 = .ok (.iload 5, 2) := by decide +kernel
theorem dX7_sweep_62 : decode cX7_sweep 62 = .ok (.iload 6, 2) := by decide +kernel
theorem dX7_sweep_64 : decode cX7_sweep 64 = .ok (.ishr, 1) := by decide +kernel
theorem dX7_sweep_65 : decode cX7_sweep 65 = .ok (.iconst 1, 1) := by decide +kernel
theorem dX7_sweep_66 : decode cX7_sweep 66 = .ok (.iand, 1) := by decide +kernel
theorem dX7_sweep_67 : decode cX7_sweep 67 = .ok (.iconst 1, 1) := by decide +kernel
theorem dX7_sweep_68 : decode cX7_sweep 68 = .ok (.if_icmp .ne 24, 3) := by decide +kernel
theorem dX7_sweep_71 : decode cX7_sweep 71 = .ok (.aload_n 0, 1) := by decide +kernel
theorem dX7_sweep_72 : decode cX7_sweep 72 = .ok (.ldc 135, 2) := by decide +kernel
theorem dX7_sweep_74 : decode cX7_sweep 74 = .ok (.aload_n 0, 1) := by decide +kernel
theorem dX7_sweep_75 : decode cX7_sweep 75 = .ok (.getfield 66, 3) := by decide +kernel
theorem dX7_sweep_78 : decode cX7_sweep 78 = .ok (.aload_n 0, 1) := by decide +kernel
theorem dX7_sweep_79 : decode cX7_sweep 79 = .ok (.getfield 24, 3) := by decide +kernel
theorem dX7_sweep_82 : decode cX7_sweep 82 = .ok (.iadd, 1) := by decide +kernel
theorem dX7_sweep_83 : decode cX7_sweep 83 = .ok (.invokestatic 123, 3) := by decide +kernel
theorem dX7_sweep_86 : decode cX7_sweep 86 = .ok (.putfield 66, 3) := by decide +kernel
theorem dX7_sweep_89 : decode cX7_sweep 89 = .ok (.goto 29, 3) := by decide +kernel
theorem dX7_sweep_92 : decode cX7_sweep 92 = .ok (.aload_n 0, 1) := by decide +kernel
theorem dX7_sweep_93 : decode cX7_sweep 93 = .ok (.getfield 18, 3) := by decide +kernel
theorem dX7_sweep_96 : decode cX7_sweep 96 = .ok (.iload 6, 2) := by decide +kernel
theorem dX7_sweep_98 : decode cX7_sweep 98 = .ok (.dup2, 1) := by decide +kernel
theorem dX7_sweep_99 : decode cX7_sweep 99 = .ok (.iaload, 1) := by decide +kernel
theorem dX7_sweep_100 : decode cX7_sweep 100 = .ok (.aload_n 0, 1) := by decide +kernel
theorem dX7_sweep_101 : decode cX7_sweep 101 = .ok (.iload 6, 2) := by decide +kernel
theorem dX7_sweep_103 : decode cX7_sweep 103 = .ok (.invokevirtual 89, 3) := by decide +kernel
theorem dX7_sweep_106 : decode cX7_sweep 106 = .ok (.aload_n 0, 1) := by decide +kernel
theorem dX7_sweep_107 : decode cX7_sweep 107 = .ok (.getfield 18, 3) := by decide +kernel
theorem dX7_sweep_110 : decode cX7_sweep 110 = .ok (.iload 6, 2) := by decide +kernel
theorem dX7_sweep_112 : decode cX7_sweep 112 = .ok (.iaload, 1) := by decide +kernel
theorem dX7_sweep_113 : decode cX7_sweep 113 = .ok (.invokevirtual 109, 3) := by decide +kernel
theorem dX7_sweep_116 : decode cX7_sweep 116 = .ok (.isub, 1) := by decide +kernel
theorem dX7_sweep_117 : decode cX7_sweep 117 = .ok (.iastore, 1) := by decide +kernel
theorem dX7_sweep_118 : decode cX7_sweep 118 = .ok (.iinc 6 2, 3) := by decide +kernel
theorem dX7_sweep_121 : decode cX7_sweep 121 = .ok (.goto (-67), 3) := by decide +kernel
theorem dX7_sweep_124 : decode cX7_sweep 124 = .ok (.iinc 4 1, 3) := by decide +kernel
theorem dX7_sweep_127 : decode cX7_sweep 127 = .ok (.goto (-124), 3) := by decide +kernel
theorem dX7_sweep_130 : decode cX7_sweep 130 = .ok (.return_, 1) := by decide +kernel
theorem dX7_goers_0 : decode cX7_goers 0 = .ok (.iconst 0, 1) := by decide +kernel
theorem dX7_goers_1 : decode cX7_goers 1 = .ok (.istore_n 2, 1) := by decide +kernel
theorem dX7_goers_2 : decode cX7_goers 2 = .ok (.iconst 1, 1) := by decide +kernel
theorem dX7_goers_3 : decode cX7_goers 3 = .ok (.iload_n 1, 1) := by decide +kernel
theorem dX7_goers_4 : decode cX7_goers 4 = .ok (.isub, 1) := by decide +kernel
theorem dX7_goers_5 : decode cX7_goers 5 = .ok (.istore_n 3, 1) := by decide +kernel
theorem dX7_goers_6 : decode cX7_goers 6 = .ok (.iload_n 3, 1) := by decide +kernel
theorem dX7_goers_7 : decode cX7_goers 7 = .ok (.aload_n 0, 1) := by decide +kernel
theorem dX7_goers_8 : decode cX7_goers 8 = .ok (.getfield 54, 3) := by decide +kernel
theorem dX7_goers_11 : decode cX7_goers 11 = .ok (.if_icmp .ge 19, 3) := by decide +kernel
theorem dX7_goers_14 : decode cX7_goers 14 = .ok (.iload_n 2, 1) := by decide +kernel
theorem dX7_goers_15 : decode cX7_goers 15 = .ok (.iconst 1, 1) := by decide +kernel
theorem dX7_goers_16 : decode cX7_goers 16 = .ok (.aload_n 0, 1) := by decide +kernel
theorem dX7_goers_17 : decode cX7_goers 17 = .ok (.iload_n 3, 1) := by decide +kernel
theorem dX7_goers_18 : decode cX7_goers 18 = .ok (.invokevirtual 93, 3) := by decide +kernel
theorem dX7_goers_21 : decode cX7_goers 21 = .ok (.isub, 1) := by decide +kernel
theorem dX7_goers_22 : decode cX7_goers 22 = .ok (.iadd, 1) := by decide +kernel
theorem dX7_goers_23 : decode cX7_goers 23 = .ok (.istore_n 2, 1) := by decide +kernel
theorem dX7_goers_24 : decode cX7_goers 24 = .ok (.iinc 3 2, 3) := by decide +kernel
theorem dX7_goers_27 : decode cX7_goers 27 = .ok (.goto (-21), 3) := by decide +kernel
theorem dX7_goers_30 : decode cX7_goers 30 = .ok (.iconst 0, 1) := by decide +kernel
theorem dX7_goers_31 : decode cX7_goers 31 = .ok (.istore_n 3, 1) := by decide +kernel
theorem dX7_goers_32 : decode cX7_goers 32 = .ok (.iload_n 1, 1) := by decide +kernel
theorem dX7_goers_33 : decode cX7_goers 33 = .ok (.istore 4, 2) := by decide +kernel
theorem dX7_goers_35 : decode cX7_goers 35 = .ok (.iload 4, 2) := by decide +kernel
theorem dX7_goers_37 : decode cX7_goers 37 = .ok (.aload_n 0, 1) := by decide +kernel
theorem dX7_goers_38 : decode cX7_goers 38 = .ok (.getfield 54, 3) := by decide +kernel
theorem dX7_goers_41 : decode cX7_goers 41 = .ok (.if_icmp .ge 47, 3) := by decide +kernel
theorem dX7_goers_44 : decode cX7_goers 44 = .ok (.aload_n 0, 1) := by decide +kernel
theorem dX7_goers_45 : decode cX7_goers 45 = .ok (.iload 4, 2) := by decide +kernel
theorem dX7_goers_47 : decode cX7_goers 47 = .ok (.invokevirtual 93, 3) := by decide +kernel
theorem dX7_goers_50 : decode cX7_goers 50 = .ok (.iconst 1, 1) := by decide +kernel
theorem dX7_goers_51 : decode cX7_goers 51 = .ok (.if_icmp .ne 31, 3) := by decide +kernel
theorem dX7_goers_54 : decode cX7_goers 54 = .ok (.aload_n 0, 1) := by decide +kernel
theorem dX7_goers_55 : decode cX7_goers 55 = .ok (.getfield 21, 3) := by decide +kernel
theorem dX7_goers_58 : decode cX7_goers 58 = .ok (.iload 4, 2) := by decide +kernel
theorem dX7_goers_60 : decode cX7_goers 60 = .ok (.iaload, 1) := by decide +kernel
theorem dX7_goers_61 : decode cX7_goers 61 = .ok (.aload_n 0, 1) := by decide +kernel
theorem dX7_goers_62 : decode cX7_goers 62 = .ok (.getfield 24, 3) := by decide +kernel
theorem dX7_goers_65 : decode cX7_goers 65 = .ok (.if_icmp .ge 17, 3) := by decide +kernel
theorem dX7_goers_68 : decode cX7_goers 68 = .ok (.iload_n 2, 1) := by decide +kernel
theorem dX7_goers_69 : decode cX7_goers 69 = .ok (.ifCond .le 13, 3) := by decide +kernel
theorem dX7_goers_72 : decode cX7_goers 72 = .ok (.iload_n 3, 1) := by decide +kernel
theorem dX7_goers_73 : decode cX7_goers 73 = .ok (.iconst 1, 1) := by decide +kernel
theorem dX7_goers_74 : decode cX7_goers 74 = .ok (.iload 4, 2) := by decide +kernel
theorem dX7_goers_76 : decode cX7_goers 76 = .ok (.ishl, 1) := by decide +kernel
theorem dX7_goers_77 : decode cX7_goers 77 = .ok (.ior, 1) := by decide +kernel
theorem dX7_goers_78 : decode cX7_goers 78 = .ok (.istore_n 3, 1) := by decide +kernel
theorem dX7_goers_79 : decode cX7_goers 79 = .ok (.iinc 2 (-1), 3) := by decide +kernel
theorem dX7_goers_82 : decode cX7_goers 82 = .ok (.iinc 4 2, 3) := by decide +kernel
theorem dX7_goers_85 : decode cX7_goers 85 = .ok (.goto (-50), 3) := by decide +kernel
theorem dX7_goers_88 : decode cX7_goers 88 = .ok (.iload_n 3, 1) := by decide +kernel
theorem dX7_goers_89 : decode cX7_goers 89 = .ok (.ireturn, 1) := by decide +kernel
theorem dX7_stayers_0 : decode cX7_stayers 0 = .ok (.iconst 0, 1) := by decide +kernel
theorem dX7_stayers_1 : decode cX7_stayers 1 = .ok (.istore_n 2, 1) := by decide +kernel
theorem dX7_stayers_2 : decode cX7_stayers 2 = .ok (.iload_n 1, 1) := by decide +kernel
theorem dX7_stayers_3 : decode cX7_stayers 3 = .ok (.istore_n 3, 1) := by decide +kernel
theorem dX7_stayers_4 : decode cX7_stayers 4 = .ok (.iload_n 3, 1) := by decide +kernel
theorem dX7_stayers_5 : decode cX7_stayers 5 = .ok (.aload_n 0, 1) := by decide +kernel
theorem dX7_stayers_6 : decode cX7_stayers 6 = .ok (.getfield 54, 3) := by decide +kernel
theorem dX7_stayers_9 : decode cX7_stayers 9 = .ok (.if_icmp .ge 15, 3) := by decide +kernel
theorem dX7_stayers_12 : decode cX7_stayers 12 = .ok (.iload_n 2, 1) := by decide +kernel
theorem dX7_stayers_13 : decode cX7_stayers 13 = .ok (.iconst 1, 1) := by decide +kernel
theorem dX7_stayers_14 : decode cX7_stayers 14 = .ok (.iload_n 3, 1) := by decide +kernel
theorem dX7_stayers_15 : decode cX7_stayers 15 = .ok (.ishl, 1) := by decide +kernel
theorem dX7_stayers_16 : decode cX7_stayers 16 = .ok (.ior, 1) := by decide +kernel
theorem dX7_stayers_17 : decode cX7_stayers 17 = .ok (.istore_n 2, 1) := by decide +kernel
theorem dX7_stayers_18 : decode cX7_stayers 18 = .ok (.iinc 3 2, 3) := by decide +kernel
theorem dX7_stayers_21 : decode cX7_stayers 21 = .ok (.goto (-17), 3) := by decide +kernel
theorem dX7_stayers_24 : decode cX7_stayers 24 = .ok (.aload_n 0, 1) := by decide +kernel
theorem dX7_stayers_25 : decode cX7_stayers 25 = .ok (.getfield 57, 3) := by decide +kernel
theorem dX7_stayers_28 : decode cX7_stayers 28 = .ok (.iload_n 2, 1) := by decide +kernel
theorem dX7_stayers_29 : decode cX7_stayers 29 = .ok (.iand, 1) := by decide +kernel
theorem dX7_stayers_30 : decode cX7_stayers 30 = .ok (.aload_n 0, 1) := by decide +kernel
theorem dX7_stayers_31 : decode cX7_stayers 31 = .ok (.iload_n 1, 1) := by decide +kernel
theorem dX7_stayers_32 : decode cX7_stayers 32 = .ok (.invokevirtual 132, 3) := by decide +kernel
theorem dX7_stayers_35 : decode cX7_stayers 35 = .ok (.iconst (-1), 1) := by decide +kernel
theorem dX7_stayers_36 : decode cX7_stayers 36 = .ok (.ixor, 1) := by decide +kernel
theorem dX7_stayers_37 : decode cX7_stayers 37 = .ok (.iand, 1) := by decide +kernel
theorem dX7_stayers_38 : decode cX7_stayers 38 = .ok (.ireturn, 1) := by decide +kernel
theorem dX7_drawWindAndCar_0 : decode cX7_drawWindAndCar 0 = .ok (.aload_n 0, 1) := by decide +kernel
theorem dX7_drawWindAndCar_1 : decode cX7_drawWindAndCar 1 = .ok (.aload_n 0, 1) := by decide +kernel
theorem dX7_drawWindAndCar_2 : decode cX7_drawWindAndCar 2 = .ok (.invokevirtual 136, 3) := by decide +kernel
theorem dX7_drawWindAndCar_5 : decode cX7_drawWindAndCar 5 = .ok (.bipush 10, 2) := by decide +kernel
theorem dX7_drawWindAndCar_7 : decode cX7_drawWindAndCar 7 = .ok (.irem, 1) := by decide +kernel
theorem dX7_drawWindAndCar_8 : decode cX7_drawWindAndCar 8 = .ok (.putfield 63, 3) := by decide +kernel
theorem dX7_drawWindAndCar_11 : decode cX7_drawWindAndCar 11 = .ok (.aload_n 0, 1) := by decide +kernel
theorem dX7_drawWindAndCar_12 : decode cX7_drawWindAndCar 12 = .ok (.invokevirtual 136, 3) := by decide +kernel
theorem dX7_drawWindAndCar_15 : decode cX7_drawWindAndCar 15 = .ok (.istore_n 1, 1) := by decide +kernel
theorem dX7_drawWindAndCar_16 : decode cX7_drawWindAndCar 16 = .ok (.aload_n 0, 1) := by decide +kernel
theorem dX7_drawWindAndCar_17 : decode cX7_drawWindAndCar 17 = .ok (.getfield 54, 3) := by decide +kernel
theorem dX7_drawWindAndCar_20 : decode cX7_drawWindAndCar 20 = .ok (.ifCond .le 20, 3) := by decide +kernel
theorem dX7_drawWindAndCar_23 : decode cX7_drawWindAndCar 23 = .ok (.aload_n 0, 1) := by decide +kernel
theorem dX7_drawWindAndCar_24 : decode cX7_drawWindAndCar 24 = .ok (.dup, 1) := by decide +kernel
theorem dX7_drawWindAndCar_25 : decode cX7_drawWindAndCar 25 = .ok (.getfield 57, 3) := by decide +kernel
theorem dX7_drawWindAndCar_28 : decode cX7_drawWindAndCar 28 = .ok (.iconst 1, 1) := by decide +kernel
theorem dX7_drawWindAndCar_29 : decode cX7_drawWindAndCar 29 = .ok (.iload_n 1, 1) := by decide +kernel
theorem dX7_drawWindAndCar_30 : decode cX7_drawWindAndCar 30 = .ok (.aload_n 0, 1) := by decide +kernel
theorem dX7_drawWindAndCar_31 : decode cX7_drawWindAndCar 31 = .ok (.getfield 54, 3) := by decide +kernel
theorem dX7_drawWindAndCar_34 : decode cX7_drawWindAndCar 34 = .ok (.irem, 1) := by decide +kernel
theorem dX7_drawWindAndCar_35 : decode cX7_drawWindAndCar 35 = .ok (.ishl, 1) := by decide +kernel
theorem dX7_drawWindAndCar_36 : decode cX7_drawWindAndCar 36 = .ok (.ixor, 1) := by decide +kernel
theorem dX7_drawWindAndCar_37 : decode cX7_drawWindAndCar 37 = .ok (.putfield 57, 3) := by decide +kernel
theorem dX7_drawWindAndCar_40 : decode cX7_drawWindAndCar 40 = .ok (.return_, 1) := by decide +kernel
theorem dX7_drawn_0 : decode cX7_drawn 0 = .ok (.aload_n 0, 1) := by decide +kernel
theorem dX7_drawn_1 : decode cX7_drawn 1 = .ok (.aload_n 0, 1) := by decide +kernel
theorem dX7_drawn_2 : decode cX7_drawn 2 = .ok (.getfield 34, 3) := by decide +kernel
theorem dX7_drawn_5 : decode cX7_drawn 5 = .ok (.ldc 139, 2) := by decide +kernel
theorem dX7_drawn_7 : decode cX7_drawn 7 = .ok (.imul, 1) := by decide +kernel
theorem dX7_drawn_8 : decode cX7_drawn 8 = .ok (.sipush 12345, 3) := by decide +kernel
theorem dX7_drawn_11 : decode cX7_drawn 11 = .ok (.iadd, 1) := by decide +kernel
theorem dX7_drawn_12 : decode cX7_drawn 12 = .ok (.putfield 34, 3) := by decide +kernel
theorem dX7_drawn_15 : decode cX7_drawn 15 = .ok (.aload_n 0, 1) := by decide +kernel
theorem dX7_drawn_16 : decode cX7_drawn 16 = .ok (.getfield 34, 3) := by decide +kernel
theorem dX7_drawn_19 : decode cX7_drawn 19 = .ok (.bipush 8, 2) := by decide +kernel
theorem dX7_drawn_21 : decode cX7_drawn 21 = .ok (.iushr, 1) := by decide +kernel
theorem dX7_drawn_22 : decode cX7_drawn 22 = .ok (.ireturn, 1) := by decide +kernel
theorem dX8_init_0 : decode cX8_init 0 = .ok (.aload_n 0, 1) := by decide +kernel
theorem dX8_init_1 : decode cX8_init 1 = .ok (.invokespecial 1, 3) := by decide +kernel
theorem dX8_init_4 : decode cX8_init 4 = .ok (.return_, 1) := by decide +kernel
theorem dX8_fallen_0 : decode cX8_fallen 0 = .ok (.iload_n 1, 1) := by decide +kernel
theorem dX8_fallen_1 : decode cX8_fallen 1 = .ok (.iload_n 2, 1) := by decide +kernel
theorem dX8_fallen_2 : decode cX8_fallen 2 = .ok (.iconst 3, 1) := by decide +kernel
theorem dX8_fallen_3 : decode cX8_fallen 3 = .ok (.irem, 1) := by decide +kernel
theorem dX8_fallen_4 : decode cX8_fallen 4 = .ok (.isub, 1) := by decide +kernel
theorem dX8_fallen_5 : decode cX8_fallen 5 = .ok (.ireturn, 1) := by decide +kernel
theorem dX8_taken_0 : decode cX8_taken 0 = .ok (.iload_n 1, 1) := by decide +kernel
theorem dX8_taken_1 : decode cX8_taken 1 = .ok (.iload_n 1, 1) := by decide +kernel
theorem dX8_taken_2 : decode cX8_taken 2 = .ok (.iconst 2, 1) := by decide +kernel
theorem dX8_taken_3 : decode cX8_taken 3 = .ok (.irem, 1) := by decide +kernel
theorem dX8_taken_4 : decode cX8_taken 4 = .ok (.isub, 1) := by decide +kernel
theorem dX8_taken_5 : decode cX8_taken 5 = .ok (.ireturn, 1) := by decide +kernel
theorem dX8_falls_0 : decode cX8_falls 0 = .ok (.aload_n 1, 1) := by decide +kernel
theorem dX8_falls_1 : decode cX8_falls 1 = .ok (.bipush 20, 2) := by decide +kernel
theorem dX8_falls_3 : decode cX8_falls 3 = .ok (.invokevirtual 7, 3) := by decide +kernel
theorem dX8_falls_6 : decode cX8_falls 6 = .ok (.aload_n 0, 1) := by decide +kernel
theorem dX8_falls_7 : decode cX8_falls 7 = .ok (.aload_n 1, 1) := by decide +kernel
theorem dX8_falls_8 : decode cX8_falls 8 = .ok (.iload_n 2, 1) := by decide +kernel
theorem dX8_falls_9 : decode cX8_falls 9 = .ok (.invokespecial 13, 3) := by decide +kernel
theorem dX8_falls_12 : decode cX8_falls 12 = .ok (.iconst 3, 1) := by decide +kernel
theorem dX8_falls_13 : decode cX8_falls 13 = .ok (.imul, 1) := by decide +kernel
theorem dX8_falls_14 : decode cX8_falls 14 = .ok (.ireturn, 1) := by decide +kernel
theorem dX9_init_0 : decode cX9_init 0 = .ok (.aload_n 0, 1) := by decide +kernel
theorem dX9_init_1 : decode cX9_init 1 = .ok (.invokespecial 1, 3) := by decide +kernel
theorem dX9_init_4 : decode cX9_init 4 = .ok (.return_, 1) := by decide +kernel
theorem dX9_fallen_0 : decode cX9_fallen 0 = .ok (.iload_n 1, 1) := by decide +kernel
theorem dX9_fallen_1 : decode cX9_fallen 1 = .ok (.iload_n 3, 1) := by decide +kernel
theorem dX9_fallen_2 : decode cX9_fallen 2 = .ok (.iadd, 1) := by decide +kernel
theorem dX9_fallen_3 : decode cX9_fallen 3 = .ok (.ireturn, 1) := by decide +kernel
theorem dX9_taken_0 : decode cX9_taken 0 = .ok (.iload_n 1, 1) := by decide +kernel
theorem dX9_taken_1 : decode cX9_taken 1 = .ok (.bipush 50, 2) := by decide +kernel
theorem dX9_taken_3 : decode cX9_taken 3 = .ok (.invokestatic 7, 3) := by decide +kernel
theorem dX9_taken_6 : decode cX9_taken 6 = .ok (.ireturn, 1) := by decide +kernel
theorem dX9_sweeps_0 : decode cX9_sweeps 0 = .ok (.aload_n 1, 1) := by decide +kernel
theorem dX9_sweeps_1 : decode cX9_sweeps 1 = .ok (.bipush 40, 2) := by decide +kernel
theorem dX9_sweeps_3 : decode cX9_sweeps 3 = .ok (.invokevirtual 13, 3) := by decide +kernel
theorem dX9_sweeps_6 : decode cX9_sweeps 6 = .ok (.aload_n 0, 1) := by decide +kernel
theorem dX9_sweeps_7 : decode cX9_sweeps 7 = .ok (.aload_n 1, 1) := by decide +kernel
theorem dX9_sweeps_8 : decode cX9_sweeps 8 = .ok (.iload_n 2, 1) := by decide +kernel
theorem dX9_sweeps_9 : decode cX9_sweeps 9 = .ok (.invokespecial 19, 3) := by decide +kernel
theorem dX9_sweeps_12 : decode cX9_sweeps 12 = .ok (.ineg, 1) := by decide +kernel
theorem dX9_sweeps_13 : decode cX9_sweeps 13 = .ok (.ireturn, 1) := by decide +kernel
theorem dX10_init_0 : decode cX10_init 0 = .ok (.aload_n 0, 1) := by decide +kernel
theorem dX10_init_1 : decode cX10_init 1 = .ok (.invokespecial 1, 3) := by decide +kernel
theorem dX10_init_4 : decode cX10_init 4 = .ok (.return_, 1) := by decide +kernel
theorem dX10_fallen_0 : decode cX10_fallen 0 = .ok (.iload_n 1, 1) := by decide +kernel
theorem dX10_fallen_1 : decode cX10_fallen 1 = .ok (.ireturn, 1) := by decide +kernel
theorem dX10_taken_0 : decode cX10_taken 0 = .ok (.iload_n 1, 1) := by decide +kernel
theorem dX10_taken_1 : decode cX10_taken 1 = .ok (.ireturn, 1) := by decide +kernel
theorem dX10_falls_0 : decode cX10_falls 0 = .ok (.aload_n 1, 1) := by decide +kernel
theorem dX10_falls_1 : decode cX10_falls 1 = .ok (.bipush 10, 2) := by decide +kernel
theorem dX10_falls_3 : decode cX10_falls 3 = .ok (.invokevirtual 7, 3) := by decide +kernel
theorem dX10_falls_6 : decode cX10_falls 6 = .ok (.iload_n 2, 1) := by decide +kernel
theorem dX10_falls_7 : decode cX10_falls 7 = .ok (.aload_n 1, 1) := by decide +kernel
theorem dX10_falls_8 : decode cX10_falls 8 = .ok (.getfield 13, 3) := by decide +kernel
theorem dX10_falls_11 : decode cX10_falls 11 = .ok (.iadd, 1) := by decide +kernel
theorem dX10_falls_12 : decode cX10_falls 12 = .ok (.ireturn, 1) := by decide +kernel
theorem dX10_moves_0 : decode cX10_moves 0 = .ok (.aload_n 1, 1) := by decide +kernel
theorem dX10_moves_1 : decode cX10_moves 1 = .ok (.bipush 11, 2) := by decide +kernel
theorem dX10_moves_3 : decode cX10_moves 3 = .ok (.invokevirtual 7, 3) := by decide +kernel
theorem dX10_moves_6 : decode cX10_moves 6 = .ok (.aload_n 0, 1) := by decide +kernel
theorem dX10_moves_7 : decode cX10_moves 7 = .ok (.aload_n 1, 1) := by decide +kernel
theorem dX10_moves_8 : decode cX10_moves 8 = .ok (.iload_n 2, 1) := by decide +kernel
theorem dX10_moves_9 : decode cX10_moves 9 = .ok (.invokevirtual 17, 3) := by decide +kernel
theorem dX10_moves_12 : decode cX10_moves 12 = .ok (.iconst 2, 1) := by decide +kernel
theorem dX10_moves_13 : decode cX10_moves 13 = .ok (.imul, 1) := by decide +kernel
theorem dX10_moves_14 : decode cX10_moves 14 = .ok (.ireturn, 1) := by decide +kernel
theorem dX10_sweeps_0 : decode cX10_sweeps 0 = .ok (.aload_n 1, 1) := by decide +kernel
theorem dX10_sweeps_1 : decode cX10_sweeps 1 = .ok (.bipush 12, 2) := by decide +kernel
theorem dX10_sweeps_3 : decode cX10_sweeps 3 = .ok (.invokevirtual 7, 3) := by decide +kernel
theorem dX10_sweeps_6 : decode cX10_sweeps 6 = .ok (.iload_n 2, 1) := by decide +kernel
theorem dX10_sweeps_7 : decode cX10_sweeps 7 = .ok (.aload_n 1, 1) := by decide +kernel
theorem dX10_sweeps_8 : decode cX10_sweeps 8 = .ok (.getfield 23, 3) := by decide +kernel
theorem dX10_sweeps_11 : decode cX10_sweeps 11 = .ok (.isub, 1) := by decide +kernel
