theorem dX12_tow_188 : decode cX12_tow 188 = .ok (.iload 6, 2) := by decide +kernel
theorem dX12_tow_190 : decode cX12_tow 190 = .ok (.istore 6, 2) := by decide +kernel
theorem dX12_tow_192 : decode cX12_tow 192 = .ok (.iinc 8 (-1), 3) := by decide +kernel
theorem dX12_tow_195 : decode cX12_tow 195 = .ok (.goto (-114), 3) := by decide +kernel
theorem dX12_tow_198 : decode cX12_tow 198 = .ok (.iinc 7 (-1), 3) := by decide +kernel
theorem dX12_tow_201 : decode cX12_tow 201 = .ok (.goto (-129), 3) := by decide +kernel
theorem dX12_tow_204 : decode cX12_tow 204 = .ok (.iload 5, 2) := by decide +kernel
theorem dX12_tow_206 : decode cX12_tow 206 = .ok (.ifCond .lt 8, 3) := by decide +kernel
theorem dX12_tow_209 : decode cX12_tow 209 = .ok (.iload 5, 2) := by decide +kernel
theorem dX12_tow_211 : decode cX12_tow 211 = .ok (.goto 19, 3) := by decide +kernel
theorem dX12_tow_214 : decode cX12_tow 214 = .ok (.iload 6, 2) := by decide +kernel
theorem dX12_tow_216 : decode cX12_tow 216 = .ok (.ifCond .lt 8, 3) := by decide +kernel
theorem dX12_tow_219 : decode cX12_tow 219 = .ok (.iload 6, 2) := by decide +kernel
theorem dX12_tow_221 : decode cX12_tow 221 = .ok (.goto 9, 3) := by decide +kernel
theorem dX12_tow_224 : decode cX12_tow 224 = .ok (.aload_n 0, 1) := by decide +kernel
theorem dX12_tow_225 : decode cX12_tow 225 = .ok (.ldc 189, 2) := by decide +kernel
theorem dX12_tow_227 : decode cX12_tow 227 = .ok (.invokevirtual 46, 3) := by decide +kernel
theorem dX12_tow_230 : decode cX12_tow 230 = .ok (.ireturn, 1) := by decide +kernel
theorem dX12_dirtiest_0 : decode cX12_dirtiest 0 = .ok (.iconst 0, 1) := by decide +kernel
theorem dX12_dirtiest_1 : decode cX12_dirtiest 1 = .ok (.istore_n 1, 1) := by decide +kernel
theorem dX12_dirtiest_2 : decode cX12_dirtiest 2 = .ok (.iconst 0, 1) := by decide +kernel
theorem dX12_dirtiest_3 : decode cX12_dirtiest 3 = .ok (.istore_n 2, 1) := by decide +kernel
theorem dX12_dirtiest_4 : decode cX12_dirtiest 4 = .ok (.iload_n 2, 1) := by decide +kernel
theorem dX12_dirtiest_5 : decode cX12_dirtiest 5 = .ok (.aload_n 0, 1) := by decide +kernel
theorem dX12_dirtiest_6 : decode cX12_dirtiest 6 = .ok (.getfield 7, 3) := by decide +kernel
theorem dX12_dirtiest_9 : decode cX12_dirtiest 9 = .ok (.iconst 2, 1) := by decide +kernel
theorem dX12_dirtiest_10 : decode cX12_dirtiest 10 = .ok (.iaload, 1) := by decide +kernel
theorem dX12_dirtiest_11 : decode cX12_dirtiest 11 = .ok (.if_icmp .ge 30, 3) := by decide +kernel
theorem dX12_dirtiest_14 : decode cX12_dirtiest 14 = .ok (.aload_n 0, 1) := by decide +kernel
theorem dX12_dirtiest_15 : decode cX12_dirtiest 15 = .ok (.iload_n 2, 1) := by decide +kernel
theorem dX12_dirtiest_16 : decode cX12_dirtiest 16 = .ok (.iconst 2, 1) := by decide +kernel
theorem dX12_dirtiest_17 : decode cX12_dirtiest 17 = .ok (.invokevirtual 59, 3) := by decide +kernel
theorem dX12_dirtiest_20 : decode cX12_dirtiest 20 = .ok (.iload_n 1, 1) := by decide +kernel
theorem dX12_dirtiest_21 : decode cX12_dirtiest 21 = .ok (.if_icmp .le 12, 3) := by decide +kernel
theorem dX12_dirtiest_24 : decode cX12_dirtiest 24 = .ok (.aload_n 0, 1) := by decide +kernel
theorem dX12_dirtiest_25 : decode cX12_dirtiest 25 = .ok (.iload_n 2, 1) := by decide +kernel
theorem dX12_dirtiest_26 : decode cX12_dirtiest 26 = .ok (.iconst 2, 1) := by decide +kernel
theorem dX12_dirtiest_27 : decode cX12_dirtiest 27 = .ok (.invokevirtual 59, 3) := by decide +kernel
theorem dX12_dirtiest_30 : decode cX12_dirtiest 30 = .ok (.goto 4, 3) := by decide +kernel
theorem dX12_dirtiest_33 : decode cX12_dirtiest 33 = .ok (.iload_n 1, 1) := by decide +kernel
theorem dX12_dirtiest_34 : decode cX12_dirtiest 34 = .ok (.istore_n 1, 1) := by decide +kernel
theorem dX12_dirtiest_35 : decode cX12_dirtiest 35 = .ok (.iinc 2 1, 3) := by decide +kernel
theorem dX12_dirtiest_38 : decode cX12_dirtiest 38 = .ok (.goto (-34), 3) := by decide +kernel
theorem dX12_dirtiest_41 : decode cX12_dirtiest 41 = .ok (.iload_n 1, 1) := by decide +kernel
theorem dX12_dirtiest_42 : decode cX12_dirtiest 42 = .ok (.ireturn, 1) := by decide +kernel
theorem dX12_broom_0 : decode cX12_broom 0 = .ok (.iload_n 1, 1) := by decide +kernel
theorem dX12_broom_1 : decode cX12_broom 1 = .ok (.iconst 0, 1) := by decide +kernel
theorem dX12_broom_2 : decode cX12_broom 2 = .ok (.bipush 30, 2) := by decide +kernel
theorem dX12_broom_4 : decode cX12_broom 4 = .ok (.invokestatic 41, 3) := by decide +kernel
theorem dX12_broom_7 : decode cX12_broom 7 = .ok (.ifCond .eq 12, 3) := by decide +kernel
theorem dX12_broom_10 : decode cX12_broom 10 = .ok (.iload_n 2, 1) := by decide +kernel
theorem dX12_broom_11 : decode cX12_broom 11 = .ok (.iconst 0, 1) := by decide +kernel
theorem dX12_broom_12 : decode cX12_broom 12 = .ok (.iconst 1, 1) := by decide +kernel
theorem dX12_broom_13 : decode cX12_broom 13 = .ok (.invokestatic 41, 3) := by decide +kernel
theorem dX12_broom_16 : decode cX12_broom 16 = .ok (.ifCond .ne 10, 3) := by decide +kernel
theorem dX12_broom_19 : decode cX12_broom 19 = .ok (.aload_n 0, 1) := by decide +kernel
theorem dX12_broom_20 : decode cX12_broom 20 = .ok (.ldc 45, 2) := by decide +kernel
theorem dX12_broom_22 : decode cX12_broom 22 = .ok (.invokevirtual 46, 3) := by decide +kernel
theorem dX12_broom_25 : decode cX12_broom 25 = .ok (.ireturn, 1) := by decide +kernel
theorem dX12_broom_26 : decode cX12_broom 26 = .ok (.aload_n 0, 1) := by decide +kernel
theorem dX12_broom_27 : decode cX12_broom 27 = .ok (.getfield 7, 3) := by decide +kernel
theorem dX12_broom_30 : decode cX12_broom 30 = .ok (.iconst 2, 1) := by decide +kernel
theorem dX12_broom_31 : decode cX12_broom 31 = .ok (.iaload, 1) := by decide +kernel
theorem dX12_broom_32 : decode cX12_broom 32 = .ok (.ifCond .ne 10, 3) := by decide +kernel
theorem dX12_broom_35 : decode cX12_broom 35 = .ok (.aload_n 0, 1) := by decide +kernel
theorem dX12_broom_36 : decode cX12_broom 36 = .ok (.ldc 189, 2) := by decide +kernel
theorem dX12_broom_38 : decode cX12_broom 38 = .ok (.invokevirtual 46, 3) := by decide +kernel
theorem dX12_broom_41 : decode cX12_broom 41 = .ok (.ireturn, 1) := by decide +kernel
theorem dX12_broom_42 : decode cX12_broom 42 = .ok (.iconst 0, 1) := by decide +kernel
theorem dX12_broom_43 : decode cX12_broom 43 = .ok (.istore_n 3, 1) := by decide +kernel
theorem dX12_broom_44 : decode cX12_broom 44 = .ok (.sipush 1000, 3) := by decide +kernel
theorem dX12_broom_47 : decode cX12_broom 47 = .ok (.istore 4, 2) := by decide +kernel
theorem dX12_broom_49 : decode cX12_broom 49 = .ok (.aload_n 0, 1) := by decide +kernel
theorem dX12_broom_50 : decode cX12_broom 50 = .ok (.aload_n 0, 1) := by decide +kernel
theorem dX12_broom_51 : decode cX12_broom 51 = .ok (.getfield 7, 3) := by decide +kernel
theorem dX12_broom_54 : decode cX12_broom 54 = .ok (.aload_n 0, 1) := by decide +kernel
theorem dX12_broom_55 : decode cX12_broom 55 = .ok (.getfield 16, 3) := by decide +kernel
theorem dX12_broom_58 : decode cX12_broom 58 = .ok (.invokevirtual 150, 3) := by decide +kernel
theorem dX12_broom_61 : decode cX12_broom 61 = .ok (.iconst 0, 1) := by decide +kernel
theorem dX12_broom_62 : decode cX12_broom 62 = .ok (.istore 5, 2) := by decide +kernel
theorem dX12_broom_64 : decode cX12_broom 64 = .ok (.iload 5, 2) := by decide +kernel
theorem dX12_broom_66 : decode cX12_broom 66 = .ok (.aload_n 0, 1) := by decide +kernel
theorem dX12_broom_67 : decode cX12_broom 67 = .ok (.getfield 16, 3) := by decide +kernel
theorem dX12_broom_70 : decode cX12_broom 70 = .ok (.iconst 2, 1) := by decide +kernel
theorem dX12_broom_71 : decode cX12_broom 71 = .ok (.iaload, 1) := by decide +kernel
theorem dX12_broom_72 : decode cX12_broom 72 = .ok (.if_icmp .ge 70, 3) := by decide +kernel
theorem dX12_broom_75 : decode cX12_broom 75 = .ok (.aload_n 0, 1) := by decide +kernel
theorem dX12_broom_76 : decode cX12_broom 76 = .ok (.iload 5, 2) := by decide +kernel
theorem dX12_broom_78 : decode cX12_broom 78 = .ok (.iconst 2, 1) := by decide +kernel
theorem dX12_broom_79 : decode cX12_broom 79 = .ok (.iconst 0, 1) := by decide +kernel
theorem dX12_broom_80 : decode cX12_broom 80 = .ok (.invokevirtual 51, 3) := by decide +kernel
theorem dX12_broom_83 : decode cX12_broom 83 = .ok (.aload_n 0, 1) := by decide +kernel
theorem dX12_broom_84 : decode cX12_broom 84 = .ok (.iload_n 1, 1) := by decide +kernel
theorem dX12_broom_85 : decode cX12_broom 85 = .ok (.invokevirtual 175, 3) := by decide +kernel
theorem dX12_broom_88 : decode cX12_broom 88 = .ok (.aload_n 0, 1) := by decide +kernel
theorem dX12_broom_89 : decode cX12_broom 89 = .ok (.invokevirtual 200, 3) := by decide +kernel
theorem dX12_broom_92 : decode cX12_broom 92 = .ok (.istore 6, 2) := by decide +kernel
theorem dX12_broom_94 : decode cX12_broom 94 = .ok (.aload_n 0, 1) := by decide +kernel
theorem dX12_broom_95 : decode cX12_broom 95 = .ok (.aload_n 0, 1) := by decide +kernel
theorem dX12_broom_96 : decode cX12_broom 96 = .ok (.getfield 16, 3) := by decide +kernel
theorem dX12_broom_99 : decode cX12_broom 99 = .ok (.aload_n 0, 1) := by decide +kernel
theorem dX12_broom_100 : decode cX12_broom 100 = .ok (.getfield 7, 3) := by decide +kernel
theorem dX12_broom_103 : decode cX12_broom 103 = .ok (.invokevirtual 150, 3) := by decide +kernel
theorem dX12_broom_106 : decode cX12_broom 106 = .ok (.iload 6, 2) := by decide +kernel
theorem dX12_broom_108 : decode cX12_broom 108 = .ok (.iload 4, 2) := by decide +kernel
theorem dX12_broom_110 : decode cX12_broom 110 = .ok (.if_icmp .ge 8, 3) := by decide +kernel
theorem dX12_broom_113 : decode cX12_broom 113 = .ok (.iload 5, 2) := by decide +kernel
theorem dX12_broom_115 : decode cX12_broom 115 = .ok (.goto 4, 3) := by decide +kernel
theorem dX12_broom_118 : decode cX12_broom 118 = .ok (.iload_n 3, 1) := by decide +kernel
theorem dX12_broom_119 : decode cX12_broom 119 = .ok (.istore_n 3, 1) := by decide +kernel
theorem dX12_broom_120 : decode cX12_broom 120 = .ok (.iload 6, 2) := by decide +kernel
theorem dX12_broom_122 : decode cX12_broom 122 = .ok (.iload 4, 2) := by decide +kernel
theorem dX12_broom_124 : decode cX12_broom 124 = .ok (.if_icmp .ge 8, 3) := by decide +kernel
theorem dX12_broom_127 : decode cX12_broom 127 = .ok (.iload 6, 2) := by decide +kernel
theorem dX12_broom_129 : decode cX12_broom 129 = .ok (.goto 5, 3) := by decide +kernel
theorem dX12_broom_132 : decode cX12_broom 132 = .ok (.iload 4, 2) := by decide +kernel
theorem dX12_broom_134 : decode cX12_broom 134 = .ok (.istore 4, 2) := by decide +kernel
theorem dX12_broom_136 : decode cX12_broom 136 = .ok (.iinc 5 1, 3) := by decide +kernel
theorem dX12_broom_139 : decode cX12_broom 139 = .ok (.goto (-75), 3) := by decide +kernel
theorem dX12_broom_142 : decode cX12_broom 142 = .ok (.iload_n 2, 1) := by decide +kernel
theorem dX12_broom_143 : decode cX12_broom 143 = .ok (.ifCond .ne 7, 3) := by decide +kernel
theorem dX12_broom_146 : decode cX12_broom 146 = .ok (.iload_n 3, 1) := by decide +kernel
theorem dX12_broom_147 : decode cX12_broom 147 = .ok (.goto 5, 3) := by decide +kernel
theorem dX12_broom_150 : decode cX12_broom 150 = .ok (.iload 4, 2) := by decide +kernel
theorem dX12_broom_152 : decode cX12_broom 152 = .ok (.ireturn, 1) := by decide +kernel
theorem dX12_isSheet_0 : decode cX12_isSheet 0 = .ok (.iload_n 0, 1) := by decide +kernel
theorem dX12_isSheet_1 : decode cX12_isSheet 1 = .ok (.iconst 0, 1) := by decide +kernel
theorem dX12_isSheet_2 : decode cX12_isSheet 2 = .ok (.iconst 3, 1) := by decide +kernel
theorem dX12_isSheet_3 : decode cX12_isSheet 3 = .ok (.invokestatic 41, 3) := by decide +kernel
theorem dX12_isSheet_6 : decode cX12_isSheet 6 = .ok (.ireturn, 1) := by decide +kernel
theorem dX12_isDirtSo_0 : decode cX12_isDirtSo 0 = .ok (.iconst 1, 1) := by decide +kernel
theorem dX12_isDirtSo_1 : decode cX12_isDirtSo 1 = .ok (.istore_n 2, 1) := by decide +kernel
theorem dX12_isDirtSo_2 : decode cX12_isDirtSo 2 = .ok (.aload_n 0, 1) := by decide +kernel
theorem dX12_isDirtSo_3 : decode cX12_isDirtSo 3 = .ok (.invokevirtual 171, 3) := by decide +kernel
theorem dX12_isDirtSo_6 : decode cX12_isDirtSo 6 = .ok (.iconst 0, 1) := by decide +kernel
theorem dX12_isDirtSo_7 : decode cX12_isDirtSo 7 = .ok (.istore_n 3, 1) := by decide +kernel
theorem dX12_isDirtSo_8 : decode cX12_isDirtSo 8 = .ok (.iload_n 3, 1) := by decide +kernel
theorem dX12_isDirtSo_9 : decode cX12_isDirtSo 9 = .ok (.aload_n 0, 1) := by decide +kernel
theorem dX12_isDirtSo_10 : decode cX12_isDirtSo 10 = .ok (.getfield 7, 3) := by decide +kernel
theorem dX12_isDirtSo_13 : decode cX12_isDirtSo 13 = .ok (.iconst 2, 1) := by decide +kernel
theorem dX12_isDirtSo_14 : decode cX12_isDirtSo 14 = .ok (.iaload, 1) := by decide +kernel
theorem dX12_isDirtSo_15 : decode cX12_isDirtSo 15 = .ok (.if_icmp .ge 39, 3) := by decide +kernel
theorem dX12_isDirtSo_18 : decode cX12_isDirtSo 18 = .ok (.iload_n 2, 1) := by decide +kernel
theorem dX12_isDirtSo_19 : decode cX12_isDirtSo 19 = .ok (.ifCond .eq 27, 3) := by decide +kernel
theorem dX12_isDirtSo_22 : decode cX12_isDirtSo 22 = .ok (.aload_n 0, 1) := by decide +kernel
theorem dX12_isDirtSo_23 : decode cX12_isDirtSo 23 = .ok (.iload_n 3, 1) := by decide +kernel
theorem dX12_isDirtSo_24 : decode cX12_isDirtSo 24 = .ok (.iconst 2, 1) := by decide +kernel
theorem dX12_isDirtSo_25 : decode cX12_isDirtSo 25 = .ok (.invokevirtual 59, 3) := by decide +kernel
theorem dX12_isDirtSo_28 : decode cX12_isDirtSo 28 = .ok (.aload_n 0, 1) := by decide +kernel
theorem dX12_isDirtSo_29 : decode cX12_isDirtSo 29 = .ok (.getfield 31, 3) := by decide +kernel
theorem dX12_isDirtSo_32 : decode cX12_isDirtSo 32 = .ok (.bipush 40, 2) := by decide +kernel
theorem dX12_isDirtSo_34 : decode cX12_isDirtSo 34 = .ok (.iload_n 1, 1) := by decide +kernel
theorem dX12_isDirtSo_35 : decode cX12_isDirtSo 35 = .ok (.imul, 1) := by decide +kernel
theorem dX12_isDirtSo_36 : decode cX12_isDirtSo 36 = .ok (.iload_n 3, 1) := by decide +kernel
theorem dX12_isDirtSo_37 : decode cX12_isDirtSo 37 = .ok (.iadd, 1) := by decide +kernel
theorem dX12_isDirtSo_38 : decode cX12_isDirtSo 38 = .ok (.iaload, 1) := by decide +kernel
theorem dX12_isDirtSo_39 : decode cX12_isDirtSo 39 = .ok (.if_icmp .ne 7, 3) := by decide +kernel
theorem dX12_isDirtSo_42 : decode cX12_isDirtSo 42 = .ok (.iconst 1, 1) := by decide +kernel
theorem dX12_isDirtSo_43 : decode cX12_isDirtSo 43 = .ok (.goto 4, 3) := by decide +kernel
theorem dX12_isDirtSo_46 : decode cX12_isDirtSo 46 = .ok (.iconst 0, 1) := by decide +kernel
theorem dX12_isDirtSo_47 : decode cX12_isDirtSo 47 = .ok (.istore_n 2, 1) := by decide +kernel
theorem dX12_isDirtSo_48 : decode cX12_isDirtSo 48 = .ok (.iinc 3 1, 3) := by decide +kernel
theorem dX12_isDirtSo_51 : decode cX12_isDirtSo 51 = .ok (.goto (-43), 3) := by decide +kernel
theorem dX12_isDirtSo_54 : decode cX12_isDirtSo 54 = .ok (.iload_n 2, 1) := by decide +kernel
theorem dX12_isDirtSo_55 : decode cX12_isDirtSo 55 = .ok (.ireturn, 1) := by decide +kernel
theorem dX12_fits_0 : decode cX12_fits 0 = .ok (.iload_n 1, 1) := by decide +kernel
theorem dX12_fits_1 : decode cX12_fits 1 = .ok (.invokestatic 203, 3) := by decide +kernel
theorem dX12_fits_4 : decode cX12_fits 4 = .ok (.ifCond .eq 12, 3) := by decide +kernel
theorem dX12_fits_7 : decode cX12_fits 7 = .ok (.iload_n 2, 1) := by decide +kernel
theorem dX12_fits_8 : decode cX12_fits 8 = .ok (.iconst 0, 1) := by decide +kernel
theorem dX12_fits_9 : decode cX12_fits 9 = .ok (.iconst 1, 1) := by decide +kernel
theorem dX12_fits_10 : decode cX12_fits 10 = .ok (.invokestatic 41, 3) := by decide +kernel
theorem dX12_fits_13 : decode cX12_fits 13 = .ok (.ifCond .ne 10, 3) := by decide +kernel
theorem dX12_fits_16 : decode cX12_fits 16 = .ok (.aload_n 0, 1) := by decide +kernel
theorem dX12_fits_17 : decode cX12_fits 17 = .ok (.ldc 45, 2) := by decide +kernel
theorem dX12_fits_19 : decode cX12_fits 19 = .ok (.invokevirtual 46, 3) := by decide +kernel
theorem dX12_fits_22 : decode cX12_fits 22 = .ok (.ireturn, 1) := by decide +kernel
theorem dX12_fits_23 : decode cX12_fits 23 = .ok (.aload_n 0, 1) := by decide +kernel
theorem dX12_fits_24 : decode cX12_fits 24 = .ok (.getfield 25, 3) := by decide +kernel
theorem dX12_fits_27 : decode cX12_fits 27 = .ok (.iload_n 1, 1) := by decide +kernel
theorem dX12_fits_28 : decode cX12_fits 28 = .ok (.iaload, 1) := by decide +kernel
theorem dX12_fits_29 : decode cX12_fits 29 = .ok (.ifCond .eq 18, 3) := by decide +kernel
theorem dX12_fits_32 : decode cX12_fits 32 = .ok (.aload_n 0, 1) := by decide +kernel
theorem dX12_fits_33 : decode cX12_fits 33 = .ok (.getfield 28, 3) := by decide +kernel
theorem dX12_fits_36 : decode cX12_fits 36 = .ok (.iload_n 1, 1) := by decide +kernel
theorem dX12_fits_37 : decode cX12_fits 37 = .ok (.iaload, 1) := by decide +kernel
theorem dX12_fits_38 : decode cX12_fits 38 = .ok (.aload_n 0, 1) := by decide +kernel
theorem dX12_fits_39 : decode cX12_fits 39 = .ok (.getfield 7, 3) := by decide +kernel
theorem dX12_fits_42 : decode cX12_fits 42 = .ok (.iconst 2, 1) := by decide +kernel
theorem dX12_fits_43 : decode cX12_fits 43 = .ok (.iaload, 1) := by decide +kernel
theorem dX12_fits_44 : decode cX12_fits 44 = .ok (.if_icmp .eq 10, 3) := by decide +kernel
theorem dX12_fits_47 : decode cX12_fits 47 = .ok (.aload_n 0, 1) := by decide +kernel
theorem dX12_fits_48 : decode cX12_fits 48 = .ok (.ldc 189, 2) := by decide +kernel
theorem dX12_fits_50 : decode cX12_fits 50 = .ok (.invokevirtual 46, 3) := by decide +kernel
theorem dX12_fits_53 : decode cX12_fits 53 = .ok (.ireturn, 1) := by decide +kernel
theorem dX12_fits_54 : decode cX12_fits 54 = .ok (.iconst 0, 1) := by decide +kernel
theorem dX12_fits_55 : decode cX12_fits 55 = .ok (.istore_n 3, 1) := by decide +kernel
theorem dX12_fits_56 : decode cX12_fits 56 = .ok (.iconst 0, 1) := by decide +kernel
theorem dX12_fits_57 : decode cX12_fits 57 = .ok (.istore 4, 2) := by decide +kernel
theorem dX12_fits_59 : decode cX12_fits 59 = .ok (.aload_n 0, 1) := by decide +kernel
theorem dX12_fits_60 : decode cX12_fits 60 = .ok (.aload_n 0, 1) := by decide +kernel
theorem dX12_fits_61 : decode cX12_fits 61 = .ok (.getfield 7, 3) := by decide +kernel
theorem dX12_fits_64 : decode cX12_fits 64 = .ok (.aload_n 0, 1) := by decide +kernel
theorem dX12_fits_65 : decode cX12_fits 65 = .ok (.getfield 16, 3) := by decide +kernel
theorem dX12_fits_68 : decode cX12_fits 68 = .ok (.invokevirtual 150, 3) := by decide +kernel
theorem dX12_fits_71 : decode cX12_fits 71 = .ok (.bipush 99, 2) := by decide +kernel
theorem dX12_fits_73 : decode cX12_fits 73 = .ok (.istore 5, 2) := by decide +kernel
theorem dX12_fits_75 : decode cX12_fits 75 = .ok (.iload 5, 2) := by decide +kernel
theorem dX12_fits_77 : decode cX12_fits 77 = .ok (.ifCond .lt 64, 3) := by decide +kernel
theorem dX12_fits_80 : decode cX12_fits 80 = .ok (.aload_n 0, 1) := by decide +kernel
theorem dX12_fits_81 : decode cX12_fits 81 = .ok (.getfield 7, 3) := by decide +kernel
theorem dX12_fits_84 : decode cX12_fits 84 = .ok (.bipush 8, 2) := by decide +kernel
theorem dX12_fits_86 : decode cX12_fits 86 = .ok (.iload 5, 2) := by decide +kernel
theorem dX12_fits_88 : decode cX12_fits 88 = .ok (.iastore, 1) := by decide +kernel
theorem dX12_fits_89 : decode cX12_fits 89 = .ok (.aload_n 0, 1) := by decide +kernel
theorem dX12_fits_90 : decode cX12_fits 90 = .ok (.iload_n 1, 1) := by decide +kernel
theorem dX12_fits_91 : decode cX12_fits 91 = .ok (.invokevirtual 206, 3) := by decide +kernel
theorem dX12_fits_94 : decode cX12_fits 94 = .ok (.istore 6, 2) := by decide +kernel
theorem dX12_fits_96 : decode cX12_fits 96 = .ok (.aload_n 0, 1) := by decide +kernel
theorem dX12_fits_97 : decode cX12_fits 97 = .ok (.aload_n 0, 1) := by decide +kernel
theorem dX12_fits_98 : decode cX12_fits 98 = .ok (.getfield 16, 3) := by decide +kernel
theorem dX12_fits_101 : decode cX12_fits 101 = .ok (.aload_n 0, 1) := by decide +kernel
theorem dX12_fits_102 : decode cX12_fits 102 = .ok (.getfield 7, 3) := by decide +kernel
theorem dX12_fits_105 : decode cX12_fits 105 = .ok (.invokevirtual 150, 3) := by decide +kernel
theorem dX12_fits_108 : decode cX12_fits 108 = .ok (.iload_n 3, 1) := by decide +kernel
theorem dX12_fits_109 : decode cX12_fits 109 = .ok (.iload 6, 2) := by decide +kernel
theorem dX12_fits_111 : decode cX12_fits 111 = .ok (.ifCond .eq 7, 3) := by decide +kernel
theorem dX12_fits_114 : decode cX12_fits 114 = .ok (.iconst 1, 1) := by decide +kernel
theorem dX12_fits_115 : decode cX12_fits 115 = .ok (.goto 4, 3) := by decide +kernel
theorem dX12_fits_118 : decode cX12_fits 118 = .ok (.iconst 0, 1) := by decide +kernel
theorem dX12_fits_119 : decode cX12_fits 119 = .ok (.iadd, 1) := by decide +kernel
theorem dX12_fits_120 : decode cX12_fits 120 = .ok (.istore_n 3, 1) := by decide +kernel
theorem dX12_fits_121 : decode cX12_fits 121 = .ok (.iload 6, 2) := by decide +kernel
theorem dX12_fits_123 : decode cX12_fits 123 = .ok (.ifCond .eq 8, 3) := by decide +kernel
theorem dX12_fits_126 : decode cX12_fits 126 = .ok (.iload 5, 2) := by decide +kernel
theorem dX12_fits_128 : decode cX12_fits 128 = .ok (.goto 5, 3) := by decide +kernel
theorem dX12_fits_131 : decode cX12_fits 131 = .ok (.iload 4, 2) := by decide +kernel
theorem dX12_fits_133 : decode cX12_fits 133 = .ok (.istore 4, 2) := by decide +kernel
theorem dX12_fits_135 : decode cX12_fits 135 = .ok (.iinc 5 (-1), 3) := by decide +kernel
theorem dX12_fits_138 : decode cX12_fits 138 = .ok (.goto (-63), 3) := by decide +kernel
theorem dX12_fits_141 : decode cX12_fits 141 = .ok (.iload_n 2, 1) := by decide +kernel
theorem dX12_fits_142 : decode cX12_fits 142 = .ok (.iconst 1, 1) := by decide +kernel
theorem dX12_fits_143 : decode cX12_fits 143 = .ok (.if_icmp .ne 14, 3) := by decide +kernel
theorem dX12_fits_146 : decode cX12_fits 146 = .ok (.iload_n 3, 1) := by decide +kernel
theorem dX12_fits_147 : decode cX12_fits 147 = .ok (.ifCond .ne 10, 3) := by decide +kernel
theorem dX12_fits_150 : decode cX12_fits 150 = .ok (.aload_n 0, 1) := by decide +kernel
theorem dX12_fits_151 : decode cX12_fits 151 = .ok (.ldc 189, 2) := by decide +kernel
theorem dX12_fits_153 : decode cX12_fits 153 = .ok (.invokevirtual 46, 3) := by decide +kernel
theorem dX12_fits_156 : decode cX12_fits 156 = .ok (.ireturn, 1) := by decide +kernel
theorem dX12_fits_157 : decode cX12_fits 157 = .ok (.iload_n 2, 1) := by decide +kernel
theorem dX12_fits_158 : decode cX12_fits 158 = .ok (.ifCond .ne 7, 3) := by decide +kernel
theorem dX12_fits_161 : decode cX12_fits 161 = .ok (.iload_n 3, 1) := by decide +kernel
theorem dX12_fits_162 : decode cX12_fits 162 = .ok (.goto 5, 3) := by decide +kernel
theorem dX12_fits_165 : decode cX12_fits 165 = .ok (.iload 4, 2) := by decide +kernel
theorem dX12_fits_167 : decode cX12_fits 167 = .ok (.ireturn, 1) := by decide +kernel
theorem dX12_paid_0 : decode cX12_paid 0 = .ok (.iload_n 1, 1) := by decide +kernel
theorem dX12_paid_1 : decode cX12_paid 1 = .ok (.iconst 0, 1) := by decide +kernel
theorem dX12_paid_2 : decode cX12_paid 2 = .ok (.bipush 60, 2) := by decide +kernel
theorem dX12_paid_4 : decode cX12_paid 4 = .ok (.invokestatic 41, 3) := by decide +kernel
theorem dX12_paid_7 : decode cX12_paid 7 = .ok (.ifCond .ne 10, 3) := by decide +kernel
theorem dX12_paid_10 : decode cX12_paid 10 = .ok (.aload_n 0, 1) := by decide +kernel
theorem dX12_paid_11 : decode cX12_paid 11 = .ok (.ldc 45, 2) := by decide +kernel
theorem dX12_paid_13 : decode cX12_paid 13 = .ok (.invokevirtual 46, 3) := by decide +kernel
theorem dX12_paid_16 : decode cX12_paid 16 = .ok (.ireturn, 1) := by decide +kernel
theorem dX12_paid_17 : decode cX12_paid 17 = .ok (.aload_n 0, 1) := by decide +kernel
theorem dX12_paid_18 : decode cX12_paid 18 = .ok (.aload_n 0, 1) := by decide +kernel
theorem dX12_paid_19 : decode cX12_paid 19 = .ok (.getfield 7, 3) := by decide +kernel
theorem dX12_paid_22 : decode cX12_paid 22 = .ok (.aload_n 0, 1) := by decide +kernel
theorem dX12_paid_23 : decode cX12_paid 23 = .ok (.getfield 16, 3) := by decide +kernel
theorem dX12_paid_26 : decode cX12_paid 26 = .ok (.invokevirtual 150, 3) := by decide +kernel
theorem dX12_paid_29 : decode cX12_paid 29 = .ok (.aload_n 0, 1) := by decide +kernel
theorem dX12_paid_30 : decode cX12_paid 30 = .ok (.iload_n 1, 1) := by decide +kernel
theorem dX12_paid_31 : decode cX12_paid 31 = .ok (.invokevirtual 175, 3) := by decide +kernel
theorem dX12_paid_34 : decode cX12_paid 34 = .ok (.aload_n 0, 1) := by decide +kernel
theorem dX12_paid_35 : decode cX12_paid 35 = .ok (.getfield 7, 3) := by decide +kernel
theorem dX12_paid_38 : decode cX12_paid 38 = .ok (.bipush 9, 2) := by decide +kernel
theorem dX12_paid_40 : decode cX12_paid 40 = .ok (.iaload, 1) := by decide +kernel
theorem dX12_paid_41 : decode cX12_paid 41 = .ok (.aload_n 0, 1) := by decide +kernel
theorem dX12_paid_42 : decode cX12_paid 42 = .ok (.getfield 16, 3) := by decide +kernel
theorem dX12_paid_45 : decode cX12_paid 45 = .ok (.bipush 9, 2) := by decide +kernel
theorem dX12_paid_47 : decode cX12_paid 47 = .ok (.iaload, 1) := by decide +kernel
theorem dX12_paid_48 : decode cX12_paid 48 = .ok (.isub, 1) := by decide +kernel
theorem dX12_paid_49 : decode cX12_paid 49 = .ok (.istore_n 2, 1) := by decide +kernel
theorem dX12_paid_50 : decode cX12_paid 50 = .ok (.aload_n 0, 1) := by decide +kernel
theorem dX12_paid_51 : decode cX12_paid 51 = .ok (.aload_n 0, 1) := by decide +kernel
theorem dX12_paid_52 : decode cX12_paid 52 = .ok (.getfield 16, 3) := by decide +kernel
theorem dX12_paid_55 : decode cX12_paid 55 = .ok (.aload_n 0, 1) := by decide +kernel
theorem dX12_paid_56 : decode cX12_paid 56 = .ok (.getfield 7, 3) := by decide +kernel
theorem dX12_paid_59 : decode cX12_paid 59 = .ok (.invokevirtual 150, 3) := by decide +kernel
theorem dX12_paid_62 : decode cX12_paid 62 = .ok (.iload_n 2, 1) := by decide +kernel
theorem dX12_paid_63 : decode cX12_paid 63 = .ok (.ireturn, 1) := by decide +kernel
theorem dX12_bell_0 : decode cX12_bell 0 = .ok (.iload_n 1, 1) := by decide +kernel
theorem dX12_bell_1 : decode cX12_bell 1 = .ok (.iconst 0, 1) := by decide +kernel
theorem dX12_bell_2 : decode cX12_bell 2 = .ok (.bipush 60, 2) := by decide +kernel
theorem dX12_bell_4 : decode cX12_bell 4 = .ok (.invokestatic 41, 3) := by decide +kernel
theorem dX12_bell_7 : decode cX12_bell 7 = .ok (.ifCond .ne 10, 3) := by decide +kernel
theorem dX12_bell_10 : decode cX12_bell 10 = .ok (.aload_n 0, 1) := by decide +kernel
theorem dX12_bell_11 : decode cX12_bell 11 = .ok (.ldc 45, 2) := by decide +kernel
theorem dX12_bell_13 : decode cX12_bell 13 = .ok (.invokevirtual 46, 3) := by decide +kernel
theorem dX12_bell_16 : decode cX12_bell 16 = .ok (.ireturn, 1) := by decide +kernel
theorem dX12_bell_17 : decode cX12_bell 17 = .ok (.aload_n 0, 1) := by decide +kernel
theorem dX12_bell_18 : decode cX12_bell 18 = .ok (.aload_n 0, 1) := by decide +kernel
theorem dX12_bell_19 : decode cX12_bell 19 = .ok (.getfield 7, 3) := by decide +kernel
theorem dX12_bell_22 : decode cX12_bell 22 = .ok (.aload_n 0, 1) := by decide +kernel
theorem dX12_bell_23 : decode cX12_bell 23 = .ok (.getfield 16, 3) := by decide +kernel
theorem dX12_bell_26 : decode cX12_bell 26 = .ok (.invokevirtual 150, 3) := by decide +kernel
theorem dX12_bell_29 : decode cX12_bell 29 = .ok (.aload_n 0, 1) := by decide +kernel
theorem dX12_bell_30 : decode cX12_bell 30 = .ok (.iload_n 1, 1) := by decide +kernel
theorem dX12_bell_31 : decode cX12_bell 31 = .ok (.invokevirtual 175, 3) := by decide +kernel
theorem dX12_bell_34 : decode cX12_bell 34 = .ok (.aload_n 0, 1) := by decide +kernel
theorem dX12_bell_35 : decode cX12_bell 35 = .ok (.invokevirtual 179, 3) := by decide +kernel
theorem dX12_bell_38 : decode cX12_bell 38 = .ok (.istore_n 2, 1) := by decide +kernel
theorem dX12_bell_39 : decode cX12_bell 39 = .ok (.aload_n 0, 1) := by decide +kernel
theorem dX12_bell_40 : decode cX12_bell 40 = .ok (.aload_n 0, 1) := by decide +kernel
theorem dX12_bell_41 : decode cX12_bell 41 = .ok (.getfield 16, 3) := by decide +kernel
theorem dX12_bell_44 : decode cX12_bell 44 = .ok (.aload_n 0, 1) := by decide +kernel
theorem dX12_bell_45 : decode cX12_bell 45 = .ok (.getfield 7, 3) := by decide +kernel
theorem dX12_bell_48 : decode cX12_bell 48 = .ok (.invokevirtual 150, 3) := by decide +kernel
theorem dX12_bell_51 : decode cX12_bell 51 = .ok (.iconst 0, 1) := by decide +kernel
theorem dX12_bell_52 : decode cX12_bell 52 = .ok (.istore_n 3, 1) := by decide +kernel
theorem dX12_bell_53 : decode cX12_bell 53 = .ok (.iload_n 3, 1) := by decide +kernel
theorem dX12_bell_54 : decode cX12_bell 54 = .ok (.aload_n 0, 1) := by decide +kernel
theorem dX12_bell_55 : decode cX12_bell 55 = .ok (.getfield 7, 3) := by decide +kernel
theorem dX12_bell_58 : decode cX12_bell 58 = .ok (.iconst 2, 1) := by decide +kernel
theorem dX12_bell_59 : decode cX12_bell 59 = .ok (.iaload, 1) := by decide +kernel
theorem dX12_bell_60 : decode cX12_bell 60 = .ok (.if_icmp .ge 16, 3) := by decide +kernel
theorem dX12_bell_63 : decode cX12_bell 63 = .ok (.aload_n 0, 1) := by decide +kernel
theorem dX12_bell_64 : decode cX12_bell 64 = .ok (.iload_n 3, 1) := by decide +kernel
theorem dX12_bell_65 : decode cX12_bell 65 = .ok (.iconst 3, 1) := by decide +kernel
theorem dX12_bell_66 : decode cX12_bell 66 = .ok (.iconst 0, 1) := by decide +kernel
theorem dX12_bell_67 : decode cX12_bell 67 = .ok (.invokevirtual 51, 3) := by decide +kernel
theorem dX12_bell_70 : decode cX12_bell 70 = .ok (.iinc 3 1, 3) := by decide +kernel
theorem dX12_bell_73 : decode cX12_bell 73 = .ok (.goto (-20), 3) := by decide +kernel
theorem dX12_bell_76 : decode cX12_bell 76 = .ok (.aload_n 0, 1) := by decide +kernel
theorem dX12_bell_77 : decode cX12_bell 77 = .ok (.iload_n 1, 1) := by decide +kernel
theorem dX12_bell_78 : decode cX12_bell 78 = .ok (.invokevirtual 175, 3) := by decide +kernel
theorem dX12_bell_81 : decode cX12_bell 81 = .ok (.iload_n 2, 1) := by decide +kernel
theorem dX12_bell_82 : decode cX12_bell 82 = .ok (.aload_n 0, 1) := by decide +kernel
theorem dX12_bell_83 : decode cX12_bell 83 = .ok (.invokevirtual 179, 3) := by decide +kernel
theorem dX12_bell_86 : decode cX12_bell 86 = .ok (.isub, 1) := by decide +kernel
theorem dX12_bell_87 : decode cX12_bell 87 = .ok (.istore_n 2, 1) := by decide +kernel
theorem dX12_bell_88 : decode cX12_bell 88 = .ok (.aload_n 0, 1) := by decide +kernel
theorem dX12_bell_89 : decode cX12_bell 89 = .ok (.aload_n 0, 1) := by decide +kernel
theorem dX12_bell_90 : decode cX12_bell 90 = .ok (.getfield 16, 3) := by decide +kernel
theorem dX12_bell_93 : decode cX12_bell 93 = .ok (.aload_n 0, 1) := by decide +kernel
theorem dX12_bell_94 : decode cX12_bell 94 = .ok (.getfield 7, 3) := by decide +kernel
theorem dX12_bell_97 : decode cX12_bell 97 = .ok (.invokevirtual 150, 3) := by decide +kernel
theorem dX12_bell_100 : decode cX12_bell 100 = .ok (.iload_n 2, 1) := by decide +kernel
theorem dX12_bell_101 : decode cX12_bell 101 = .ok (.ireturn, 1) := by decide +kernel
theorem dX12_divisor_0 : decode cX12_divisor 0 = .ok (.iload_n 0, 1) := by decide +kernel
theorem dX12_divisor_1 : decode cX12_divisor 1 = .ok (.istore_n 2, 1) := by decide +kernel
theorem dX12_divisor_2 : decode cX12_divisor 2 = .ok (.iload_n 1, 1) := by decide +kernel
theorem dX12_divisor_3 : decode cX12_divisor 3 = .ok (.istore_n 3, 1) := by decide +kernel
theorem dX12_divisor_4 : decode cX12_divisor 4 = .ok (.iload_n 3, 1) := by decide +kernel
theorem dX12_divisor_5 : decode cX12_divisor 5 = .ok (.ifCond .eq 16, 3) := by decide +kernel
theorem dX12_divisor_8 : decode cX12_divisor 8 = .ok (.iload_n 2, 1) := by decide +kernel
theorem dX12_divisor_9 : decode cX12_divisor 9 = .ok (.iload_n 3, 1) := by decide +kernel
theorem dX12_divisor_10 : decode cX12_divisor 10 = .ok (.irem, 1) := by decide +kernel
theorem dX12_divisor_11 : decode cX12_divisor 11 = .ok (.istore 4, 2) := by decide +kernel
theorem dX12_divisor_13 : decode cX12_divisor 13 = .ok (.iload_n 3, 1) := by decide +kernel
theorem dX12_divisor_14 : decode cX12_divisor 14 = .ok (.istore_n 2, 1) := by decide +kernel
theorem dX12_divisor_15 : decode cX12_divisor 15 = .ok (.iload 4, 2) := by decide +kernel
theorem dX12_divisor_17 : decode cX12_divisor 17 = .ok (.istore_n 3, 1) := by decide +kernel
theorem dX12_divisor_18 : decode cX12_divisor 18 = .ok (.goto (-14), 3) := by decide +kernel
theorem dX12_divisor_21 : decode cX12_divisor 21 = .ok (.iload_n 2, 1) := by decide +kernel
theorem dX12_divisor_22 : decode cX12_divisor 22 = .ok (.ireturn, 1) := by decide +kernel
theorem dX12_odds_0 : decode cX12_odds 0 = .ok (.aload_n 0, 1) := by decide +kernel
theorem dX12_odds_1 : decode cX12_odds 1 = .ok (.iload_n 1, 1) := by decide +kernel
theorem dX12_odds_2 : decode cX12_odds 2 = .ok (.invokevirtual 55, 3) := by decide +kernel
theorem dX12_odds_5 : decode cX12_odds 5 = .ok (.ifCond .eq 34, 3) := by decide +kernel
theorem dX12_odds_8 : decode cX12_odds 8 = .ok (.iload_n 2, 1) := by decide +kernel
theorem dX12_odds_9 : decode cX12_odds 9 = .ok (.iconst 1, 1) := by decide +kernel
theorem dX12_odds_10 : decode cX12_odds 10 = .ok (.sipush 999, 3) := by decide +kernel
theorem dX12_odds_13 : decode cX12_odds 13 = .ok (.invokestatic 41, 3) := by decide +kernel
theorem dX12_odds_16 : decode cX12_odds 16 = .ok (.ifCond .eq 23, 3) := by decide +kernel
theorem dX12_odds_19 : decode cX12_odds 19 = .ok (.iload_n 3, 1) := by decide +kernel
theorem dX12_odds_20 : decode cX12_odds 20 = .ok (.iconst 0, 1) := by decide +kernel
theorem dX12_odds_21 : decode cX12_odds 21 = .ok (.bipush 60, 2) := by decide +kernel
theorem dX12_odds_23 : decode cX12_odds 23 = .ok (.invokestatic 41, 3) := by decide +kernel
theorem dX12_odds_26 : decode cX12_odds 26 = .ok (.ifCond .eq 13, 3) := by decide +kernel
theorem dX12_odds_29 : decode cX12_odds 29 = .ok (.iload 4, 2) := by decide +kernel
theorem dX12_odds_31 : decode cX12_odds 31 = .ok (.iconst 0, 1) := by decide +kernel
theorem dX12_odds_32 : decode cX12_odds 32 = .ok (.iconst 1, 1) := by decide +kernel
theorem dX12_odds_33 : decode cX12_odds 33 = .ok (.invokestatic 41, 3) := by decide +kernel
theorem dX12_odds_36 : decode cX12_odds 36 = .ok (.ifCond .ne 10, 3) := by decide +kernel
theorem dX12_odds_39 : decode cX12_odds 39 = .ok (.aload_n 0, 1) := by decide +kernel
theorem dX12_odds_40 : decode cX12_odds 40 = .ok (.ldc 45, 2) := by decide +kernel
theorem dX12_odds_42 : decode cX12_odds 42 = .ok (.invokevirtual 46, 3) := by decide +kernel
theorem dX12_odds_45 : decode cX12_odds 45 = .ok (.ireturn, 1) := by decide +kernel
theorem dX12_odds_46 : decode cX12_odds 46 = .ok (.iconst 0, 1) := by decide +kernel
theorem dX12_odds_47 : decode cX12_odds 47 = .ok (.istore 5, 2) := by decide +kernel
theorem dX12_odds_49 : decode cX12_odds 49 = .ok (.aload_n 0, 1) := by decide +kernel
theorem dX12_odds_50 : decode cX12_odds 50 = .ok (.aload_n 0, 1) := by decide +kernel
theorem dX12_odds_51 : decode cX12_odds 51 = .ok (.getfield 7, 3) := by decide +kernel
theorem dX12_odds_54 : decode cX12_odds 54 = .ok (.aload_n 0, 1) := by decide +kernel
theorem dX12_odds_55 : decode cX12_odds 55 = .ok (.getfield 16, 3) := by decide +kernel
theorem dX12_odds_58 : decode cX12_odds 58 = .ok (.invokevirtual 150, 3) := by decide +kernel
theorem dX12_odds_61 : decode cX12_odds 61 = .ok (.iconst 0, 1) := by decide +kernel
theorem dX12_odds_62 : decode cX12_odds 62 = .ok (.istore 6, 2) := by decide +kernel
theorem dX12_odds_64 : decode cX12_odds 64 = .ok (.iload 6, 2) := by decide +kernel
theorem dX12_odds_66 : decode cX12_odds 66 = .ok (.bipush 10, 2) := by decide +kernel
theorem dX12_odds_68 : decode cX12_odds 68 = .ok (.if_icmp .ge 55, 3) := by decide +kernel
theorem dX12_odds_71 : decode cX12_odds 71 = .ok (.aload_n 0, 1) := by decide +kernel
theorem dX12_odds_72 : decode cX12_odds 72 = .ok (.getfield 7, 3) := by decide +kernel
theorem dX12_odds_75 : decode cX12_odds 75 = .ok (.bipush 7, 2) := by decide +kernel
theorem dX12_odds_77 : decode cX12_odds 77 = .ok (.iload 6, 2) := by decide +kernel
theorem dX12_odds_79 : decode cX12_odds 79 = .ok (.iastore, 1) := by decide +kernel
theorem dX12_odds_80 : decode cX12_odds 80 = .ok (.aload_n 0, 1) := by decide +kernel
theorem dX12_odds_81 : decode cX12_odds 81 = .ok (.iload_n 3, 1) := by decide +kernel
theorem dX12_odds_82 : decode cX12_odds 82 = .ok (.invokevirtual 175, 3) := by decide +kernel
theorem dX12_odds_85 : decode cX12_odds 85 = .ok (.iload 5, 2) := by decide +kernel
theorem dX12_odds_87 : decode cX12_odds 87 = .ok (.aload_n 0, 1) := by decide +kernel
theorem dX12_odds_88 : decode cX12_odds 88 = .ok (.iload_n 1, 1) := by decide +kernel
theorem dX12_odds_89 : decode cX12_odds 89 = .ok (.iconst 2, 1) := by decide +kernel
theorem dX12_odds_90 : decode cX12_odds 90 = .ok (.invokevirtual 59, 3) := by decide +kernel
theorem dX12_odds_93 : decode cX12_odds 93 = .ok (.iload_n 2, 1) := by decide +kernel
theorem dX12_odds_94 : decode cX12_odds 94 = .ok (.if_icmp .ge 7, 3) := by decide +kernel
theorem dX12_odds_97 : decode cX12_odds 97 = .ok (.iconst 1, 1) := by decide +kernel
theorem dX12_odds_98 : decode cX12_odds 98 = .ok (.goto 4, 3) := by decide +kernel
theorem dX12_odds_101 : decode cX12_odds 101 = .ok (.iconst 0, 1) := by decide +kernel
theorem dX12_odds_102 : decode cX12_odds 102 = .ok (.iadd, 1) := by decide +kernel
theorem dX12_odds_103 : decode cX12_odds 103 = .ok (.istore 5, 2) := by decide +kernel
theorem dX12_odds_105 : decode cX12_odds 105 = .ok (.aload_n 0, 1) := by decide +kernel
theorem dX12_odds_106 : decode cX12_odds 106 = .ok (.aload_n 0, 1) := by decide +kernel
theorem dX12_odds_107 : decode cX12_odds 107 = .ok (.getfield 16, 3) := by decide +kernel
theorem dX12_odds_110 : decode cX12_odds 110 = .ok (.aload_n 0, 1) := by decide +kernel
theorem dX12_odds_111 : decode cX12_odds 111 = .ok (.getfield 7, 3) := by decide +kernel
theorem dX12_odds_114 : decode cX12_odds 114 = .ok (.invokevirtual 150, 3) := by decide +kernel
theorem dX12_odds_117 : decode cX12_odds 117 = .ok (.iinc 6 1, 3) := by decide +kernel
theorem dX12_odds_120 : decode cX12_odds 120 = .ok (.goto (-56), 3) := by decide +kernel
theorem dX12_odds_123 : decode cX12_odds 123 = .ok (.iload 5, 2) := by decide +kernel
theorem dX12_odds_125 : decode cX12_odds 125 = .ok (.bipush 10, 2) := by decide +kernel
theorem dX12_odds_127 : decode cX12_odds 127 = .ok (.invokestatic 209, 3) := by decide +kernel
theorem dX12_odds_130 : decode cX12_odds 130 = .ok (.istore 6, 2) := by decide +kernel
theorem dX12_odds_132 : decode cX12_odds 132 = .ok (.iload 4, 2) := by decide +kernel
theorem dX12_odds_134 : decode cX12_odds 134 = .ok (.ifCond .ne 11, 3) := by decide +kernel
theorem dX12_odds_137 : decode cX12_odds 137 = .ok (.iload 5, 2) := by decide +kernel
theorem dX12_odds_139 : decode cX12_odds 139 = .ok (.iload 6, 2) := by decide +kernel
theorem dX12_odds_141 : decode cX12_odds 141 = .ok (.idiv, 1) := by decide +kernel
theorem dX12_odds_142 : decode cX12_odds 142 = .ok (.goto 8, 3) := by decide +kernel
theorem dX12_odds_145 : decode cX12_odds 145 = .ok (.bipush 10, 2) := by decide +kernel
theorem dX12_odds_147 : decode cX12_odds 147 = .ok (.iload 6, 2) := by decide +kernel
theorem dX12_odds_149 : decode cX12_odds 149 = .ok (.idiv, 1) := by decide +kernel
theorem dX12_odds_150 : decode cX12_odds 150 = .ok (.ireturn, 1) := by decide +kernel
theorem dX12_seed_0 : decode cX12_seed 0 = .ok (.aload_n 0, 1) := by decide +kernel
theorem dX12_seed_1 : decode cX12_seed 1 = .ok (.getfield 7, 3) := by decide +kernel
theorem dX12_seed_4 : decode cX12_seed 4 = .ok (.iconst 1, 1) := by decide +kernel
theorem dX12_seed_5 : decode cX12_seed 5 = .ok (.iaload, 1) := by decide +kernel
theorem dX12_seed_6 : decode cX12_seed 6 = .ok (.istore_n 2, 1) := by decide +kernel
theorem dX12_seed_7 : decode cX12_seed 7 = .ok (.aload_n 0, 1) := by decide +kernel
theorem dX12_seed_8 : decode cX12_seed 8 = .ok (.getfield 7, 3) := by decide +kernel
theorem dX12_seed_11 : decode cX12_seed 11 = .ok (.iconst 1, 1) := by decide +kernel
theorem dX12_seed_12 : decode cX12_seed 12 = .ok (.iload_n 1, 1) := by decide +kernel
theorem dX12_seed_13 : decode cX12_seed 13 = .ok (.iastore, 1) := by decide +kernel
theorem dX12_seed_14 : decode cX12_seed 14 = .ok (.iload_n 2, 1) := by decide +kernel
theorem dX12_seed_15 : decode cX12_seed 15 = .ok (.ireturn, 1) := by decide +kernel
theorem dX12_ran_0 : decode cX12_ran 0 = .ok (.aload_n 0, 1) := by decide +kernel
theorem dX12_ran_1 : decode cX12_ran 1 = .ok (.getfield 212, 3) := by decide +kernel
theorem dX12_ran_4 : decode cX12_ran 4 = .ok (.bipush 40, 2) := by decide +kernel
theorem dX12_ran_6 : decode cX12_ran 6 = .ok (.if_icmp .ge 23, 3) := by decide +kernel
theorem dX12_ran_9 : decode cX12_ran 9 = .ok (.aload_n 0, 1) := by decide +kernel
theorem dX12_ran_10 : decode cX12_ran 10 = .ok (.getfield 37, 3) := by decide +kernel
theorem dX12_ran_13 : decode cX12_ran 13 = .ok (.aload_n 0, 1) := by decide +kernel
theorem dX12_ran_14 : decode cX12_ran 14 = .ok (.getfield 212, 3) := by decide +kernel
theorem dX12_ran_17 : decode cX12_ran 17 = .ok (.iload_n 1, 1) := by decide +kernel
theorem dX12_ran_18 : decode cX12_ran 18 = .ok (.iastore, 1) := by decide +kernel
theorem dX12_ran_19 : decode cX12_ran 19 = .ok (.aload_n 0, 1) := by decide +kernel
theorem dX12_ran_20 : decode cX12_ran 20 = .ok (.dup, 1) := by decide +kernel
theorem dX12_ran_21 : decode cX12_ran 21 = .ok (.getfield 212, 3) := by decide +kernel
theorem dX12_ran_24 : decode cX12_ran 24 = .ok (.iconst 1, 1) := by decide +kernel
theorem dX12_ran_25 : decode cX12_ran 25 = .ok (.iadd, 1) := by decide +kernel
theorem dX12_ran_26 : decode cX12_ran 26 = .ok (.putfield 212, 3) := by decide +kernel
theorem dX12_ran_29 : decode cX12_ran 29 = .ok (.return_, 1) := by decide +kernel
theorem dX12_fallsIn_0 : decode cX12_fallsIn 0 = .ok (.iload_n 1, 1) := by decide +kernel
theorem dX12_fallsIn_1 : decode cX12_fallsIn 1 = .ok (.ifCond .ne 16, 3) := by decide +kernel
theorem dX12_fallsIn_4 : decode cX12_fallsIn 4 = .ok (.aload_n 0, 1) := by decide +kernel
theorem dX12_fallsIn_5 : decode cX12_fallsIn 5 = .ok (.bipush 10, 2) := by decide +kernel
theorem dX12_fallsIn_7 : decode cX12_fallsIn 7 = .ok (.invokevirtual 215, 3) := by decide +kernel
theorem dX12_fallsIn_10 : decode cX12_fallsIn 10 = .ok (.iload_n 2, 1) := by decide +kernel
theorem dX12_fallsIn_11 : decode cX12_fallsIn 11 = .ok (.aload_n 0, 1) := by decide +kernel
theorem dX12_fallsIn_12 : decode cX12_fallsIn 12 = .ok (.getfield 218, 3) := by decide +kernel
theorem dX12_fallsIn_15 : decode cX12_fallsIn 15 = .ok (.iadd, 1) := by decide +kernel
theorem dX12_fallsIn_16 : decode cX12_fallsIn 16 = .ok (.ireturn, 1) := by decide +kernel
theorem dX12_fallsIn_17 : decode cX12_fallsIn 17 = .ok (.iload_n 1, 1) := by decide +kernel
theorem dX12_fallsIn_18 : decode cX12_fallsIn 18 = .ok (.iconst 1, 1) := by decide +kernel
theorem dX12_fallsIn_19 : decode cX12_fallsIn 19 = .ok (.if_icmp .ne 18, 3) := by decide +kernel
theorem dX12_fallsIn_22 : decode cX12_fallsIn 22 = .ok (.aload_n 0, 1) := by decide +kernel
theorem dX12_fallsIn_23 : decode cX12_fallsIn 23 = .ok (.bipush 20, 2) := by decide +kernel
theorem dX12_fallsIn_25 : decode cX12_fallsIn 25 = .ok (.invokevirtual 215, 3) := by decide +kernel
theorem dX12_fallsIn_28 : decode cX12_fallsIn 28 = .ok (.aload_n 0, 1) := by decide +kernel
theorem dX12_fallsIn_29 : decode cX12_fallsIn 29 = .ok (.iconst 0, 1) := by decide +kernel
theorem dX12_fallsIn_30 : decode cX12_fallsIn 30 = .ok (.iload_n 2, 1) := by decide +kernel
theorem dX12_fallsIn_31 : decode cX12_fallsIn 31 = .ok (.invokevirtual 221, 3) := by decide +kernel
theorem dX12_fallsIn_34 : decode cX12_fallsIn 34 = .ok (.iconst 3, 1) := by decide +kernel
theorem dX12_fallsIn_35 : decode cX12_fallsIn 35 = .ok (.imul, 1) := by decide +kernel
theorem dX12_fallsIn_36 : decode cX12_fallsIn 36 = .ok (.ireturn, 1) := by decide +kernel
theorem dX12_fallsIn_37 : decode cX12_fallsIn 37 = .ok (.aload_n 0, 1) := by decide +kernel
theorem dX12_fallsIn_38 : decode cX12_fallsIn 38 = .ok (.iload_n 1, 1) := by decide +kernel
theorem dX12_fallsIn_39 : decode cX12_fallsIn 39 = .ok (.invokestatic 73, 3) := by decide +kernel
theorem dX12_fallsIn_42 : decode cX12_fallsIn 42 = .ok (.iload_n 2, 1) := by decide +kernel
theorem dX12_fallsIn_43 : decode cX12_fallsIn 43 = .ok (.invokevirtual 221, 3) := by decide +kernel
theorem dX12_fallsIn_46 : decode cX12_fallsIn 46 = .ok (.ireturn, 1) := by decide +kernel
theorem dX12_sweepsIn_0 : decode cX12_sweepsIn 0 = .ok (.iload_n 1, 1) := by decide +kernel
theorem dX12_sweepsIn_1 : decode cX12_sweepsIn 1 = .ok (.ifCond .ne 16, 3) := by decide +kernel
theorem dX12_sweepsIn_4 : decode cX12_sweepsIn 4 = .ok (.aload_n 0, 1) := by decide +kernel
theorem dX12_sweepsIn_5 : decode cX12_sweepsIn 5 = .ok (.bipush 12, 2) := by decide +kernel
theorem dX12_sweepsIn_7 : decode cX12_sweepsIn 7 = .ok (.invokevirtual 215, 3) := by decide +kernel
theorem dX12_sweepsIn_10 : decode cX12_sweepsIn 10 = .ok (.iload_n 2, 1) := by decide +kernel
theorem dX12_sweepsIn_11 : decode cX12_sweepsIn 11 = .ok (.aload_n 0, 1) := by decide +kernel
theorem dX12_sweepsIn_12 : decode cX12_sweepsIn 12 = .ok (.getfield 224, 3) := by decide +kernel
theorem dX12_sweepsIn_15 : decode cX12_sweepsIn 15 = .ok (.isub, 1) := by decide +kernel
theorem dX12_sweepsIn_16 : decode cX12_sweepsIn 16 = .ok (.ireturn, 1) := by decide +kernel
theorem dX12_sweepsIn_17 : decode cX12_sweepsIn 17 = .ok (.iload_n 1, 1) := by decide +kernel
theorem dX12_sweepsIn_18 : decode cX12_sweepsIn 18 = .ok (.iconst 3, 1) := by decide +kernel
theorem dX12_sweepsIn_19 : decode cX12_sweepsIn 19 = .ok (.if_icmp .ne 17, 3) := by decide +kernel
theorem dX12_sweepsIn_22 : decode cX12_sweepsIn 22 = .ok (.aload_n 0, 1) := by decide +kernel
theorem dX12_sweepsIn_23 : decode cX12_sweepsIn 23 = .ok (.bipush 40, 2) := by decide +kernel
theorem dX12_sweepsIn_25 : decode cX12_sweepsIn 25 = .ok (.invokevirtual 215, 3) := by decide +kernel
theorem dX12_sweepsIn_28 : decode cX12_sweepsIn 28 = .ok (.aload_n 0, 1) := by decide +kernel
theorem dX12_sweepsIn_29 : decode cX12_sweepsIn 29 = .ok (.iconst 0, 1) := by decide +kernel
theorem dX12_sweepsIn_30 : decode cX12_sweepsIn 30 = .ok (.iload_n 2, 1) := by decide +kernel
theorem dX12_sweepsIn_31 : decode cX12_sweepsIn 31 = .ok (.invokevirtual 227, 3) := by decide +kernel
theorem dX12_sweepsIn_34 : decode cX12_sweepsIn 34 = .ok (.ineg, 1) := by decide +kernel
theorem dX12_sweepsIn_35 : decode cX12_sweepsIn 35 = .ok (.ireturn, 1) := by decide +kernel
theorem dX12_sweepsIn_36 : decode cX12_sweepsIn 36 = .ok (.iload_n 1, 1) := by decide +kernel
theorem dX12_sweepsIn_37 : decode cX12_sweepsIn 37 = .ok (.bipush 6, 2) := by decide +kernel
theorem dX12_sweepsIn_39 : decode cX12_sweepsIn 39 = .ok (.if_icmp .ne 21, 3) := by decide +kernel
theorem dX12_sweepsIn_42 : decode cX12_sweepsIn 42 = .ok (.aload_n 0, 1) := by decide +kernel
theorem dX12_sweepsIn_43 : decode cX12_sweepsIn 43 = .ok (.bipush 70, 2) := by decide +kernel
theorem dX12_sweepsIn_45 : decode cX12_sweepsIn 45 = .ok (.invokevirtual 215, 3) := by decide +kernel
theorem dX12_sweepsIn_48 : decode cX12_sweepsIn 48 = .ok (.aload_n 0, 1) := by decide +kernel
theorem dX12_sweepsIn_49 : decode cX12_sweepsIn 49 = .ok (.iconst 3, 1) := by decide +kernel
theorem dX12_sweepsIn_50 : decode cX12_sweepsIn 50 = .ok (.iload_n 2, 1) := by decide +kernel
theorem dX12_sweepsIn_51 : decode cX12_sweepsIn 51 = .ok (.invokevirtual 227, 3) := by decide +kernel
theorem dX12_sweepsIn_54 : decode cX12_sweepsIn 54 = .ok (.aload_n 0, 1) := by decide +kernel
theorem dX12_sweepsIn_55 : decode cX12_sweepsIn 55 = .ok (.getfield 218, 3) := by decide +kernel
theorem dX12_sweepsIn_58 : decode cX12_sweepsIn 58 = .ok (.ixor, 1) := by decide +kernel
theorem dX12_sweepsIn_59 : decode cX12_sweepsIn 59 = .ok (.ireturn, 1) := by decide +kernel
theorem dX12_sweepsIn_60 : decode cX12_sweepsIn 60 = .ok (.aload_n 0, 1) := by decide +kernel
theorem dX12_sweepsIn_61 : decode cX12_sweepsIn 61 = .ok (.iload_n 1, 1) := by decide +kernel
theorem dX12_sweepsIn_62 : decode cX12_sweepsIn 62 = .ok (.invokestatic 73, 3) := by decide +kernel
theorem dX12_sweepsIn_65 : decode cX12_sweepsIn 65 = .ok (.iload_n 2, 1) := by decide +kernel
theorem dX12_sweepsIn_66 : decode cX12_sweepsIn 66 = .ok (.invokevirtual 227, 3) := by decide +kernel
theorem dX12_sweepsIn_69 : decode cX12_sweepsIn 69 = .ok (.ireturn, 1) := by decide +kernel
theorem dX12_movesIn_0 : decode cX12_movesIn 0 = .ok (.iload_n 1, 1) := by decide +kernel
theorem dX12_movesIn_1 : decode cX12_movesIn 1 = .ok (.ifCond .ne 21, 3) := by decide +kernel
theorem dX12_movesIn_4 : decode cX12_movesIn 4 = .ok (.aload_n 0, 1) := by decide +kernel
theorem dX12_movesIn_5 : decode cX12_movesIn 5 = .ok (.bipush 11, 2) := by decide +kernel
theorem dX12_movesIn_7 : decode cX12_movesIn 7 = .ok (.invokevirtual 215, 3) := by decide +kernel
theorem dX12_movesIn_10 : decode cX12_movesIn 10 = .ok (.aload_n 0, 1) := by decide +kernel
theorem dX12_movesIn_11 : decode cX12_movesIn 11 = .ok (.aload_n 0, 1) := by decide +kernel
theorem dX12_movesIn_12 : decode cX12_movesIn 12 = .ok (.getfield 230, 3) := by decide +kernel
theorem dX12_movesIn_15 : decode cX12_movesIn 15 = .ok (.iload_n 2, 1) := by decide +kernel
theorem dX12_movesIn_16 : decode cX12_movesIn 16 = .ok (.invokevirtual 221, 3) := by decide +kernel
theorem dX12_movesIn_19 : decode cX12_movesIn 19 = .ok (.iconst 2, 1) := by decide +kernel
theorem dX12_movesIn_20 : decode cX12_movesIn 20 = .ok (.imul, 1) := by decide +kernel
theorem dX12_movesIn_21 : decode cX12_movesIn 21 = .ok (.ireturn, 1) := by decide +kernel
theorem dX12_movesIn_22 : decode cX12_movesIn 22 = .ok (.iload_n 1, 1) := by decide +kernel
theorem dX12_movesIn_23 : decode cX12_movesIn 23 = .ok (.iconst 2, 1) := by decide +kernel
theorem dX12_movesIn_24 : decode cX12_movesIn 24 = .ok (.if_icmp .ne 28, 3) := by decide +kernel
theorem dX12_movesIn_27 : decode cX12_movesIn 27 = .ok (.aload_n 0, 1) := by decide +kernel
theorem dX12_movesIn_28 : decode cX12_movesIn 28 = .ok (.bipush 30, 2) := by decide +kernel
theorem dX12_movesIn_30 : decode cX12_movesIn 30 = .ok (.invokevirtual 215, 3) := by decide +kernel
theorem dX12_movesIn_33 : decode cX12_movesIn 33 = .ok (.aload_n 0, 1) := by decide +kernel
theorem dX12_movesIn_34 : decode cX12_movesIn 34 = .ok (.iconst 0, 1) := by decide +kernel
theorem dX12_movesIn_35 : decode cX12_movesIn 35 = .ok (.iload_n 2, 1) := by decide +kernel
theorem dX12_movesIn_36 : decode cX12_movesIn 36 = .ok (.invokevirtual 233, 3) := by decide +kernel
theorem dX12_movesIn_39 : decode cX12_movesIn 39 = .ok (.istore_n 3, 1) := by decide +kernel
theorem dX12_movesIn_40 : decode cX12_movesIn 40 = .ok (.iload_n 3, 1) := by decide +kernel
theorem dX12_movesIn_41 : decode cX12_movesIn 41 = .ok (.aload_n 0, 1) := by decide +kernel
theorem dX12_movesIn_42 : decode cX12_movesIn 42 = .ok (.aload_n 0, 1) := by decide +kernel
theorem dX12_movesIn_43 : decode cX12_movesIn 43 = .ok (.getfield 230, 3) := by decide +kernel
theorem dX12_movesIn_46 : decode cX12_movesIn 46 = .ok (.iconst 1, 1) := by decide +kernel
theorem dX12_movesIn_47 : decode cX12_movesIn 47 = .ok (.invokevirtual 227, 3) := by decide +kernel
theorem dX12_movesIn_50 : decode cX12_movesIn 50 = .ok (.isub, 1) := by decide +kernel
theorem dX12_movesIn_51 : decode cX12_movesIn 51 = .ok (.ireturn, 1) := by decide +kernel
theorem dX12_movesIn_52 : decode cX12_movesIn 52 = .ok (.iload_n 1, 1) := by decide +kernel
theorem dX12_movesIn_53 : decode cX12_movesIn 53 = .ok (.iconst 5, 1) := by decide +kernel
theorem dX12_movesIn_54 : decode cX12_movesIn 54 = .ok (.if_icmp .ne 18, 3) := by decide +kernel
theorem dX12_movesIn_57 : decode cX12_movesIn 57 = .ok (.aload_n 0, 1) := by decide +kernel
theorem dX12_movesIn_58 : decode cX12_movesIn 58 = .ok (.bipush 60, 2) := by decide +kernel
theorem dX12_movesIn_60 : decode cX12_movesIn 60 = .ok (.invokevirtual 215, 3) := by decide +kernel
theorem dX12_movesIn_63 : decode cX12_movesIn 63 = .ok (.aload_n 0, 1) := by decide +kernel
theorem dX12_movesIn_64 : decode cX12_movesIn 64 = .ok (.iconst 2, 1) := by decide +kernel
theorem dX12_movesIn_65 : decode cX12_movesIn 65 = .ok (.iload_n 2, 1) := by decide +kernel
theorem dX12_movesIn_66 : decode cX12_movesIn 66 = .ok (.iconst 1, 1) := by decide +kernel
theorem dX12_movesIn_67 : decode cX12_movesIn 67 = .ok (.iadd, 1) := by decide +kernel
theorem dX12_movesIn_68 : decode cX12_movesIn 68 = .ok (.invokevirtual 233, 3) := by decide +kernel
theorem dX12_movesIn_71 : decode cX12_movesIn 71 = .ok (.ireturn, 1) := by decide +kernel
theorem dX12_movesIn_72 : decode cX12_movesIn 72 = .ok (.aload_n 0, 1) := by decide +kernel
theorem dX12_movesIn_73 : decode cX12_movesIn 73 = .ok (.iload_n 1, 1) := by decide +kernel
theorem dX12_movesIn_74 : decode cX12_movesIn 74 = .ok (.invokestatic 73, 3) := by decide +kernel
theorem dX12_movesIn_77 : decode cX12_movesIn 77 = .ok (.iload_n 2, 1) := by decide +kernel
theorem dX12_movesIn_78 : decode cX12_movesIn 78 = .ok (.invokevirtual 233, 3) := by decide +kernel
theorem dX12_movesIn_81 : decode cX12_movesIn 81 = .ok (.ireturn, 1) := by decide +kernel
theorem dX12_blocksIn_0 : decode cX12_blocksIn 0 = .ok (.iload_n 1, 1) := by decide +kernel
theorem dX12_blocksIn_1 : decode cX12_blocksIn 1 = .ok (.ifCond .ne 31, 3) := by decide +kernel
theorem dX12_blocksIn_4 : decode cX12_blocksIn 4 = .ok (.aload_n 0, 1) := by decide +kernel
theorem dX12_blocksIn_5 : decode cX12_blocksIn 5 = .ok (.bipush 13, 2) := by decide +kernel
theorem dX12_blocksIn_7 : decode cX12_blocksIn 7 = .ok (.invokevirtual 215, 3) := by decide +kernel
theorem dX12_blocksIn_10 : decode cX12_blocksIn 10 = .ok (.aload_n 0, 1) := by decide +kernel
theorem dX12_blocksIn_11 : decode cX12_blocksIn 11 = .ok (.aload_n 0, 1) := by decide +kernel
theorem dX12_blocksIn_12 : decode cX12_blocksIn 12 = .ok (.getfield 230, 3) := by decide +kernel
theorem dX12_blocksIn_15 : decode cX12_blocksIn 15 = .ok (.iload_n 2, 1) := by decide +kernel
theorem dX12_blocksIn_16 : decode cX12_blocksIn 16 = .ok (.invokevirtual 233, 3) := by decide +kernel
theorem dX12_blocksIn_19 : decode cX12_blocksIn 19 = .ok (.istore_n 3, 1) := by decide +kernel
theorem dX12_blocksIn_20 : decode cX12_blocksIn 20 = .ok (.iload_n 3, 1) := by decide +kernel
theorem dX12_blocksIn_21 : decode cX12_blocksIn 21 = .ok (.aload_n 0, 1) := by decide +kernel
theorem dX12_blocksIn_22 : decode cX12_blocksIn 22 = .ok (.aload_n 0, 1) := by decide +kernel
theorem dX12_blocksIn_23 : decode cX12_blocksIn 23 = .ok (.getfield 230, 3) := by decide +kernel
theorem dX12_blocksIn_26 : decode cX12_blocksIn 26 = .ok (.iload_n 2, 1) := by decide +kernel
theorem dX12_blocksIn_27 : decode cX12_blocksIn 27 = .ok (.invokevirtual 227, 3) := by decide +kernel
theorem dX12_blocksIn_30 : decode cX12_blocksIn 30 = .ok (.ixor, 1) := by decide +kernel
theorem dX12_blocksIn_31 : decode cX12_blocksIn 31 = .ok (.ireturn, 1) := by decide +kernel
theorem dX12_blocksIn_32 : decode cX12_blocksIn 32 = .ok (.iload_n 1, 1) := by decide +kernel
theorem dX12_blocksIn_33 : decode cX12_blocksIn 33 = .ok (.iconst 4, 1) := by decide +kernel
theorem dX12_blocksIn_34 : decode cX12_blocksIn 34 = .ok (.if_icmp .ne 28, 3) := by decide +kernel
theorem dX12_blocksIn_37 : decode cX12_blocksIn 37 = .ok (.aload_n 0, 1) := by decide +kernel
theorem dX12_blocksIn_38 : decode cX12_blocksIn 38 = .ok (.bipush 50, 2) := by decide +kernel
theorem dX12_blocksIn_40 : decode cX12_blocksIn 40 = .ok (.invokevirtual 215, 3) := by decide +kernel
theorem dX12_blocksIn_43 : decode cX12_blocksIn 43 = .ok (.aload_n 0, 1) := by decide +kernel
theorem dX12_blocksIn_44 : decode cX12_blocksIn 44 = .ok (.iconst 1, 1) := by decide +kernel
theorem dX12_blocksIn_45 : decode cX12_blocksIn 45 = .ok (.iload_n 2, 1) := by decide +kernel
theorem dX12_blocksIn_46 : decode cX12_blocksIn 46 = .ok (.invokevirtual 236, 3) := by decide +kernel
theorem dX12_blocksIn_49 : decode cX12_blocksIn 49 = .ok (.istore_n 3, 1) := by decide +kernel
theorem dX12_blocksIn_50 : decode cX12_blocksIn 50 = .ok (.iload_n 3, 1) := by decide +kernel
theorem dX12_blocksIn_51 : decode cX12_blocksIn 51 = .ok (.aload_n 0, 1) := by decide +kernel
theorem dX12_blocksIn_52 : decode cX12_blocksIn 52 = .ok (.aload_n 0, 1) := by decide +kernel
theorem dX12_blocksIn_53 : decode cX12_blocksIn 53 = .ok (.getfield 230, 3) := by decide +kernel
theorem dX12_blocksIn_56 : decode cX12_blocksIn 56 = .ok (.iconst 2, 1) := by decide +kernel
theorem dX12_blocksIn_57 : decode cX12_blocksIn 57 = .ok (.invokevirtual 221, 3) := by decide +kernel
theorem dX12_blocksIn_60 : decode cX12_blocksIn 60 = .ok (.isub, 1) := by decide +kernel
theorem dX12_blocksIn_61 : decode cX12_blocksIn 61 = .ok (.ireturn, 1) := by decide +kernel
theorem dX12_blocksIn_62 : decode cX12_blocksIn 62 = .ok (.iload_n 1, 1) := by decide +kernel
theorem dX12_blocksIn_63 : decode cX12_blocksIn 63 = .ok (.bipush 6, 2) := by decide +kernel
theorem dX12_blocksIn_65 : decode cX12_blocksIn 65 = .ok (.if_icmp .ne 28, 3) := by decide +kernel
theorem dX12_blocksIn_68 : decode cX12_blocksIn 68 = .ok (.aload_n 0, 1) := by decide +kernel
theorem dX12_blocksIn_69 : decode cX12_blocksIn 69 = .ok (.bipush 71, 2) := by decide +kernel
theorem dX12_blocksIn_71 : decode cX12_blocksIn 71 = .ok (.invokevirtual 215, 3) := by decide +kernel
theorem dX12_blocksIn_74 : decode cX12_blocksIn 74 = .ok (.aload_n 0, 1) := by decide +kernel
theorem dX12_blocksIn_75 : decode cX12_blocksIn 75 = .ok (.aload_n 0, 1) := by decide +kernel
theorem dX12_blocksIn_76 : decode cX12_blocksIn 76 = .ok (.getfield 230, 3) := by decide +kernel
theorem dX12_blocksIn_79 : decode cX12_blocksIn 79 = .ok (.iload_n 2, 1) := by decide +kernel
theorem dX12_blocksIn_80 : decode cX12_blocksIn 80 = .ok (.invokevirtual 233, 3) := by decide +kernel
theorem dX12_blocksIn_83 : decode cX12_blocksIn 83 = .ok (.istore_n 3, 1) := by decide +kernel
theorem dX12_blocksIn_84 : decode cX12_blocksIn 84 = .ok (.iload_n 3, 1) := by decide +kernel
theorem dX12_blocksIn_85 : decode cX12_blocksIn 85 = .ok (.aload_n 0, 1) := by decide +kernel
theorem dX12_blocksIn_86 : decode cX12_blocksIn 86 = .ok (.iconst 3, 1) := by decide +kernel
theorem dX12_blocksIn_87 : decode cX12_blocksIn 87 = .ok (.iload_n 2, 1) := by decide +kernel
theorem dX12_blocksIn_88 : decode cX12_blocksIn 88 = .ok (.invokevirtual 236, 3) := by decide +kernel
theorem dX12_blocksIn_91 : decode cX12_blocksIn 91 = .ok (.isub, 1) := by decide +kernel
theorem dX12_blocksIn_92 : decode cX12_blocksIn 92 = .ok (.ireturn, 1) := by decide +kernel
theorem dX12_blocksIn_93 : decode cX12_blocksIn 93 = .ok (.aload_n 0, 1) := by decide +kernel
theorem dX12_blocksIn_94 : decode cX12_blocksIn 94 = .ok (.iload_n 1, 1) := by decide +kernel
theorem dX12_blocksIn_95 : decode cX12_blocksIn 95 = .ok (.invokestatic 73, 3) := by decide +kernel
theorem dX12_blocksIn_98 : decode cX12_blocksIn 98 = .ok (.iload_n 2, 1) := by decide +kernel
theorem dX12_blocksIn_99 : decode cX12_blocksIn 99 = .ok (.invokevirtual 236, 3) := by decide +kernel
theorem dX12_blocksIn_102 : decode cX12_blocksIn 102 = .ok (.ireturn, 1) := by decide +kernel
theorem dX12_voice_0 : decode cX12_voice 0 = .ok (.aload_n 0, 1) := by decide +kernel
theorem dX12_voice_1 : decode cX12_voice 1 = .ok (.iload_n 1, 1) := by decide +kernel
theorem dX12_voice_2 : decode cX12_voice 2 = .ok (.invokevirtual 55, 3) := by decide +kernel
theorem dX12_voice_5 : decode cX12_voice 5 = .ok (.ifCond .eq 12, 3) := by decide +kernel
theorem dX12_voice_8 : decode cX12_voice 8 = .ok (.iload_n 2, 1) := by decide +kernel
theorem dX12_voice_9 : decode cX12_voice 9 = .ok (.iconst 0, 1) := by decide +kernel
theorem dX12_voice_10 : decode cX12_voice 10 = .ok (.iconst 3, 1) := by decide +kernel
theorem dX12_voice_11 : decode cX12_voice 11 = .ok (.invokestatic 41, 3) := by decide +kernel
theorem dX12_voice_14 : decode cX12_voice 14 = .ok (.ifCond .ne 10, 3) := by decide +kernel
theorem dX12_voice_17 : decode cX12_voice 17 = .ok (.aload_n 0, 1) := by decide +kernel
theorem dX12_voice_18 : decode cX12_voice 18 = .ok (.ldc 45, 2) := by decide +kernel
theorem dX12_voice_20 : decode cX12_voice 20 = .ok (.invokevirtual 46, 3) := by decide +kernel
theorem dX12_voice_23 : decode cX12_voice 23 = .ok (.ireturn, 1) := by decide +kernel
theorem dX12_voice_24 : decode cX12_voice 24 = .ok (.aload_n 0, 1) := by decide +kernel
theorem dX12_voice_25 : decode cX12_voice 25 = .ok (.iconst 0, 1) := by decide +kernel
theorem dX12_voice_26 : decode cX12_voice 26 = .ok (.putfield 212, 3) := by decide +kernel
theorem dX12_voice_29 : decode cX12_voice 29 = .ok (.aload_n 0, 1) := by decide +kernel
theorem dX12_voice_30 : decode cX12_voice 30 = .ok (.aload_n 0, 1) := by decide +kernel
theorem dX12_voice_31 : decode cX12_voice 31 = .ok (.iload_n 1, 1) := by decide +kernel
theorem dX12_voice_32 : decode cX12_voice 32 = .ok (.iconst 0, 1) := by decide +kernel
theorem dX12_voice_33 : decode cX12_voice 33 = .ok (.invokevirtual 59, 3) := by decide +kernel
theorem dX12_voice_36 : decode cX12_voice 36 = .ok (.putfield 230, 3) := by decide +kernel
theorem dX12_voice_39 : decode cX12_voice 39 = .ok (.aload_n 0, 1) := by decide +kernel
theorem dX12_voice_40 : decode cX12_voice 40 = .ok (.iload_n 1, 1) := by decide +kernel
theorem dX12_voice_41 : decode cX12_voice 41 = .ok (.putfield 218, 3) := by decide +kernel
theorem dX12_voice_44 : decode cX12_voice 44 = .ok (.aload_n 0, 1) := by decide +kernel
theorem dX12_voice_45 : decode cX12_voice 45 = .ok (.aload_n 0, 1) := by decide +kernel
theorem dX12_voice_46 : decode cX12_voice 46 = .ok (.iload_n 1, 1) := by decide +kernel
theorem dX12_voice_47 : decode cX12_voice 47 = .ok (.iconst 1, 1) := by decide +kernel
theorem dX12_voice_48 : decode cX12_voice 48 = .ok (.invokevirtual 59, 3) := by decide +kernel
theorem dX12_voice_51 : decode cX12_voice 51 = .ok (.putfield 224, 3) := by decide +kernel
theorem dX12_voice_54 : decode cX12_voice 54 = .ok (.iload_n 2, 1) := by decide +kernel
theorem dX12_voice_55 : decode cX12_voice 55 = .ok (.tableswitch 55 0 2 #[25, 35, 45], 25) := by decide +kernel
theorem dX12_voice_80 : decode cX12_voice 80 = .ok (.aload_n 0, 1) := by decide +kernel
theorem dX12_voice_81 : decode cX12_voice 81 = .ok (.aload_n 0, 1) := by decide +kernel
theorem dX12_voice_82 : decode cX12_voice 82 = .ok (.getfield 230, 3) := by decide +kernel
theorem dX12_voice_85 : decode cX12_voice 85 = .ok (.iload_n 3, 1) := by decide +kernel
theorem dX12_voice_86 : decode cX12_voice 86 = .ok (.invokevirtual 221, 3) := by decide +kernel
theorem dX12_voice_89 : decode cX12_voice 89 = .ok (.ireturn, 1) := by decide +kernel
theorem dX12_voice_90 : decode cX12_voice 90 = .ok (.aload_n 0, 1) := by decide +kernel
theorem dX12_voice_91 : decode cX12_voice 91 = .ok (.aload_n 0, 1) := by decide +kernel
theorem dX12_voice_92 : decode cX12_voice 92 = .ok (.getfield 230, 3) := by decide +kernel
theorem dX12_voice_95 : decode cX12_voice 95 = .ok (.iload_n 3, 1) := by decide +kernel
theorem dX12_voice_96 : decode cX12_voice 96 = .ok (.invokevirtual 233, 3) := by decide +kernel
theorem dX12_voice_99 : decode cX12_voice 99 = .ok (.ireturn, 1) := by decide +kernel
theorem dX12_voice_100 : decode cX12_voice 100 = .ok (.aload_n 0, 1) := by decide +kernel
theorem dX12_voice_101 : decode cX12_voice 101 = .ok (.aload_n 0, 1) := by decide +kernel
theorem dX12_voice_102 : decode cX12_voice 102 = .ok (.getfield 230, 3) := by decide +kernel
theorem dX12_voice_105 : decode cX12_voice 105 = .ok (.iload_n 3, 1) := by decide +kernel
theorem dX12_voice_106 : decode cX12_voice 106 = .ok (.invokevirtual 227, 3) := by decide +kernel
theorem dX12_voice_109 : decode cX12_voice 109 = .ok (.ireturn, 1) := by decide +kernel
theorem dX12_voice_110 : decode cX12_voice 110 = .ok (.aload_n 0, 1) := by decide +kernel
theorem dX12_voice_111 : decode cX12_voice 111 = .ok (.aload_n 0, 1) := by decide +kernel
theorem dX12_voice_112 : decode cX12_voice 112 = .ok (.getfield 230, 3) := by decide +kernel
theorem dX12_voice_115 : decode cX12_voice 115 = .ok (.iload_n 3, 1) := by decide +kernel
theorem dX12_voice_116 : decode cX12_voice 116 = .ok (.invokevirtual 236, 3) := by decide +kernel
theorem dX12_voice_119 : decode cX12_voice 119 = .ok (.ireturn, 1) := by decide +kernel
theorem dX12_trace_0 : decode cX12_trace 0 = .ok (.iload_n 1, 1) := by decide +kernel
theorem dX12_trace_1 : decode cX12_trace 1 = .ok (.iconst 0, 1) := by decide +kernel
theorem dX12_trace_2 : decode cX12_trace 2 = .ok (.aload_n 0, 1) := by decide +kernel
theorem dX12_trace_3 : decode cX12_trace 3 = .ok (.getfield 212, 3) := by decide +kernel
theorem dX12_trace_6 : decode cX12_trace 6 = .ok (.iconst 1, 1) := by decide +kernel
theorem dX12_trace_7 : decode cX12_trace 7 = .ok (.isub, 1) := by decide +kernel
theorem dX12_trace_8 : decode cX12_trace 8 = .ok (.invokestatic 41, 3) := by decide +kernel
theorem dX12_trace_11 : decode cX12_trace 11 = .ok (.ifCond .eq 12, 3) := by decide +kernel
theorem dX12_trace_14 : decode cX12_trace 14 = .ok (.aload_n 0, 1) := by decide +kernel
theorem dX12_trace_15 : decode cX12_trace 15 = .ok (.getfield 37, 3) := by decide +kernel
theorem dX12_trace_18 : decode cX12_trace 18 = .ok (.iload_n 1, 1) := by decide +kernel
theorem dX12_trace_19 : decode cX12_trace 19 = .ok (.iaload, 1) := by decide +kernel
theorem dX12_trace_20 : decode cX12_trace 20 = .ok (.goto 9, 3) := by decide +kernel
theorem dX12_trace_23 : decode cX12_trace 23 = .ok (.aload_n 0, 1) := by decide +kernel
theorem dX12_trace_24 : decode cX12_trace 24 = .ok (.ldc 189, 2) := by decide +kernel
theorem dX12_trace_26 : decode cX12_trace 26 = .ok (.invokevirtual 46, 3) := by decide +kernel
theorem dX12_trace_29 : decode cX12_trace 29 = .ok (.ireturn, 1) := by decide +kernel
theorem dX12_narrow_0 : decode cX12_narrow 0 = .ok (.iload_n 0, 1) := by decide +kernel
theorem dX12_narrow_1 : decode cX12_narrow 1 = .ok (.bipush 8, 2) := by decide +kernel
theorem dX12_narrow_3 : decode cX12_narrow 3 = .ok (.if_icmp .ne 8, 3) := by decide +kernel
theorem dX12_narrow_6 : decode cX12_narrow 6 = .ok (.iload_n 1, 1) := by decide +kernel
theorem dX12_narrow_7 : decode cX12_narrow 7 = .ok (.i2b, 1) := by decide +kernel
theorem dX12_narrow_8 : decode cX12_narrow 8 = .ok (.goto 15, 3) := by decide +kernel
theorem dX12_narrow_11 : decode cX12_narrow 11 = .ok (.iload_n 0, 1) := by decide +kernel
theorem dX12_narrow_12 : decode cX12_narrow 12 = .ok (.bipush 16, 2) := by decide +kernel
theorem dX12_narrow_14 : decode cX12_narrow 14 = .ok (.if_icmp .ne 8, 3) := by decide +kernel
theorem dX12_narrow_17 : decode cX12_narrow 17 = .ok (.iload_n 1, 1) := by decide +kernel
theorem dX12_narrow_18 : decode cX12_narrow 18 = .ok (.i2s, 1) := by decide +kernel
theorem dX12_narrow_19 : decode cX12_narrow 19 = .ok (.goto 4, 3) := by decide +kernel
theorem dX12_narrow_22 : decode cX12_narrow 22 = .ok (.iload_n 1, 1) := by decide +kernel
theorem dX12_narrow_23 : decode cX12_narrow 23 = .ok (.ireturn, 1) := by decide +kernel
theorem dX12_sheet_0 : decode cX12_sheet 0 = .ok (.iload_n 1, 1) := by decide +kernel
theorem dX12_sheet_1 : decode cX12_sheet 1 = .ok (.invokestatic 203, 3) := by decide +kernel
theorem dX12_sheet_4 : decode cX12_sheet 4 = .ok (.ifCond .eq 25, 3) := by decide +kernel
theorem dX12_sheet_7 : decode cX12_sheet 7 = .ok (.iload_n 2, 1) := by decide +kernel
theorem dX12_sheet_8 : decode cX12_sheet 8 = .ok (.ifCond .eq 28, 3) := by decide +kernel
theorem dX12_sheet_11 : decode cX12_sheet 11 = .ok (.iload_n 2, 1) := by decide +kernel
theorem dX12_sheet_12 : decode cX12_sheet 12 = .ok (.bipush 8, 2) := by decide +kernel
theorem dX12_sheet_14 : decode cX12_sheet 14 = .ok (.if_icmp .eq 22, 3) := by decide +kernel
theorem dX12_sheet_17 : decode cX12_sheet 17 = .ok (.iload_n 2, 1) := by decide +kernel
theorem dX12_sheet_18 : decode cX12_sheet 18 = .ok (.bipush 16, 2) := by decide +kernel
theorem dX12_sheet_20 : decode cX12_sheet 20 = .ok (.if_icmp .eq 16, 3) := by decide +kernel
theorem dX12_sheet_23 : decode cX12_sheet 23 = .ok (.iload_n 2, 1) := by decide +kernel
theorem dX12_sheet_24 : decode cX12_sheet 24 = .ok (.bipush 32, 2) := by decide +kernel
theorem dX12_sheet_26 : decode cX12_sheet 26 = .ok (.if_icmp .eq 10, 3) := by decide +kernel
theorem dX12_sheet_29 : decode cX12_sheet 29 = .ok (.aload_n 0, 1) := by decide +kernel
theorem dX12_sheet_30 : decode cX12_sheet 30 = .ok (.ldc 45, 2) := by decide +kernel
theorem dX12_sheet_32 : decode cX12_sheet 32 = .ok (.invokevirtual 46, 3) := by decide +kernel
theorem dX12_sheet_35 : decode cX12_sheet 35 = .ok (.ireturn, 1) := by decide +kernel
theorem dX12_sheet_36 : decode cX12_sheet 36 = .ok (.iload_n 2, 1) := by decide +kernel
theorem dX12_sheet_37 : decode cX12_sheet 37 = .ok (.ifCond .eq 14, 3) := by decide +kernel
theorem dX12_sheet_40 : decode cX12_sheet 40 = .ok (.iload_n 3, 1) := by decide +kernel
theorem dX12_sheet_41 : decode cX12_sheet 41 = .ok (.ifCond .ge 10, 3) := by decide +kernel
theorem dX12_sheet_44 : decode cX12_sheet 44 = .ok (.aload_n 0, 1) := by decide +kernel
theorem dX12_sheet_45 : decode cX12_sheet 45 = .ok (.ldc 174, 2) := by decide +kernel
theorem dX12_sheet_47 : decode cX12_sheet 47 = .ok (.invokevirtual 46, 3) := by decide +kernel
theorem dX12_sheet_50 : decode cX12_sheet 50 = .ok (.ireturn, 1) := by decide +kernel
theorem dX12_sheet_51 : decode cX12_sheet 51 = .ok (.iload_n 2, 1) := by decide +kernel
theorem dX12_sheet_52 : decode cX12_sheet 52 = .ok (.ifCond .eq 16, 3) := by decide +kernel
theorem dX12_sheet_55 : decode cX12_sheet 55 = .ok (.iload_n 3, 1) := by decide +kernel
theorem dX12_sheet_56 : decode cX12_sheet 56 = .ok (.bipush 40, 2) := by decide +kernel
theorem dX12_sheet_58 : decode cX12_sheet 58 = .ok (.if_icmp .le 10, 3) := by decide +kernel
theorem dX12_sheet_61 : decode cX12_sheet 61 = .ok (.aload_n 0, 1) := by decide +kernel
theorem dX12_sheet_62 : decode cX12_sheet 62 = .ok (.ldc 45, 2) := by decide +kernel
theorem dX12_sheet_64 : decode cX12_sheet 64 = .ok (.invokevirtual 46, 3) := by decide +kernel
theorem dX12_sheet_67 : decode cX12_sheet 67 = .ok (.ireturn, 1) := by decide +kernel
theorem dX12_sheet_68 : decode cX12_sheet 68 = .ok (.aload_n 0, 1) := by decide +kernel
theorem dX12_sheet_69 : decode cX12_sheet 69 = .ok (.getfield 25, 3) := by decide +kernel
theorem dX12_sheet_72 : decode cX12_sheet 72 = .ok (.iload_n 1, 1) := by decide +kernel
theorem dX12_sheet_73 : decode cX12_sheet 73 = .ok (.iload_n 2, 1) := by decide +kernel
theorem dX12_sheet_74 : decode cX12_sheet 74 = .ok (.iastore, 1) := by decide +kernel
theorem dX12_sheet_75 : decode cX12_sheet 75 = .ok (.aload_n 0, 1) := by decide +kernel
theorem dX12_sheet_76 : decode cX12_sheet 76 = .ok (.getfield 28, 3) := by decide +kernel
theorem dX12_sheet_79 : decode cX12_sheet 79 = .ok (.iload_n 1, 1) := by decide +kernel
theorem dX12_sheet_80 : decode cX12_sheet 80 = .ok (.iload_n 2, 1) := by decide +kernel
theorem dX12_sheet_81 : decode cX12_sheet 81 = .ok (.ifCond .ne 7, 3) := by decide +kernel
theorem dX12_sheet_84 : decode cX12_sheet 84 = .ok (.iconst 0, 1) := by decide +kernel
theorem dX12_sheet_85 : decode cX12_sheet 85 = .ok (.goto 4, 3) := by decide +kernel
theorem dX12_sheet_88 : decode cX12_sheet 88 = .ok (.iload_n 3, 1) := by decide +kernel
theorem dX12_sheet_89 : decode cX12_sheet 89 = .ok (.iastore, 1) := by decide +kernel
theorem dX12_sheet_90 : decode cX12_sheet 90 = .ok (.iconst 0, 1) := by decide +kernel
theorem dX12_sheet_91 : decode cX12_sheet 91 = .ok (.istore 4, 2) := by decide +kernel
theorem dX12_sheet_93 : decode cX12_sheet 93 = .ok (.iload 4, 2) := by decide +kernel
theorem dX12_sheet_95 : decode cX12_sheet 95 = .ok (.bipush 40, 2) := by decide +kernel
theorem dX12_sheet_97 : decode cX12_sheet 97 = .ok (.if_icmp .ge 22, 3) := by decide +kernel
theorem dX12_sheet_100 : decode cX12_sheet 100 = .ok (.aload_n 0, 1) := by decide +kernel
theorem dX12_sheet_101 : decode cX12_sheet 101 = .ok (.getfield 31, 3) := by decide +kernel
theorem dX12_sheet_104 : decode cX12_sheet 104 = .ok (.bipush 40, 2) := by decide +kernel
theorem dX12_sheet_106 : decode cX12_sheet 106 = .ok (.iload_n 1, 1) := by decide +kernel
theorem dX12_sheet_107 : decode cX12_sheet 107 = .ok (.imul, 1) := by decide +kernel
theorem dX12_sheet_108 : decode cX12_sheet 108 = .ok (.iload 4, 2) := by decide +kernel
theorem dX12_sheet_110 : decode cX12_sheet 110 = .ok (.iadd, 1) := by decide +kernel
theorem dX12_sheet_111 : decode cX12_sheet 111 = .ok (.iconst 0, 1) := by decide +kernel
theorem dX12_sheet_112 : decode cX12_sheet 112 = .ok (.iastore, 1) := by decide +kernel
theorem dX12_sheet_113 : decode cX12_sheet 113 = .ok (.iinc 4 1, 3) := by decide +kernel
theorem dX12_sheet_116 : decode cX12_sheet 116 = .ok (.goto (-23), 3) := by decide +kernel
theorem dX12_sheet_119 : decode cX12_sheet 119 = .ok (.iconst 1, 1) := by decide +kernel
theorem dX12_sheet_120 : decode cX12_sheet 120 = .ok (.ireturn, 1) := by decide +kernel
theorem dX12_put_0 : decode cX12_put 0 = .ok (.iload_n 1, 1) := by decide +kernel
theorem dX12_put_1 : decode cX12_put 1 = .ok (.invokestatic 203, 3) := by decide +kernel
theorem dX12_put_4 : decode cX12_put 4 = .ok (.ifCond .ne 10, 3) := by decide +kernel
theorem dX12_put_7 : decode cX12_put 7 = .ok (.aload_n 0, 1) := by decide +kernel
theorem dX12_put_8 : decode cX12_put 8 = .ok (.ldc 45, 2) := by decide +kernel
theorem dX12_put_10 : decode cX12_put 10 = .ok (.invokevirtual 46, 3) := by decide +kernel
theorem dX12_put_13 : decode cX12_put 13 = .ok (.ireturn, 1) := by decide +kernel
theorem dX12_put_14 : decode cX12_put 14 = .ok (.aload_n 0, 1) := by decide +kernel
theorem dX12_put_15 : decode cX12_put 15 = .ok (.getfield 25, 3) := by decide +kernel
theorem dX12_put_18 : decode cX12_put 18 = .ok (.iload_n 1, 1) := by decide +kernel
theorem dX12_put_19 : decode cX12_put 19 = .ok (.iaload, 1) := by decide +kernel
theorem dX12_put_20 : decode cX12_put 20 = .ok (.ifCond .ne 10, 3) := by decide +kernel
theorem dX12_put_23 : decode cX12_put 23 = .ok (.aload_n 0, 1) := by decide +kernel
theorem dX12_put_24 : decode cX12_put 24 = .ok (.ldc 189, 2) := by decide +kernel
theorem dX12_put_26 : decode cX12_put 26 = .ok (.invokevirtual 46, 3) := by decide +kernel
theorem dX12_put_29 : decode cX12_put 29 = .ok (.ireturn, 1) := by decide +kernel
theorem dX12_put_30 : decode cX12_put 30 = .ok (.iload_n 2, 1) := by decide +kernel
theorem dX12_put_31 : decode cX12_put 31 = .ok (.iconst 0, 1) := by decide +kernel
theorem dX12_put_32 : decode cX12_put 32 = .ok (.aload_n 0, 1) := by decide +kernel
theorem dX12_put_33 : decode cX12_put 33 = .ok (.getfield 28, 3) := by decide +kernel
theorem dX12_put_36 : decode cX12_put 36 = .ok (.iload_n 1, 1) := by decide +kernel
theorem dX12_put_37 : decode cX12_put 37 = .ok (.iaload, 1) := by decide +kernel
theorem dX12_put_38 : decode cX12_put 38 = .ok (.iconst 1, 1) := by decide +kernel
theorem dX12_put_39 : decode cX12_put 39 = .ok (.isub, 1) := by decide +kernel
theorem dX12_put_40 : decode cX12_put 40 = .ok (.invokestatic 41, 3) := by decide +kernel
theorem dX12_put_43 : decode cX12_put 43 = .ok (.ifCond .ne 10, 3) := by decide +kernel
theorem dX12_put_46 : decode cX12_put 46 = .ok (.aload_n 0, 1) := by decide +kernel
theorem dX12_put_47 : decode cX12_put 47 = .ok (.ldc 45, 2) := by decide +kernel
theorem dX12_put_49 : decode cX12_put 49 = .ok (.invokevirtual 46, 3) := by decide +kernel
theorem dX12_put_52 : decode cX12_put 52 = .ok (.ireturn, 1) := by decide +kernel
theorem dX12_put_53 : decode cX12_put 53 = .ok (.aload_n 0, 1) := by decide +kernel
theorem dX12_put_54 : decode cX12_put 54 = .ok (.getfield 31, 3) := by decide +kernel
theorem dX12_put_57 : decode cX12_put 57 = .ok (.bipush 40, 2) := by decide +kernel
theorem dX12_put_59 : decode cX12_put 59 = .ok (.iload_n 1, 1) := by decide +kernel
theorem dX12_put_60 : decode cX12_put 60 = .ok (.imul, 1) := by decide +kernel
theorem dX12_put_61 : decode cX12_put 61 = .ok (.iload_n 2, 1) := by decide +kernel
theorem dX12_put_62 : decode cX12_put 62 = .ok (.iadd, 1) := by decide +kernel
theorem dX12_put_63 : decode cX12_put 63 = .ok (.aload_n 0, 1) := by decide +kernel
theorem dX12_put_64 : decode cX12_put 64 = .ok (.getfield 25, 3) := by decide +kernel
theorem dX12_put_67 : decode cX12_put 67 = .ok (.iload_n 1, 1) := by decide +kernel
theorem dX12_put_68 : decode cX12_put 68 = .ok (.iaload, 1) := by decide +kernel
theorem dX12_put_69 : decode cX12_put 69 = .ok (.iload_n 3, 1) := by decide +kernel
theorem dX12_put_70 : decode cX12_put 70 = .ok (.invokestatic 239, 3) := by decide +kernel
theorem dX12_put_73 : decode cX12_put 73 = .ok (.iastore, 1) := by decide +kernel
theorem dX12_put_74 : decode cX12_put 74 = .ok (.iconst 1, 1) := by decide +kernel
theorem dX12_put_75 : decode cX12_put 75 = .ok (.ireturn, 1) := by decide +kernel
theorem dX12_move_0 : decode cX12_move 0 = .ok (.iload_n 1, 1) := by decide +kernel
theorem dX12_move_1 : decode cX12_move 1 = .ok (.invokestatic 203, 3) := by decide +kernel
theorem dX12_move_4 : decode cX12_move 4 = .ok (.ifCond .eq 10, 3) := by decide +kernel
theorem dX12_move_7 : decode cX12_move 7 = .ok (.iload_n 3, 1) := by decide +kernel
theorem dX12_move_8 : decode cX12_move 8 = .ok (.invokestatic 203, 3) := by decide +kernel
theorem dX12_move_11 : decode cX12_move 11 = .ok (.ifCond .ne 10, 3) := by decide +kernel
theorem dX12_move_14 : decode cX12_move 14 = .ok (.aload_n 0, 1) := by decide +kernel
theorem dX12_move_15 : decode cX12_move 15 = .ok (.ldc 45, 2) := by decide +kernel
theorem dX12_move_17 : decode cX12_move 17 = .ok (.invokevirtual 46, 3) := by decide +kernel
theorem dX12_move_20 : decode cX12_move 20 = .ok (.ireturn, 1) := by decide +kernel
theorem dX12_move_21 : decode cX12_move 21 = .ok (.aload_n 0, 1) := by decide +kernel
theorem dX12_move_22 : decode cX12_move 22 = .ok (.getfield 25, 3) := by decide +kernel
theorem dX12_move_25 : decode cX12_move 25 = .ok (.iload_n 1, 1) := by decide +kernel
theorem dX12_move_26 : decode cX12_move 26 = .ok (.iaload, 1) := by decide +kernel
theorem dX12_move_27 : decode cX12_move 27 = .ok (.ifCond .eq 12, 3) := by decide +kernel
theorem dX12_move_30 : decode cX12_move 30 = .ok (.aload_n 0, 1) := by decide +kernel
theorem dX12_move_31 : decode cX12_move 31 = .ok (.getfield 25, 3) := by decide +kernel
theorem dX12_move_34 : decode cX12_move 34 = .ok (.iload_n 3, 1) := by decide +kernel
theorem dX12_move_35 : decode cX12_move 35 = .ok (.iaload, 1) := by decide +kernel
theorem dX12_move_36 : decode cX12_move 36 = .ok (.ifCond .ne 10, 3) := by decide +kernel
theorem dX12_move_39 : decode cX12_move 39 = .ok (.aload_n 0, 1) := by decide +kernel
theorem dX12_move_40 : decode cX12_move 40 = .ok (.ldc 189, 2) := by decide +kernel
theorem dX12_move_42 : decode cX12_move 42 = .ok (.invokevirtual 46, 3) := by decide +kernel
theorem dX12_move_45 : decode cX12_move 45 = .ok (.ireturn, 1) := by decide +kernel
theorem dX12_move_46 : decode cX12_move 46 = .ok (.aload_n 0, 1) := by decide +kernel
theorem dX12_move_47 : decode cX12_move 47 = .ok (.getfield 25, 3) := by decide +kernel
theorem dX12_move_50 : decode cX12_move 50 = .ok (.iload_n 1, 1) := by decide +kernel
theorem dX12_move_51 : decode cX12_move 51 = .ok (.iaload, 1) := by decide +kernel
theorem dX12_move_52 : decode cX12_move 52 = .ok (.aload_n 0, 1) := by decide +kernel
theorem dX12_move_53 : decode cX12_move 53 = .ok (.getfield 25, 3) := by decide +kernel
theorem dX12_move_56 : decode cX12_move 56 = .ok (.iload_n 3, 1) := by decide +kernel
theorem dX12_move_57 : decode cX12_move 57 = .ok (.iaload, 1) := by decide +kernel
theorem dX12_move_58 : decode cX12_move 58 = .ok (.if_icmp .eq 10, 3) := by decide +kernel
theorem dX12_move_61 : decode cX12_move 61 = .ok (.aload_n 0, 1) := by decide +kernel
theorem dX12_move_62 : decode cX12_move 62 = .ok (.ldc 76, 2) := by decide +kernel
theorem dX12_move_64 : decode cX12_move 64 = .ok (.invokevirtual 46, 3) := by decide +kernel
theorem dX12_move_67 : decode cX12_move 67 = .ok (.ireturn, 1) := by decide +kernel
theorem dX12_move_68 : decode cX12_move 68 = .ok (.iload 5, 2) := by decide +kernel
theorem dX12_move_70 : decode cX12_move 70 = .ok (.ifCond .lt 39, 3) := by decide +kernel
theorem dX12_move_73 : decode cX12_move 73 = .ok (.iload_n 2, 1) := by decide +kernel
theorem dX12_move_74 : decode cX12_move 74 = .ok (.ifCond .lt 35, 3) := by decide +kernel
theorem dX12_move_77 : decode cX12_move 77 = .ok (.iload 4, 2) := by decide +kernel
theorem dX12_move_79 : decode cX12_move 79 = .ok (.ifCond .lt 30, 3) := by decide +kernel
theorem dX12_move_82 : decode cX12_move 82 = .ok (.iload_n 2, 1) := by decide +kernel
theorem dX12_move_83 : decode cX12_move 83 = .ok (.aload_n 0, 1) := by decide +kernel
theorem dX12_move_84 : decode cX12_move 84 = .ok (.getfield 28, 3) := by decide +kernel
theorem dX12_move_87 : decode cX12_move 87 = .ok (.iload_n 1, 1) := by decide +kernel
theorem dX12_move_88 : decode cX12_move 88 = .ok (.iaload, 1) := by decide +kernel
theorem dX12_move_89 : decode cX12_move 89 = .ok (.iload 5, 2) := by decide +kernel
theorem dX12_move_91 : decode cX12_move 91 = .ok (.isub, 1) := by decide +kernel
theorem dX12_move_92 : decode cX12_move 92 = .ok (.if_icmp .gt 17, 3) := by decide +kernel
theorem dX12_move_95 : decode cX12_move 95 = .ok (.iload 4, 2) := by decide +kernel
theorem dX12_move_97 : decode cX12_move 97 = .ok (.aload_n 0, 1) := by decide +kernel
theorem dX12_move_98 : decode cX12_move 98 = .ok (.getfield 28, 3) := by decide +kernel
theorem dX12_move_101 : decode cX12_move 101 = .ok (.iload_n 3, 1) := by decide +kernel
theorem dX12_move_102 : decode cX12_move 102 = .ok (.iaload, 1) := by decide +kernel
theorem dX12_move_103 : decode cX12_move 103 = .ok (.iload 5, 2) := by decide +kernel
theorem dX12_move_105 : decode cX12_move 105 = .ok (.isub, 1) := by decide +kernel
theorem dX12_move_106 : decode cX12_move 106 = .ok (.if_icmp .le 10, 3) := by decide +kernel
theorem dX12_move_109 : decode cX12_move 109 = .ok (.aload_n 0, 1) := by decide +kernel
theorem dX12_move_110 : decode cX12_move 110 = .ok (.ldc 45, 2) := by decide +kernel
theorem dX12_move_112 : decode cX12_move 112 = .ok (.invokevirtual 46, 3) := by decide +kernel
theorem dX12_move_115 : decode cX12_move 115 = .ok (.ireturn, 1) := by decide +kernel
theorem dX12_move_116 : decode cX12_move 116 = .ok (.iconst 0, 1) := by decide +kernel
theorem dX12_move_117 : decode cX12_move 117 = .ok (.istore 6, 2) := by decide +kernel
theorem dX12_move_119 : decode cX12_move 119 = .ok (.iload 6, 2) := by decide +kernel
theorem dX12_move_121 : decode cX12_move 121 = .ok (.iload 5, 2) := by decide +kernel
theorem dX12_move_123 : decode cX12_move 123 = .ok (.if_icmp .ge 30, 3) := by decide +kernel
theorem dX12_move_126 : decode cX12_move 126 = .ok (.aload_n 0, 1) := by decide +kernel
theorem dX12_move_127 : decode cX12_move 127 = .ok (.getfield 34, 3) := by decide +kernel
theorem dX12_move_130 : decode cX12_move 130 = .ok (.iload 6, 2) := by decide +kernel
theorem dX12_move_132 : decode cX12_move 132 = .ok (.aload_n 0, 1) := by decide +kernel
theorem dX12_move_133 : decode cX12_move 133 = .ok (.getfield 31, 3) := by decide +kernel
theorem dX12_move_136 : decode cX12_move 136 = .ok (.bipush 40, 2) := by decide +kernel
theorem dX12_move_138 : decode cX12_move 138 = .ok (.iload_n 1, 1) := by decide +kernel
theorem dX12_move_139 : decode cX12_move 139 = .ok (.imul, 1) := by decide +kernel
theorem dX12_move_140 : decode cX12_move 140 = .ok (.iload_n 2, 1) := by decide +kernel
theorem dX12_move_141 : decode cX12_move 141 = .ok (.iadd, 1) := by decide +kernel
theorem dX12_move_142 : decode cX12_move 142 = .ok (.iload 6, 2) := by decide +kernel
theorem dX12_move_144 : decode cX12_move 144 = .ok (.iadd, 1) := by decide +kernel
theorem dX12_move_145 : decode cX12_move 145 = .ok (.iaload, 1) := by decide +kernel
theorem dX12_move_146 : decode cX12_move 146 = .ok (.iastore, 1) := by decide +kernel
theorem dX12_move_147 : decode cX12_move 147 = .ok (.iinc 6 1, 3) := by decide +kernel
theorem dX12_move_150 : decode cX12_move 150 = .ok (.goto (-31), 3) := by decide +kernel
theorem dX12_move_153 : decode cX12_move 153 = .ok (.iconst 0, 1) := by decide +kernel
theorem dX12_move_154 : decode cX12_move 154 = .ok (.istore 6, 2) := by decide +kernel
theorem dX12_move_156 : decode cX12_move 156 = .ok (.iload 6, 2) := by decide +kernel
theorem dX12_move_158 : decode cX12_move 158 = .ok (.iload 5, 2) := by decide +kernel
theorem dX12_move_160 : decode cX12_move 160 = .ok (.if_icmp .ge 31, 3) := by decide +kernel
theorem dX12_move_163 : decode cX12_move 163 = .ok (.aload_n 0, 1) := by decide +kernel
theorem dX12_move_164 : decode cX12_move 164 = .ok (.getfield 31, 3) := by decide +kernel
theorem dX12_move_167 : decode cX12_move 167 = .ok (.bipush 40, 2) := by decide +kernel
theorem dX12_move_169 : decode cX12_move 169 = .ok (.iload_n 3, 1) := by decide +kernel
theorem dX12_move_170 : decode cX12_move 170 = .ok (.imul, 1) := by decide +kernel
theorem dX12_move_171 : decode cX12_move 171 = .ok (.iload 4, 2) := by decide +kernel
theorem dX12_move_173 : decode cX12_move 173 = .ok (.iadd, 1) := by decide +kernel
theorem dX12_move_174 : decode cX12_move 174 = .ok (.iload 6, 2) := by decide +kernel
theorem dX12_move_176 : decode cX12_move 176 = .ok (.iadd, 1) := by decide +kernel
theorem dX12_move_177 : decode cX12_move 177 = .ok (.aload_n 0, 1) := by decide +kernel
theorem dX12_move_178 : decode cX12_move 178 = .ok (.getfield 34, 3) := by decide +kernel
theorem dX12_move_181 : decode cX12_move 181 = .ok (.iload 6, 2) := by decide +kernel
theorem dX12_move_183 : decode cX12_move 183 = .ok (.iaload, 1) := by decide +kernel
theorem dX12_move_184 : decode cX12_move 184 = .ok (.iastore, 1) := by decide +kernel
theorem dX12_move_185 : decode cX12_move 185 = .ok (.iinc 6 1, 3) := by decide +kernel
theorem dX12_move_188 : decode cX12_move 188 = .ok (.goto (-32), 3) := by decide +kernel
theorem dX12_move_191 : decode cX12_move 191 = .ok (.iload 5, 2) := by decide +kernel
theorem dX12_move_193 : decode cX12_move 193 = .ok (.ireturn, 1) := by decide +kernel
theorem dX12_dirts_0 : decode cX12_dirts 0 = .ok (.iload_n 1, 1) := by decide +kernel
theorem dX12_dirts_1 : decode cX12_dirts 1 = .ok (.invokestatic 203, 3) := by decide +kernel
theorem dX12_dirts_4 : decode cX12_dirts 4 = .ok (.ifCond .ne 10, 3) := by decide +kernel
theorem dX12_dirts_7 : decode cX12_dirts 7 = .ok (.aload_n 0, 1) := by decide +kernel
theorem dX12_dirts_8 : decode cX12_dirts 8 = .ok (.ldc 45, 2) := by decide +kernel
theorem dX12_dirts_10 : decode cX12_dirts 10 = .ok (.invokevirtual 46, 3) := by decide +kernel
theorem dX12_dirts_13 : decode cX12_dirts 13 = .ok (.ireturn, 1) := by decide +kernel
theorem dX12_dirts_14 : decode cX12_dirts 14 = .ok (.aload_n 0, 1) := by decide +kernel
theorem dX12_dirts_15 : decode cX12_dirts 15 = .ok (.getfield 25, 3) := by decide +kernel
theorem dX12_dirts_18 : decode cX12_dirts 18 = .ok (.iload_n 1, 1) := by decide +kernel
theorem dX12_dirts_19 : decode cX12_dirts 19 = .ok (.iaload, 1) := by decide +kernel
theorem dX12_dirts_20 : decode cX12_dirts 20 = .ok (.ifCond .ne 10, 3) := by decide +kernel
theorem dX12_dirts_23 : decode cX12_dirts 23 = .ok (.aload_n 0, 1) := by decide +kernel
theorem dX12_dirts_24 : decode cX12_dirts 24 = .ok (.ldc 189, 2) := by decide +kernel
theorem dX12_dirts_26 : decode cX12_dirts 26 = .ok (.invokevirtual 46, 3) := by decide +kernel
theorem dX12_dirts_29 : decode cX12_dirts 29 = .ok (.ireturn, 1) := by decide +kernel
theorem dX12_dirts_30 : decode cX12_dirts 30 = .ok (.iconst 0, 1) := by decide +kernel
theorem dX12_dirts_31 : decode cX12_dirts 31 = .ok (.istore_n 2, 1) := by decide +kernel
theorem dX12_dirts_32 : decode cX12_dirts 32 = .ok (.iload_n 2, 1) := by decide +kernel
theorem dX12_dirts_33 : decode cX12_dirts 33 = .ok (.aload_n 0, 1) := by decide +kernel
theorem dX12_dirts_34 : decode cX12_dirts 34 = .ok (.getfield 28, 3) := by decide +kernel
theorem dX12_dirts_37 : decode cX12_dirts 37 = .ok (.iload_n 1, 1) := by decide +kernel
theorem dX12_dirts_38 : decode cX12_dirts 38 = .ok (.iaload, 1) := by decide +kernel
theorem dX12_dirts_39 : decode cX12_dirts 39 = .ok (.if_icmp .ge 55, 3) := by decide +kernel
theorem dX12_dirts_42 : decode cX12_dirts 42 = .ok (.aload_n 0, 1) := by decide +kernel
theorem dX12_dirts_43 : decode cX12_dirts 43 = .ok (.iload_n 2, 1) := by decide +kernel
theorem dX12_dirts_44 : decode cX12_dirts 44 = .ok (.invokevirtual 55, 3) := by decide +kernel
theorem dX12_dirts_47 : decode cX12_dirts 47 = .ok (.ifCond .eq 47, 3) := by decide +kernel
theorem dX12_dirts_50 : decode cX12_dirts 50 = .ok (.aload_n 0, 1) := by decide +kernel
theorem dX12_dirts_51 : decode cX12_dirts 51 = .ok (.getfield 31, 3) := by decide +kernel
theorem dX12_dirts_54 : decode cX12_dirts 54 = .ok (.bipush 40, 2) := by decide +kernel
theorem dX12_dirts_56 : decode cX12_dirts 56 = .ok (.iload_n 1, 1) := by decide +kernel
theorem dX12_dirts_57 : decode cX12_dirts 57 = .ok (.imul, 1) := by decide +kernel
theorem dX12_dirts_58 : decode cX12_dirts 58 = .ok (.iload_n 2, 1) := by decide +kernel
theorem dX12_dirts_59 : decode cX12_dirts 59 = .ok (.iadd, 1) := by decide +kernel
theorem dX12_dirts_60 : decode cX12_dirts 60 = .ok (.iaload, 1) := by decide +kernel
theorem dX12_dirts_61 : decode cX12_dirts 61 = .ok (.iconst 0, 1) := by decide +kernel
theorem dX12_dirts_62 : decode cX12_dirts 62 = .ok (.sipush 999, 3) := by decide +kernel
theorem dX12_dirts_65 : decode cX12_dirts 65 = .ok (.invokestatic 41, 3) := by decide +kernel
theorem dX12_dirts_68 : decode cX12_dirts 68 = .ok (.ifCond .eq 26, 3) := by decide +kernel
theorem dX12_dirts_71 : decode cX12_dirts 71 = .ok (.aload_n 0, 1) := by decide +kernel
theorem dX12_dirts_72 : decode cX12_dirts 72 = .ok (.iload_n 2, 1) := by decide +kernel
theorem dX12_dirts_73 : decode cX12_dirts 73 = .ok (.iconst 2, 1) := by decide +kernel
theorem dX12_dirts_74 : decode cX12_dirts 74 = .ok (.aload_n 0, 1) := by decide +kernel
theorem dX12_dirts_75 : decode cX12_dirts 75 = .ok (.getfield 31, 3) := by decide +kernel
theorem dX12_dirts_78 : decode cX12_dirts 78 = .ok (.bipush 40, 2) := by decide +kernel
theorem dX12_dirts_80 : decode cX12_dirts 80 = .ok (.iload_n 1, 1) := by decide +kernel
theorem dX12_dirts_81 : decode cX12_dirts 81 = .ok (.imul, 1) := by decide +kernel
theorem dX12_dirts_82 : decode cX12_dirts 82 = .ok (.iload_n 2, 1) := by decide +kernel
theorem dX12_dirts_83 : decode cX12_dirts 83 = .ok (.iadd, 1) := by decide +kernel
theorem dX12_dirts_84 : decode cX12_dirts 84 = .ok (.iaload, 1) := by decide +kernel
theorem dX12_dirts_85 : decode cX12_dirts 85 = .ok (.invokevirtual 51, 3) := by decide +kernel
theorem dX12_dirts_88 : decode cX12_dirts 88 = .ok (.iinc 2 1, 3) := by decide +kernel
theorem dX12_dirts_91 : decode cX12_dirts 91 = .ok (.goto (-59), 3) := by decide +kernel
theorem dX12_dirts_94 : decode cX12_dirts 94 = .ok (.iload_n 2, 1) := by decide +kernel
theorem dX12_dirts_95 : decode cX12_dirts 95 = .ok (.ireturn, 1) := by decide +kernel
theorem dX12_judge_0 : decode cX12_judge 0 = .ok (.iload_n 1, 1) := by decide +kernel
theorem dX12_judge_1 : decode cX12_judge 1 = .ok (.invokestatic 203, 3) := by decide +kernel
theorem dX12_judge_4 : decode cX12_judge 4 = .ok (.ifCond .ne 10, 3) := by decide +kernel
theorem dX12_judge_7 : decode cX12_judge 7 = .ok (.aload_n 0, 1) := by decide +kernel
theorem dX12_judge_8 : decode cX12_judge 8 = .ok (.ldc 45, 2) := by decide +kernel
theorem dX12_judge_10 : decode cX12_judge 10 = .ok (.invokevirtual 46, 3) := by decide +kernel
theorem dX12_judge_13 : decode cX12_judge 13 = .ok (.ireturn, 1) := by decide +kernel
theorem dX12_judge_14 : decode cX12_judge 14 = .ok (.aload_n 0, 1) := by decide +kernel
theorem dX12_judge_15 : decode cX12_judge 15 = .ok (.getfield 25, 3) := by decide +kernel
theorem dX12_judge_18 : decode cX12_judge 18 = .ok (.iload_n 1, 1) := by decide +kernel
theorem dX12_judge_19 : decode cX12_judge 19 = .ok (.iaload, 1) := by decide +kernel
theorem dX12_judge_20 : decode cX12_judge 20 = .ok (.ifCond .ne 10, 3) := by decide +kernel
theorem dX12_judge_23 : decode cX12_judge 23 = .ok (.aload_n 0, 1) := by decide +kernel
theorem dX12_judge_24 : decode cX12_judge 24 = .ok (.ldc 189, 2) := by decide +kernel
theorem dX12_judge_26 : decode cX12_judge 26 = .ok (.invokevirtual 46, 3) := by decide +kernel
theorem dX12_judge_29 : decode cX12_judge 29 = .ok (.ireturn, 1) := by decide +kernel
theorem dX12_judge_30 : decode cX12_judge 30 = .ok (.iconst 0, 1) := by decide +kernel
theorem dX12_judge_31 : decode cX12_judge 31 = .ok (.istore_n 2, 1) := by decide +kernel
theorem dX12_judge_32 : decode cX12_judge 32 = .ok (.iload_n 2, 1) := by decide +kernel
theorem dX12_judge_33 : decode cX12_judge 33 = .ok (.aload_n 0, 1) := by decide +kernel
theorem dX12_judge_34 : decode cX12_judge 34 = .ok (.getfield 7, 3) := by decide +kernel
theorem dX12_judge_37 : decode cX12_judge 37 = .ok (.iconst 2, 1) := by decide +kernel
theorem dX12_judge_38 : decode cX12_judge 38 = .ok (.iaload, 1) := by decide +kernel
theorem dX12_judge_39 : decode cX12_judge 39 = .ok (.if_icmp .ge 39, 3) := by decide +kernel
theorem dX12_judge_42 : decode cX12_judge 42 = .ok (.iload_n 2, 1) := by decide +kernel
theorem dX12_judge_43 : decode cX12_judge 43 = .ok (.aload_n 0, 1) := by decide +kernel
theorem dX12_judge_44 : decode cX12_judge 44 = .ok (.getfield 28, 3) := by decide +kernel
theorem dX12_judge_47 : decode cX12_judge 47 = .ok (.iload_n 1, 1) := by decide +kernel
theorem dX12_judge_48 : decode cX12_judge 48 = .ok (.iaload, 1) := by decide +kernel
theorem dX12_judge_49 : decode cX12_judge 49 = .ok (.if_icmp .ge 29, 3) := by decide +kernel
theorem dX12_judge_52 : decode cX12_judge 52 = .ok (.aload_n 0, 1) := by decide +kernel
theorem dX12_judge_53 : decode cX12_judge 53 = .ok (.getfield 31, 3) := by decide +kernel
theorem dX12_judge_56 : decode cX12_judge 56 = .ok (.bipush 40, 2) := by decide +kernel
theorem dX12_judge_58 : decode cX12_judge 58 = .ok (.iload_n 1, 1) := by decide +kernel
theorem dX12_judge_59 : decode cX12_judge 59 = .ok (.imul, 1) := by decide +kernel
theorem dX12_judge_60 : decode cX12_judge 60 = .ok (.iload_n 2, 1) := by decide +kernel
theorem dX12_judge_61 : decode cX12_judge 61 = .ok (.iadd, 1) := by decide +kernel
theorem dX12_judge_62 : decode cX12_judge 62 = .ok (.iaload, 1) := by decide +kernel
theorem dX12_judge_63 : decode cX12_judge 63 = .ok (.aload_n 0, 1) := by decide +kernel
theorem dX12_judge_64 : decode cX12_judge 64 = .ok (.iload_n 2, 1) := by decide +kernel
theorem dX12_judge_65 : decode cX12_judge 65 = .ok (.iconst 3, 1) := by decide +kernel
theorem dX12_judge_66 : decode cX12_judge 66 = .ok (.invokevirtual 59, 3) := by decide +kernel
theorem dX12_judge_69 : decode cX12_judge 69 = .ok (.if_icmp .ne 9, 3) := by decide +kernel
theorem dX12_judge_72 : decode cX12_judge 72 = .ok (.iinc 2 1, 3) := by decide +kernel
theorem dX12_judge_75 : decode cX12_judge 75 = .ok (.goto (-43), 3) := by decide +kernel
theorem dX12_judge_78 : decode cX12_judge 78 = .ok (.iload_n 2, 1) := by decide +kernel
theorem dX12_judge_79 : decode cX12_judge 79 = .ok (.aload_n 0, 1) := by decide +kernel
theorem dX12_judge_80 : decode cX12_judge 80 = .ok (.getfield 7, 3) := by decide +kernel
theorem dX12_judge_83 : decode cX12_judge 83 = .ok (.iconst 2, 1) := by decide +kernel
theorem dX12_judge_84 : decode cX12_judge 84 = .ok (.iaload, 1) := by decide +kernel
theorem dX12_judge_85 : decode cX12_judge 85 = .ok (.if_icmp .ne 17, 3) := by decide +kernel
theorem dX12_judge_88 : decode cX12_judge 88 = .ok (.iload_n 2, 1) := by decide +kernel
theorem dX12_judge_89 : decode cX12_judge 89 = .ok (.aload_n 0, 1) := by decide +kernel
theorem dX12_judge_90 : decode cX12_judge 90 = .ok (.getfield 28, 3) := by decide +kernel
theorem dX12_judge_93 : decode cX12_judge 93 = .ok (.iload_n 1, 1) := by decide +kernel
theorem dX12_judge_94 : decode cX12_judge 94 = .ok (.iaload, 1) := by decide +kernel
theorem dX12_judge_95 : decode cX12_judge 95 = .ok (.if_icmp .ne 7, 3) := by decide +kernel
theorem dX12_judge_98 : decode cX12_judge 98 = .ok (.iconst (-1), 1) := by decide +kernel
theorem dX12_judge_99 : decode cX12_judge 99 = .ok (.goto 4, 3) := by decide +kernel
theorem dX12_judge_102 : decode cX12_judge 102 = .ok (.iload_n 2, 1) := by decide +kernel
theorem dX12_judge_103 : decode cX12_judge 103 = .ok (.ireturn, 1) := by decide +kernel
theorem dX12_image_0 : decode cX12_image 0 = .ok (.aload_n 0, 1) := by decide +kernel
theorem dX12_image_1 : decode cX12_image 1 = .ok (.aload_n 0, 1) := by decide +kernel
theorem dX12_image_2 : decode cX12_image 2 = .ok (.getfield 7, 3) := by decide +kernel
theorem dX12_image_5 : decode cX12_image 5 = .ok (.aload_n 0, 1) := by decide +kernel
theorem dX12_image_6 : decode cX12_image 6 = .ok (.getfield 13, 3) := by decide +kernel
theorem dX12_image_9 : decode cX12_image 9 = .ok (.invokevirtual 150, 3) := by decide +kernel
theorem dX12_image_12 : decode cX12_image 12 = .ok (.aload_n 0, 1) := by decide +kernel
theorem dX12_image_13 : decode cX12_image 13 = .ok (.iconst 1, 1) := by decide +kernel
theorem dX12_image_14 : decode cX12_image 14 = .ok (.putfield 242, 3) := by decide +kernel
theorem dX12_image_17 : decode cX12_image 17 = .ok (.aload_n 0, 1) := by decide +kernel
theorem dX12_image_18 : decode cX12_image 18 = .ok (.dup, 1) := by decide +kernel
theorem dX12_image_19 : decode cX12_image 19 = .ok (.getfield 245, 3) := by decide +kernel
theorem dX12_image_22 : decode cX12_image 22 = .ok (.iconst 1, 1) := by decide +kernel
theorem dX12_image_23 : decode cX12_image 23 = .ok (.iadd, 1) := by decide +kernel
theorem dX12_image_24 : decode cX12_image 24 = .ok (.putfield 245, 3) := by decide +kernel
theorem dX12_image_27 : decode cX12_image 27 = .ok (.aload_n 0, 1) := by decide +kernel
theorem dX12_image_28 : decode cX12_image 28 = .ok (.getfield 245, 3) := by decide +kernel
theorem dX12_image_31 : decode cX12_image 31 = .ok (.ireturn, 1) := by decide +kernel
theorem dX12_restore_0 : decode cX12_restore 0 = .ok (.aload_n 0, 1) := by decide +kernel
theorem dX12_restore_1 : decode cX12_restore 1 = .ok (.getfield 242, 3) := by decide +kernel
theorem dX12_restore_4 : decode cX12_restore 4 = .ok (.ifCond .ne 10, 3) := by decide +kernel
theorem dX12_restore_7 : decode cX12_restore 7 = .ok (.aload_n 0, 1) := by decide +kernel
theorem dX12_restore_8 : decode cX12_restore 8 = .ok (.ldc 189, 2) := by decide +kernel
theorem dX12_restore_10 : decode cX12_restore 10 = .ok (.invokevirtual 46, 3) := by decide +kernel
theorem dX12_restore_13 : decode cX12_restore 13 = .ok (.ireturn, 1) := by decide +kernel
theorem dX12_restore_14 : decode cX12_restore 14 = .ok (.aload_n 0, 1) := by decide +kernel
theorem dX12_restore_15 : decode cX12_restore 15 = .ok (.aload_n 0, 1) := by decide +kernel
theorem dX12_restore_16 : decode cX12_restore 16 = .ok (.getfield 13, 3) := by decide +kernel
theorem dX12_restore_19 : decode cX12_restore 19 = .ok (.aload_n 0, 1) := by decide +kernel
theorem dX12_restore_20 : decode cX12_restore 20 = .ok (.getfield 7, 3) := by decide +kernel
theorem dX12_restore_23 : decode cX12_restore 23 = .ok (.invokevirtual 150, 3) := by decide +kernel
theorem dX12_restore_26 : decode cX12_restore 26 = .ok (.aload_n 0, 1) := by decide +kernel
theorem dX12_restore_27 : decode cX12_restore 27 = .ok (.getfield 7, 3) := by decide +kernel
theorem dX12_restore_30 : decode cX12_restore 30 = .ok (.iconst 0, 1) := by decide +kernel
theorem dX12_restore_31 : decode cX12_restore 31 = .ok (.iaload, 1) := by decide +kernel
theorem dX12_restore_32 : decode cX12_restore 32 = .ok (.ireturn, 1) := by decide +kernel
theorem dX12_tell_0 : decode cX12_tell 0 = .ok (.aload_n 0, 1) := by decide +kernel
theorem dX12_tell_1 : decode cX12_tell 1 = .ok (.getfield 7, 3) := by decide +kernel
theorem dX12_tell_4 : decode cX12_tell 4 = .ok (.iconst 4, 1) := by decide +kernel
theorem dX12_tell_5 : decode cX12_tell 5 = .ok (.iaload, 1) := by decide +kernel
theorem dX12_tell_6 : decode cX12_tell 6 = .ok (.bipush 20, 2) := by decide +kernel
theorem dX12_tell_8 : decode cX12_tell 8 = .ok (.if_icmp .ne 10, 3) := by decide +kernel
theorem dX12_tell_11 : decode cX12_tell 11 = .ok (.aload_n 0, 1) := by decide +kernel
theorem dX12_tell_12 : decode cX12_tell 12 = .ok (.ldc 50, 2) := by decide +kernel
theorem dX12_tell_14 : decode cX12_tell 14 = .ok (.invokevirtual 46, 3) := by decide +kernel
theorem dX12_tell_17 : decode cX12_tell 17 = .ok (.ireturn, 1) := by decide +kernel
theorem dX12_tell_18 : decode cX12_tell 18 = .ok (.aload_n 0, 1) := by decide +kernel
theorem dX12_tell_19 : decode cX12_tell 19 = .ok (.getfield 7, 3) := by decide +kernel
theorem dX12_tell_22 : decode cX12_tell 22 = .ok (.bipush 120, 2) := by decide +kernel
theorem dX12_tell_24 : decode cX12_tell 24 = .ok (.aload_n 0, 1) := by decide +kernel
theorem dX12_tell_25 : decode cX12_tell 25 = .ok (.getfield 7, 3) := by decide +kernel
theorem dX12_tell_28 : decode cX12_tell 28 = .ok (.iconst 4, 1) := by decide +kernel
theorem dX12_tell_29 : decode cX12_tell 29 = .ok (.iaload, 1) := by decide +kernel
theorem dX12_tell_30 : decode cX12_tell 30 = .ok (.iadd, 1) := by decide +kernel
theorem dX12_tell_31 : decode cX12_tell 31 = .ok (.iload_n 1, 1) := by decide +kernel
theorem dX12_tell_32 : decode cX12_tell 32 = .ok (.iastore, 1) := by decide +kernel
theorem dX12_tell_33 : decode cX12_tell 33 = .ok (.aload_n 0, 1) := by decide +kernel
theorem dX12_tell_34 : decode cX12_tell 34 = .ok (.getfield 7, 3) := by decide +kernel
theorem dX12_tell_37 : decode cX12_tell 37 = .ok (.iconst 4, 1) := by decide +kernel
theorem dX12_tell_38 : decode cX12_tell 38 = .ok (.dup2, 1) := by decide +kernel
theorem dX12_tell_39 : decode cX12_tell 39 = .ok (.iaload, 1) := by decide +kernel
theorem dX12_tell_40 : decode cX12_tell 40 = .ok (.iconst 1, 1) := by decide +kernel
theorem dX12_tell_41 : decode cX12_tell 41 = .ok (.iadd, 1) := by decide +kernel
theorem dX12_tell_42 : decode cX12_tell 42 = .ok (.iastore, 1) := by decide +kernel
theorem dX12_tell_43 : decode cX12_tell 43 = .ok (.aload_n 0, 1) := by decide +kernel
theorem dX12_tell_44 : decode cX12_tell 44 = .ok (.getfield 7, 3) := by decide +kernel
theorem dX12_tell_47 : decode cX12_tell 47 = .ok (.iconst 4, 1) := by decide +kernel
theorem dX12_tell_48 : decode cX12_tell 48 = .ok (.iaload, 1) := by decide +kernel
theorem dX12_tell_49 : decode cX12_tell 49 = .ok (.ireturn, 1) := by decide +kernel
theorem dX12_check_0 : decode cX12_check 0 = .ok (.aload_n 0, 1) := by decide +kernel
theorem dX12_check_1 : decode cX12_check 1 = .ok (.getfield 7, 3) := by decide +kernel
theorem dX12_check_4 : decode cX12_check 4 = .ok (.iconst 4, 1) := by decide +kernel
theorem dX12_check_5 : decode cX12_check 5 = .ok (.iaload, 1) := by decide +kernel
theorem dX12_check_6 : decode cX12_check 6 = .ok (.istore_n 1, 1) := by decide +kernel
theorem dX12_check_7 : decode cX12_check 7 = .ok (.aload_n 0, 1) := by decide +kernel
theorem dX12_check_8 : decode cX12_check 8 = .ok (.getfield 7, 3) := by decide +kernel
theorem dX12_check_11 : decode cX12_check 11 = .ok (.iconst 4, 1) := by decide +kernel
theorem dX12_check_12 : decode cX12_check 12 = .ok (.iconst 0, 1) := by decide +kernel
theorem dX12_check_13 : decode cX12_check 13 = .ok (.iastore, 1) := by decide +kernel
theorem dX12_check_14 : decode cX12_check 14 = .ok (.aload_n 0, 1) := by decide +kernel
theorem dX12_check_15 : decode cX12_check 15 = .ok (.aload_n 0, 1) := by decide +kernel
theorem dX12_check_16 : decode cX12_check 16 = .ok (.getfield 7, 3) := by decide +kernel
theorem dX12_check_19 : decode cX12_check 19 = .ok (.aload_n 0, 1) := by decide +kernel
theorem dX12_check_20 : decode cX12_check 20 = .ok (.getfield 16, 3) := by decide +kernel
theorem dX12_check_23 : decode cX12_check 23 = .ok (.invokevirtual 150, 3) := by decide +kernel
theorem dX12_check_26 : decode cX12_check 26 = .ok (.iconst 0, 1) := by decide +kernel
theorem dX12_check_27 : decode cX12_check 27 = .ok (.istore_n 2, 1) := by decide +kernel
theorem dX12_check_28 : decode cX12_check 28 = .ok (.iconst 1, 1) := by decide +kernel
theorem dX12_check_29 : decode cX12_check 29 = .ok (.istore_n 3, 1) := by decide +kernel
theorem dX12_check_30 : decode cX12_check 30 = .ok (.iload_n 2, 1) := by decide +kernel
theorem dX12_check_31 : decode cX12_check 31 = .ok (.iload_n 1, 1) := by decide +kernel
theorem dX12_check_32 : decode cX12_check 32 = .ok (.if_icmp .ge 48, 3) := by decide +kernel
theorem dX12_check_35 : decode cX12_check 35 = .ok (.iload_n 3, 1) := by decide +kernel
theorem dX12_check_36 : decode cX12_check 36 = .ok (.ifCond .eq 44, 3) := by decide +kernel
theorem dX12_check_39 : decode cX12_check 39 = .ok (.aload_n 0, 1) := by decide +kernel
theorem dX12_check_40 : decode cX12_check 40 = .ok (.invokevirtual 171, 3) := by decide +kernel
theorem dX12_check_43 : decode cX12_check 43 = .ok (.aload_n 0, 1) := by decide +kernel
theorem dX12_check_44 : decode cX12_check 44 = .ok (.invokevirtual 179, 3) := by decide +kernel
theorem dX12_check_47 : decode cX12_check 47 = .ok (.aload_n 0, 1) := by decide +kernel
theorem dX12_check_48 : decode cX12_check 48 = .ok (.getfield 7, 3) := by decide +kernel
theorem dX12_check_51 : decode cX12_check 51 = .ok (.bipush 120, 2) := by decide +kernel
theorem dX12_check_53 : decode cX12_check 53 = .ok (.iload_n 2, 1) := by decide +kernel
theorem dX12_check_54 : decode cX12_check 54 = .ok (.iadd, 1) := by decide +kernel
theorem dX12_check_55 : decode cX12_check 55 = .ok (.iaload, 1) := by decide +kernel
theorem dX12_check_56 : decode cX12_check 56 = .ok (.if_icmp .ne 7, 3) := by decide +kernel
theorem dX12_check_59 : decode cX12_check 59 = .ok (.iconst 1, 1) := by decide +kernel
theorem dX12_check_60 : decode cX12_check 60 = .ok (.goto 4, 3) := by decide +kernel
theorem dX12_check_63 : decode cX12_check 63 = .ok (.iconst 0, 1) := by decide +kernel
theorem dX12_check_64 : decode cX12_check 64 = .ok (.istore_n 3, 1) := by decide +kernel
theorem dX12_check_65 : decode cX12_check 65 = .ok (.iload_n 2, 1) := by decide +kernel
theorem dX12_check_66 : decode cX12_check 66 = .ok (.iload_n 3, 1) := by decide +kernel
theorem dX12_check_67 : decode cX12_check 67 = .ok (.ifCond .eq 7, 3) := by decide +kernel
theorem dX12_check_70 : decode cX12_check 70 = .ok (.iconst 1, 1) := by decide +kernel
theorem dX12_check_71 : decode cX12_check 71 = .ok (.goto 4, 3) := by decide +kernel
theorem dX12_check_74 : decode cX12_check 74 = .ok (.iconst 0, 1) := by decide +kernel
theorem dX12_check_75 : decode cX12_check 75 = .ok (.iadd, 1) := by decide +kernel
theorem dX12_check_76 : decode cX12_check 76 = .ok (.istore_n 2, 1) := by decide +kernel
theorem dX12_check_77 : decode cX12_check 77 = .ok (.goto (-47), 3) := by decide +kernel
theorem dX12_check_80 : decode cX12_check 80 = .ok (.aload_n 0, 1) := by decide +kernel
theorem dX12_check_81 : decode cX12_check 81 = .ok (.aload_n 0, 1) := by decide +kernel
theorem dX12_check_82 : decode cX12_check 82 = .ok (.getfield 16, 3) := by decide +kernel
theorem dX12_check_85 : decode cX12_check 85 = .ok (.aload_n 0, 1) := by decide +kernel
theorem dX12_check_86 : decode cX12_check 86 = .ok (.getfield 7, 3) := by decide +kernel
theorem dX12_check_89 : decode cX12_check 89 = .ok (.invokevirtual 150, 3) := by decide +kernel
theorem dX12_check_92 : decode cX12_check 92 = .ok (.iload_n 3, 1) := by decide +kernel
theorem dX12_check_93 : decode cX12_check 93 = .ok (.ifCond .eq 7, 3) := by decide +kernel
theorem dX12_check_96 : decode cX12_check 96 = .ok (.iconst 0, 1) := by decide +kernel
theorem dX12_check_97 : decode cX12_check 97 = .ok (.goto 6, 3) := by decide +kernel
theorem dX12_check_100 : decode cX12_check 100 = .ok (.iconst 1, 1) := by decide +kernel
theorem dX12_check_101 : decode cX12_check 101 = .ok (.iload_n 2, 1) := by decide +kernel
theorem dX12_check_102 : decode cX12_check 102 = .ok (.iadd, 1) := by decide +kernel
theorem dX12_check_103 : decode cX12_check 103 = .ok (.ireturn, 1) := by decide +kernel
theorem dX12_count_0 : decode cX12_count 0 = .ok (.iload_n 1, 1) := by decide +kernel
theorem dX12_count_1 : decode cX12_count 1 = .ok (.tableswitch 133 0 10 #[59, 66, 73, 81, 89, 97, 102, 107, 114, 121, 126], 59) := by decide +kernel
theorem dX12_count_60 : decode cX12_count 60 = .ok (.aload_n 0, 1) := by decide +kernel
theorem dX12_count_61 : decode cX12_count 61 = .ok (.getfield 7, 3) := by decide +kernel
theorem dX12_count_64 : decode cX12_count 64 = .ok (.iconst 2, 1) := by decide +kernel
theorem dX12_count_65 : decode cX12_count 65 = .ok (.iaload, 1) := by decide +kernel
theorem dX12_count_66 : decode cX12_count 66 = .ok (.ireturn, 1) := by decide +kernel
theorem dX12_count_67 : decode cX12_count 67 = .ok (.aload_n 0, 1) := by decide +kernel
theorem dX12_count_68 : decode cX12_count 68 = .ok (.getfield 7, 3) := by decide +kernel
theorem dX12_count_71 : decode cX12_count 71 = .ok (.iconst 0, 1) := by decide +kernel
theorem dX12_count_72 : decode cX12_count 72 = .ok (.iaload, 1) := by decide +kernel
theorem dX12_count_73 : decode cX12_count 73 = .ok (.ireturn, 1) := by decide +kernel
theorem dX12_count_74 : decode cX12_count 74 = .ok (.aload_n 0, 1) := by decide +kernel
theorem dX12_count_75 : decode cX12_count 75 = .ok (.getfield 7, 3) := by decide +kernel
theorem dX12_count_78 : decode cX12_count 78 = .ok (.bipush 7, 2) := by decide +kernel
theorem dX12_count_80 : decode cX12_count 80 = .ok (.iaload, 1) := by decide +kernel
theorem dX12_count_81 : decode cX12_count 81 = .ok (.ireturn, 1) := by decide +kernel
theorem dX12_count_82 : decode cX12_count 82 = .ok (.aload_n 0, 1) := by decide +kernel
theorem dX12_count_83 : decode cX12_count 83 = .ok (.getfield 7, 3) := by decide +kernel
theorem dX12_count_86 : decode cX12_count 86 = .ok (.bipush 8, 2) := by decide +kernel
theorem dX12_count_88 : decode cX12_count 88 = .ok (.iaload, 1) := by decide +kernel
theorem dX12_count_89 : decode cX12_count 89 = .ok (.ireturn, 1) := by decide +kernel
theorem dX12_count_90 : decode cX12_count 90 = .ok (.aload_n 0, 1) := by decide +kernel
theorem dX12_count_91 : decode cX12_count 91 = .ok (.getfield 7, 3) := by decide +kernel
theorem dX12_count_94 : decode cX12_count 94 = .ok (.bipush 9, 2) := by decide +kernel
theorem dX12_count_96 : decode cX12_count 96 = .ok (.iaload, 1) := by decide +kernel
theorem dX12_count_97 : decode cX12_count 97 = .ok (.ireturn, 1) := by decide +kernel
theorem dX12_count_98 : decode cX12_count 98 = .ok (.aload_n 0, 1) := by decide +kernel
theorem dX12_count_99 : decode cX12_count 99 = .ok (.invokevirtual 179, 3) := by decide +kernel
theorem dX12_count_102 : decode cX12_count 102 = .ok (.ireturn, 1) := by decide +kernel
theorem dX12_count_103 : decode cX12_count 103 = .ok (.aload_n 0, 1) := by decide +kernel
theorem dX12_count_104 : decode cX12_count 104 = .ok (.invokevirtual 197, 3) := by decide +kernel
theorem dX12_count_107 : decode cX12_count 107 = .ok (.ireturn, 1) := by decide +kernel
theorem dX12_count_108 : decode cX12_count 108 = .ok (.aload_n 0, 1) := by decide +kernel
theorem dX12_count_109 : decode cX12_count 109 = .ok (.getfield 7, 3) := by decide +kernel
theorem dX12_count_112 : decode cX12_count 112 = .ok (.iconst 3, 1) := by decide +kernel
theorem dX12_count_113 : decode cX12_count 113 = .ok (.iaload, 1) := by decide +kernel
theorem dX12_count_114 : decode cX12_count 114 = .ok (.ireturn, 1) := by decide +kernel
theorem dX12_count_115 : decode cX12_count 115 = .ok (.aload_n 0, 1) := by decide +kernel
theorem dX12_count_116 : decode cX12_count 116 = .ok (.getfield 7, 3) := by decide +kernel
theorem dX12_count_119 : decode cX12_count 119 = .ok (.iconst 4, 1) := by decide +kernel
theorem dX12_count_120 : decode cX12_count 120 = .ok (.iaload, 1) := by decide +kernel
theorem dX12_count_121 : decode cX12_count 121 = .ok (.ireturn, 1) := by decide +kernel
theorem dX12_count_122 : decode cX12_count 122 = .ok (.aload_n 0, 1) := by decide +kernel
theorem dX12_count_123 : decode cX12_count 123 = .ok (.getfield 212, 3) := by decide +kernel
theorem dX12_count_126 : decode cX12_count 126 = .ok (.ireturn, 1) := by decide +kernel
theorem dX12_count_127 : decode cX12_count 127 = .ok (.aload_n 0, 1) := by decide +kernel
theorem dX12_count_128 : decode cX12_count 128 = .ok (.getfield 7, 3) := by decide +kernel
theorem dX12_count_131 : decode cX12_count 131 = .ok (.iconst 1, 1) := by decide +kernel
theorem dX12_count_132 : decode cX12_count 132 = .ok (.iaload, 1) := by decide +kernel
theorem dX12_count_133 : decode cX12_count 133 = .ok (.ireturn, 1) := by decide +kernel
theorem dX12_count_134 : decode cX12_count 134 = .ok (.aload_n 0, 1) := by decide +kernel
theorem dX12_count_135 : decode cX12_count 135 = .ok (.ldc 45, 2) := by decide +kernel
theorem dX12_count_137 : decode cX12_count 137 = .ok (.invokevirtual 46, 3) := by decide +kernel
theorem dX12_count_140 : decode cX12_count 140 = .ok (.ireturn, 1) := by decide +kernel
theorem dX12_told_0 : decode cX12_told 0 = .ok (.iload_n 1, 1) := by decide +kernel
theorem dX12_told_1 : decode cX12_told 1 = .ok (.iconst 1, 1) := by decide +kernel
theorem dX12_told_2 : decode cX12_told 2 = .ok (.iconst 5, 1) := by decide +kernel
theorem dX12_told_3 : decode cX12_told 3 = .ok (.invokestatic 41, 3) := by decide +kernel
theorem dX12_told_6 : decode cX12_told 6 = .ok (.ifCond .eq 12, 3) := by decide +kernel
theorem dX12_told_9 : decode cX12_told 9 = .ok (.aload_n 0, 1) := by decide +kernel
theorem dX12_told_10 : decode cX12_told 10 = .ok (.getfield 22, 3) := by decide +kernel
theorem dX12_told_13 : decode cX12_told 13 = .ok (.iload_n 1, 1) := by decide +kernel
theorem dX12_told_14 : decode cX12_told 14 = .ok (.iaload, 1) := by decide +kernel
theorem dX12_told_15 : decode cX12_told 15 = .ok (.goto 9, 3) := by decide +kernel
theorem dX12_told_18 : decode cX12_told 18 = .ok (.aload_n 0, 1) := by decide +kernel
theorem dX12_told_19 : decode cX12_told 19 = .ok (.ldc 45, 2) := by decide +kernel
theorem dX12_told_21 : decode cX12_told 21 = .ok (.invokevirtual 46, 3) := by decide +kernel
theorem dX12_told_24 : decode cX12_told 24 = .ok (.ireturn, 1) := by decide +kernel
theorem dJ11_isValidCodePoint_9a6ad_0 : decode cJ11_isValidCodePoint_9a6ad 0 = .ok (.iload_n 0, 1) := by decide +kernel
theorem dJ11_isValidCodePoint_9a6ad_1 : decode cJ11_isValidCodePoint_9a6ad 1 = .ok (.bipush 16, 2) := by decide +kernel
theorem dJ11_isValidCodePoint_9a6ad_3 : decode cJ11_isValidCodePoint_9a6ad 3 = .ok (.iushr, 1) := by decide +kernel
theorem dJ11_isValidCodePoint_9a6ad_4 : decode cJ11_isValidCodePoint_9a6ad 4 = .ok (.istore_n 1, 1) := by decide +kernel
theorem dJ11_isValidCodePoint_9a6ad_5 : decode cJ11_isValidCodePoint_9a6ad 5 = .ok (.iload_n 1, 1) := by decide +kernel
theorem dJ11_isValidCodePoint_9a6ad_6 : decode cJ11_isValidCodePoint_9a6ad 6 = .ok (.bipush 17, 2) := by decide +kernel
theorem dJ11_isValidCodePoint_9a6ad_8 : decode cJ11_isValidCodePoint_9a6ad 8 = .ok (.if_icmp .ge 7, 3) := by decide +kernel
theorem dJ11_isValidCodePoint_9a6ad_11 : decode cJ11_isValidCodePoint_9a6ad 11 = .ok (.iconst 1, 1) := by decide +kernel
theorem dJ11_isValidCodePoint_9a6ad_12 : decode cJ11_isValidCodePoint_9a6ad 12 = .ok (.goto 4, 3) := by decide +kernel
theorem dJ11_isValidCodePoint_9a6ad_15 : decode cJ11_isValidCodePoint_9a6ad 15 = .ok (.iconst 0, 1) := by decide +kernel
theorem dJ11_isValidCodePoint_9a6ad_16 : decode cJ11_isValidCodePoint_9a6ad 16 = .ok (.ireturn, 1) := by decide +kernel
theorem dJ11_highSurrogate_5068e_0 : decode cJ11_highSurrogate_5068e 0 = .ok (.iload_n 0, 1) := by decide +kernel
theorem dJ11_highSurrogate_5068e_1 : decode cJ11_highSurrogate_5068e 1 = .ok (.bipush 10, 2) := by decide +kernel
theorem dJ11_highSurrogate_5068e_3 : decode cJ11_highSurrogate_5068e 3 = .ok (.iushr, 1) := by decide +kernel
theorem dJ11_highSurrogate_5068e_4 : decode cJ11_highSurrogate_5068e 4 = .ok (.ldc 110, 2) := by decide +kernel
theorem dJ11_highSurrogate_5068e_6 : decode cJ11_highSurrogate_5068e 6 = .ok (.iadd, 1) := by decide +kernel
theorem dJ11_highSurrogate_5068e_7 : decode cJ11_highSurrogate_5068e 7 = .ok (.i2c, 1) := by decide +kernel
theorem dJ11_highSurrogate_5068e_8 : decode cJ11_highSurrogate_5068e 8 = .ok (.ireturn, 1) := by decide +kernel
theorem dJ11_lowSurrogate_5068e_0 : decode cJ11_lowSurrogate_5068e 0 = .ok (.iload_n 0, 1) := by decide +kernel
theorem dJ11_lowSurrogate_5068e_1 : decode cJ11_lowSurrogate_5068e 1 = .ok (.sipush 1023, 3) := by decide +kernel
theorem dJ11_lowSurrogate_5068e_4 : decode cJ11_lowSurrogate_5068e 4 = .ok (.iand, 1) := by decide +kernel
theorem dJ11_lowSurrogate_5068e_5 : decode cJ11_lowSurrogate_5068e 5 = .ok (.ldc 76, 2) := by decide +kernel
theorem dJ11_lowSurrogate_5068e_7 : decode cJ11_lowSurrogate_5068e 7 = .ok (.iadd, 1) := by decide +kernel
theorem dJ11_lowSurrogate_5068e_8 : decode cJ11_lowSurrogate_5068e 8 = .ok (.i2c, 1) := by decide +kernel
theorem dJ11_lowSurrogate_5068e_9 : decode cJ11_lowSurrogate_5068e 9 = .ok (.ireturn, 1) := by decide +kernel
theorem dJ9_max_7cf53_0 : decode cJ9_max_7cf53 0 = .ok (.iload_n 0, 1) := by decide +kernel
theorem dJ9_max_7cf53_1 : decode cJ9_max_7cf53 1 = .ok (.iload_n 1, 1) := by decide +kernel
theorem dJ9_max_7cf53_2 : decode cJ9_max_7cf53 2 = .ok (.if_icmp .lt 7, 3) := by decide +kernel
theorem dJ9_max_7cf53_5 : decode cJ9_max_7cf53 5 = .ok (.iload_n 0, 1) := by decide +kernel
theorem dJ9_max_7cf53_6 : decode cJ9_max_7cf53 6 = .ok (.goto 4, 3) := by decide +kernel
theorem dJ9_max_7cf53_9 : decode cJ9_max_7cf53 9 = .ok (.iload_n 1, 1) := by decide +kernel
theorem dJ9_max_7cf53_10 : decode cJ9_max_7cf53 10 = .ok (.ireturn, 1) := by decide +kernel
theorem dJ9_min_7cf53_0 : decode cJ9_min_7cf53 0 = .ok (.iload_n 0, 1) := by decide +kernel
theorem dJ9_min_7cf53_1 : decode cJ9_min_7cf53 1 = .ok (.iload_n 1, 1) := by decide +kernel
theorem dJ9_min_7cf53_2 : decode cJ9_min_7cf53 2 = .ok (.if_icmp .gt 7, 3) := by decide +kernel
theorem dJ9_min_7cf53_5 : decode cJ9_min_7cf53 5 = .ok (.iload_n 0, 1) := by decide +kernel
theorem dJ9_min_7cf53_6 : decode cJ9_min_7cf53 6 = .ok (.goto 4, 3) := by decide +kernel
theorem dJ9_min_7cf53_9 : decode cJ9_min_7cf53 9 = .ok (.iload_n 1, 1) := by decide +kernel
theorem dJ9_min_7cf53_10 : decode cJ9_min_7cf53 10 = .ok (.ireturn, 1) := by decide +kernel
theorem dJ0_length_8abf5_0 : decode cJ0_length_8abf5 0 = .ok (.aload_n 0, 1) := by decide +kernel
theorem dJ0_length_8abf5_1 : decode cJ0_length_8abf5 1 = .ok (.getfield 9, 3) := by decide +kernel
theorem dJ0_length_8abf5_4 : decode cJ0_length_8abf5 4 = .ok (.arraylength, 1) := by decide +kernel
theorem dJ0_length_8abf5_5 : decode cJ0_length_8abf5 5 = .ok (.aload_n 0, 1) := by decide +kernel
theorem dJ0_length_8abf5_6 : decode cJ0_length_8abf5 6 = .ok (.invokevirtual 335, 3) := by decide +kernel
theorem dJ0_length_8abf5_9 : decode cJ0_length_8abf5 9 = .ok (.ishr, 1) := by decide +kernel
theorem dJ0_length_8abf5_10 : decode cJ0_length_8abf5 10 = .ok (.ireturn, 1) := by decide +kernel
theorem dJ0_indexOf_0f7a4_0 : decode cJ0_indexOf_0f7a4 0 = .ok (.aload_n 0, 1) := by decide +kernel
theorem dJ0_indexOf_0f7a4_1 : decode cJ0_indexOf_0f7a4 1 = .ok (.iload_n 1, 1) := by decide +kernel
theorem dJ0_indexOf_0f7a4_2 : decode cJ0_indexOf_0f7a4 2 = .ok (.iconst 0, 1) := by decide +kernel
theorem dJ0_indexOf_0f7a4_3 : decode cJ0_indexOf_0f7a4 3 = .ok (.invokevirtual 633, 3) := by decide +kernel
theorem dJ0_indexOf_0f7a4_6 : decode cJ0_indexOf_0f7a4 6 = .ok (.ireturn, 1) := by decide +kernel
theorem dJ0_indexOf_7cf53_0 : decode cJ0_indexOf_7cf53 0 = .ok (.aload_n 0, 1) := by decide +kernel
theorem dJ0_indexOf_7cf53_1 : decode cJ0_indexOf_7cf53 1 = .ok (.invokevirtual 492, 3) := by decide +kernel
theorem dJ0_indexOf_7cf53_4 : decode cJ0_indexOf_7cf53 4 = .ok (.ifCond .eq 19, 3) := by decide +kernel
theorem dJ0_indexOf_7cf53_7 : decode cJ0_indexOf_7cf53 7 = .ok (.aload_n 0, 1) := by decide +kernel
theorem dJ0_indexOf_7cf53_8 : decode cJ0_indexOf_7cf53 8 = .ok (.getfield 9, 3) := by decide +kernel
theorem dJ0_indexOf_7cf53_11 : decode cJ0_indexOf_7cf53 11 = .ok (.iload_n 1, 1) := by decide +kernel
theorem dJ0_indexOf_7cf53_12 : decode cJ0_indexOf_7cf53 12 = .ok (.iload_n 2, 1) := by decide +kernel
theorem dJ0_indexOf_7cf53_13 : decode cJ0_indexOf_7cf53 13 = .ok (.aload_n 0, 1) := by decide +kernel
theorem dJ0_indexOf_7cf53_14 : decode cJ0_indexOf_7cf53 14 = .ok (.invokevirtual 505, 3) := by decide +kernel
theorem dJ0_indexOf_7cf53_17 : decode cJ0_indexOf_7cf53 17 = .ok (.invokestatic 637, 3) := by decide +kernel
theorem dJ0_indexOf_7cf53_20 : decode cJ0_indexOf_7cf53 20 = .ok (.goto 16, 3) := by decide +kernel
theorem dJ0_indexOf_7cf53_23 : decode cJ0_indexOf_7cf53 23 = .ok (.aload_n 0, 1) := by decide +kernel
theorem dJ0_indexOf_7cf53_24 : decode cJ0_indexOf_7cf53 24 = .ok (.getfield 9, 3) := by decide +kernel
theorem dJ0_indexOf_7cf53_27 : decode cJ0_indexOf_7cf53 27 = .ok (.iload_n 1, 1) := by decide +kernel
theorem dJ0_indexOf_7cf53_28 : decode cJ0_indexOf_7cf53 28 = .ok (.iload_n 2, 1) := by decide +kernel
theorem dJ0_indexOf_7cf53_29 : decode cJ0_indexOf_7cf53 29 = .ok (.aload_n 0, 1) := by decide +kernel
theorem dJ0_indexOf_7cf53_30 : decode cJ0_indexOf_7cf53 30 = .ok (.invokevirtual 505, 3) := by decide +kernel
theorem dJ0_indexOf_7cf53_33 : decode cJ0_indexOf_7cf53 33 = .ok (.invokestatic 640, 3) := by decide +kernel
theorem dJ0_indexOf_7cf53_36 : decode cJ0_indexOf_7cf53 36 = .ok (.ireturn, 1) := by decide +kernel
theorem dJ0_coder_7d493_0 : decode cJ0_coder_7d493 0 = .ok (.getstatic 38, 3) := by decide +kernel
theorem dJ0_coder_7d493_3 : decode cJ0_coder_7d493 3 = .ok (.ifCond .eq 10, 3) := by decide +kernel
theorem dJ0_coder_7d493_6 : decode cJ0_coder_7d493 6 = .ok (.aload_n 0, 1) := by decide +kernel
theorem dJ0_coder_7d493_7 : decode cJ0_coder_7d493 7 = .ok (.getfield 15, 3) := by decide +kernel
theorem dJ0_coder_7d493_10 : decode cJ0_coder_7d493 10 = .ok (.goto 4, 3) := by decide +kernel
theorem dJ0_coder_7d493_13 : decode cJ0_coder_7d493 13 = .ok (.iconst 1, 1) := by decide +kernel
theorem dJ0_coder_7d493_14 : decode cJ0_coder_7d493 14 = .ok (.ireturn, 1) := by decide +kernel
theorem dJ0_isLatin1_aae02_0 : decode cJ0_isLatin1_aae02 0 = .ok (.getstatic 38, 3) := by decide +kernel
theorem dJ0_isLatin1_aae02_3 : decode cJ0_isLatin1_aae02 3 = .ok (.ifCond .eq 14, 3) := by decide +kernel
theorem dJ0_isLatin1_aae02_6 : decode cJ0_isLatin1_aae02 6 = .ok (.aload_n 0, 1) := by decide +kernel
theorem dJ0_isLatin1_aae02_7 : decode cJ0_isLatin1_aae02 7 = .ok (.getfield 15, 3) := by decide +kernel
theorem dJ0_isLatin1_aae02_10 : decode cJ0_isLatin1_aae02 10 = .ok (.ifCond .ne 7, 3) := by decide +kernel
theorem dJ0_isLatin1_aae02_13 : decode cJ0_isLatin1_aae02 13 = .ok (.iconst 1, 1) := by decide +kernel
theorem dJ0_isLatin1_aae02_14 : decode cJ0_isLatin1_aae02 14 = .ok (.goto 4, 3) := by decide +kernel
theorem dJ0_isLatin1_aae02_17 : decode cJ0_isLatin1_aae02 17 = .ok (.iconst 0, 1) := by decide +kernel
theorem dJ0_isLatin1_aae02_18 : decode cJ0_isLatin1_aae02 18 = .ok (.ireturn, 1) := by decide +kernel
theorem dJ0_checkBoundsBeginEnd_23922_0 : decode cJ0_checkBoundsBeginEnd_23922 0 = .ok (.iload_n 0, 1) := by decide +kernel
theorem dJ0_checkBoundsBeginEnd_23922_1 : decode cJ0_checkBoundsBeginEnd_23922 1 = .ok (.iload_n 1, 1) := by decide +kernel
theorem dJ0_checkBoundsBeginEnd_23922_2 : decode cJ0_checkBoundsBeginEnd_23922 2 = .ok (.iload_n 2, 1) := by decide +kernel
theorem dJ0_checkBoundsBeginEnd_23922_3 : decode cJ0_checkBoundsBeginEnd_23922 3 = .ok (.getstatic 1053, 3) := by decide +kernel
theorem dJ0_checkBoundsBeginEnd_23922_6 : decode cJ0_checkBoundsBeginEnd_23922 6 = .ok (.invokestatic 1062, 3) := by decide +kernel
theorem dJ0_checkBoundsBeginEnd_23922_9 : decode cJ0_checkBoundsBeginEnd_23922 9 = .ok (.pop, 1) := by decide +kernel
theorem dJ0_checkBoundsBeginEnd_23922_10 : decode cJ0_checkBoundsBeginEnd_23922 10 = .ok (.return_, 1) := by decide +kernel
theorem dJ1_canEncode_9a6ad_0 : decode cJ1_canEncode_9a6ad 0 = .ok (.iload_n 0, 1) := by decide +kernel
theorem dJ1_canEncode_9a6ad_1 : decode cJ1_canEncode_9a6ad 1 = .ok (.ifCond .lt 14, 3) := by decide +kernel
theorem dJ1_canEncode_9a6ad_4 : decode cJ1_canEncode_9a6ad 4 = .ok (.iload_n 0, 1) := by decide +kernel
theorem dJ1_canEncode_9a6ad_5 : decode cJ1_canEncode_9a6ad 5 = .ok (.sipush 255, 3) := by decide +kernel
theorem dJ1_canEncode_9a6ad_8 : decode cJ1_canEncode_9a6ad 8 = .ok (.if_icmp .gt 7, 3) := by decide +kernel
theorem dJ1_canEncode_9a6ad_11 : decode cJ1_canEncode_9a6ad 11 = .ok (.iconst 1, 1) := by decide +kernel
theorem dJ1_canEncode_9a6ad_12 : decode cJ1_canEncode_9a6ad 12 = .ok (.goto 4, 3) := by decide +kernel
theorem dJ1_canEncode_9a6ad_15 : decode cJ1_canEncode_9a6ad 15 = .ok (.iconst 0, 1) := by decide +kernel
theorem dJ1_canEncode_9a6ad_16 : decode cJ1_canEncode_9a6ad 16 = .ok (.ireturn, 1) := by decide +kernel
theorem dJ1_indexOf_4cfef_0 : decode cJ1_indexOf_4cfef 0 = .ok (.iload_n 1, 1) := by decide +kernel
theorem dJ1_indexOf_4cfef_1 : decode cJ1_indexOf_4cfef 1 = .ok (.invokestatic 88, 3) := by decide +kernel
theorem dJ1_indexOf_4cfef_4 : decode cJ1_indexOf_4cfef 4 = .ok (.ifCond .ne 5, 3) := by decide +kernel
theorem dJ1_indexOf_4cfef_7 : decode cJ1_indexOf_4cfef 7 = .ok (.iconst (-1), 1) := by decide +kernel
theorem dJ1_indexOf_4cfef_8 : decode cJ1_indexOf_4cfef 8 = .ok (.ireturn, 1) := by decide +kernel
theorem dJ1_indexOf_4cfef_9 : decode cJ1_indexOf_4cfef 9 = .ok (.iload_n 2, 1) := by decide +kernel
theorem dJ1_indexOf_4cfef_10 : decode cJ1_indexOf_4cfef 10 = .ok (.iconst 0, 1) := by decide +kernel
theorem dJ1_indexOf_4cfef_11 : decode cJ1_indexOf_4cfef 11 = .ok (.invokestatic 92, 3) := by decide +kernel
theorem dJ1_indexOf_4cfef_14 : decode cJ1_indexOf_4cfef 14 = .ok (.istore_n 2, 1) := by decide +kernel
theorem dJ1_indexOf_4cfef_15 : decode cJ1_indexOf_4cfef 15 = .ok (.iload_n 3, 1) := by decide +kernel
theorem dJ1_indexOf_4cfef_16 : decode cJ1_indexOf_4cfef 16 = .ok (.aload_n 0, 1) := by decide +kernel
theorem dJ1_indexOf_4cfef_17 : decode cJ1_indexOf_4cfef 17 = .ok (.arraylength, 1) := by decide +kernel
theorem dJ1_indexOf_4cfef_18 : decode cJ1_indexOf_4cfef 18 = .ok (.invokestatic 38, 3) := by decide +kernel
theorem dJ1_indexOf_4cfef_21 : decode cJ1_indexOf_4cfef 21 = .ok (.istore_n 3, 1) := by decide +kernel
