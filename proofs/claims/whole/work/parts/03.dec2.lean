theorem dX11_move_85 : decode cX11_move 85 = .ok (.invokevirtual 277, 3) := by decide +kernel
theorem dX11_move_88 : decode cX11_move 88 = .ok (.ifCond .ne 10, 3) := by decide +kernel
theorem dX11_move_91 : decode cX11_move 91 = .ok (.aload_n 0, 1) := by decide +kernel
theorem dX11_move_92 : decode cX11_move 92 = .ok (.ldc 83, 2) := by decide +kernel
theorem dX11_move_94 : decode cX11_move 94 = .ok (.invokevirtual 84, 3) := by decide +kernel
theorem dX11_move_97 : decode cX11_move 97 = .ok (.ireturn, 1) := by decide +kernel
theorem dX11_move_98 : decode cX11_move 98 = .ok (.aload_n 0, 1) := by decide +kernel
theorem dX11_move_99 : decode cX11_move 99 = .ok (.getfield 66, 3) := by decide +kernel
theorem dX11_move_102 : decode cX11_move 102 = .ok (.iload_n 1, 1) := by decide +kernel
theorem dX11_move_103 : decode cX11_move 103 = .ok (.aaload, 1) := by decide +kernel
theorem dX11_move_104 : decode cX11_move 104 = .ok (.iload_n 2, 1) := by decide +kernel
theorem dX11_move_105 : decode cX11_move 105 = .ok (.aload_n 0, 1) := by decide +kernel
theorem dX11_move_106 : decode cX11_move 106 = .ok (.getfield 66, 3) := by decide +kernel
theorem dX11_move_109 : decode cX11_move 109 = .ok (.iload_n 3, 1) := by decide +kernel
theorem dX11_move_110 : decode cX11_move 110 = .ok (.aaload, 1) := by decide +kernel
theorem dX11_move_111 : decode cX11_move 111 = .ok (.iload 4, 2) := by decide +kernel
theorem dX11_move_113 : decode cX11_move 113 = .ok (.iload 5, 2) := by decide +kernel
theorem dX11_move_115 : decode cX11_move 115 = .ok (.invokestatic 280, 3) := by decide +kernel
theorem dX11_move_118 : decode cX11_move 118 = .ok (.iload 5, 2) := by decide +kernel
theorem dX11_move_120 : decode cX11_move 120 = .ok (.ireturn, 1) := by decide +kernel
theorem dX11_dirts_0 : decode cX11_dirts 0 = .ok (.iload_n 1, 1) := by decide +kernel
theorem dX11_dirts_1 : decode cX11_dirts 1 = .ok (.invokestatic 230, 3) := by decide +kernel
theorem dX11_dirts_4 : decode cX11_dirts 4 = .ok (.ifCond .ne 10, 3) := by decide +kernel
theorem dX11_dirts_7 : decode cX11_dirts 7 = .ok (.aload_n 0, 1) := by decide +kernel
theorem dX11_dirts_8 : decode cX11_dirts 8 = .ok (.ldc 83, 2) := by decide +kernel
theorem dX11_dirts_10 : decode cX11_dirts 10 = .ok (.invokevirtual 84, 3) := by decide +kernel
theorem dX11_dirts_13 : decode cX11_dirts 13 = .ok (.ireturn, 1) := by decide +kernel
theorem dX11_dirts_14 : decode cX11_dirts 14 = .ok (.aload_n 0, 1) := by decide +kernel
theorem dX11_dirts_15 : decode cX11_dirts 15 = .ok (.getfield 69, 3) := by decide +kernel
theorem dX11_dirts_18 : decode cX11_dirts 18 = .ok (.iload_n 1, 1) := by decide +kernel
theorem dX11_dirts_19 : decode cX11_dirts 19 = .ok (.iaload, 1) := by decide +kernel
theorem dX11_dirts_20 : decode cX11_dirts 20 = .ok (.ifCond .ne 10, 3) := by decide +kernel
theorem dX11_dirts_23 : decode cX11_dirts 23 = .ok (.aload_n 0, 1) := by decide +kernel
theorem dX11_dirts_24 : decode cX11_dirts 24 = .ok (.ldc 208, 2) := by decide +kernel
theorem dX11_dirts_26 : decode cX11_dirts 26 = .ok (.invokevirtual 84, 3) := by decide +kernel
theorem dX11_dirts_29 : decode cX11_dirts 29 = .ok (.ireturn, 1) := by decide +kernel
theorem dX11_dirts_30 : decode cX11_dirts 30 = .ok (.aload_n 0, 1) := by decide +kernel
theorem dX11_dirts_31 : decode cX11_dirts 31 = .ok (.getfield 73, 3) := by decide +kernel
theorem dX11_dirts_34 : decode cX11_dirts 34 = .ok (.iload_n 1, 1) := by decide +kernel
theorem dX11_dirts_35 : decode cX11_dirts 35 = .ok (.iaload, 1) := by decide +kernel
theorem dX11_dirts_36 : decode cX11_dirts 36 = .ok (.aload_n 0, 1) := by decide +kernel
theorem dX11_dirts_37 : decode cX11_dirts 37 = .ok (.getfield 40, 3) := by decide +kernel
theorem dX11_dirts_40 : decode cX11_dirts 40 = .ok (.getfield 88, 3) := by decide +kernel
theorem dX11_dirts_43 : decode cX11_dirts 43 = .ok (.invokestatic 215, 3) := by decide +kernel
theorem dX11_dirts_46 : decode cX11_dirts 46 = .ok (.istore_n 2, 1) := by decide +kernel
theorem dX11_dirts_47 : decode cX11_dirts 47 = .ok (.iconst 0, 1) := by decide +kernel
theorem dX11_dirts_48 : decode cX11_dirts 48 = .ok (.istore_n 3, 1) := by decide +kernel
theorem dX11_dirts_49 : decode cX11_dirts 49 = .ok (.iload_n 3, 1) := by decide +kernel
theorem dX11_dirts_50 : decode cX11_dirts 50 = .ok (.iload_n 2, 1) := by decide +kernel
theorem dX11_dirts_51 : decode cX11_dirts 51 = .ok (.if_icmp .ge 44, 3) := by decide +kernel
theorem dX11_dirts_54 : decode cX11_dirts 54 = .ok (.aload_n 0, 1) := by decide +kernel
theorem dX11_dirts_55 : decode cX11_dirts 55 = .ok (.getfield 66, 3) := by decide +kernel
theorem dX11_dirts_58 : decode cX11_dirts 58 = .ok (.iload_n 1, 1) := by decide +kernel
theorem dX11_dirts_59 : decode cX11_dirts 59 = .ok (.aaload, 1) := by decide +kernel
theorem dX11_dirts_60 : decode cX11_dirts 60 = .ok (.iload_n 3, 1) := by decide +kernel
theorem dX11_dirts_61 : decode cX11_dirts 61 = .ok (.iaload, 1) := by decide +kernel
theorem dX11_dirts_62 : decode cX11_dirts 62 = .ok (.istore 4, 2) := by decide +kernel
theorem dX11_dirts_64 : decode cX11_dirts 64 = .ok (.iload 4, 2) := by decide +kernel
theorem dX11_dirts_66 : decode cX11_dirts 66 = .ok (.iconst 0, 1) := by decide +kernel
theorem dX11_dirts_67 : decode cX11_dirts 67 = .ok (.sipush 999, 3) := by decide +kernel
theorem dX11_dirts_70 : decode cX11_dirts 70 = .ok (.invokestatic 79, 3) := by decide +kernel
theorem dX11_dirts_73 : decode cX11_dirts 73 = .ok (.ifCond .ne 5, 3) := by decide +kernel
theorem dX11_dirts_76 : decode cX11_dirts 76 = .ok (.iload_n 3, 1) := by decide +kernel
theorem dX11_dirts_77 : decode cX11_dirts 77 = .ok (.ireturn, 1) := by decide +kernel
theorem dX11_dirts_78 : decode cX11_dirts 78 = .ok (.aload_n 0, 1) := by decide +kernel
theorem dX11_dirts_79 : decode cX11_dirts 79 = .ok (.getfield 40, 3) := by decide +kernel
theorem dX11_dirts_82 : decode cX11_dirts 82 = .ok (.getfield 97, 3) := by decide +kernel
theorem dX11_dirts_85 : decode cX11_dirts 85 = .ok (.iload_n 3, 1) := by decide +kernel
theorem dX11_dirts_86 : decode cX11_dirts 86 = .ok (.iload 4, 2) := by decide +kernel
theorem dX11_dirts_88 : decode cX11_dirts 88 = .ok (.iastore, 1) := by decide +kernel
theorem dX11_dirts_89 : decode cX11_dirts 89 = .ok (.iinc 3 1, 3) := by decide +kernel
theorem dX11_dirts_92 : decode cX11_dirts 92 = .ok (.goto (-43), 3) := by decide +kernel
theorem dX11_dirts_95 : decode cX11_dirts 95 = .ok (.iload_n 2, 1) := by decide +kernel
theorem dX11_dirts_96 : decode cX11_dirts 96 = .ok (.ireturn, 1) := by decide +kernel
theorem dX11_judge_0 : decode cX11_judge 0 = .ok (.iload_n 1, 1) := by decide +kernel
theorem dX11_judge_1 : decode cX11_judge 1 = .ok (.invokestatic 230, 3) := by decide +kernel
theorem dX11_judge_4 : decode cX11_judge 4 = .ok (.ifCond .ne 10, 3) := by decide +kernel
theorem dX11_judge_7 : decode cX11_judge 7 = .ok (.aload_n 0, 1) := by decide +kernel
theorem dX11_judge_8 : decode cX11_judge 8 = .ok (.ldc 83, 2) := by decide +kernel
theorem dX11_judge_10 : decode cX11_judge 10 = .ok (.invokevirtual 84, 3) := by decide +kernel
theorem dX11_judge_13 : decode cX11_judge 13 = .ok (.ireturn, 1) := by decide +kernel
theorem dX11_judge_14 : decode cX11_judge 14 = .ok (.aload_n 0, 1) := by decide +kernel
theorem dX11_judge_15 : decode cX11_judge 15 = .ok (.getfield 69, 3) := by decide +kernel
theorem dX11_judge_18 : decode cX11_judge 18 = .ok (.iload_n 1, 1) := by decide +kernel
theorem dX11_judge_19 : decode cX11_judge 19 = .ok (.iaload, 1) := by decide +kernel
theorem dX11_judge_20 : decode cX11_judge 20 = .ok (.ifCond .ne 10, 3) := by decide +kernel
theorem dX11_judge_23 : decode cX11_judge 23 = .ok (.aload_n 0, 1) := by decide +kernel
theorem dX11_judge_24 : decode cX11_judge 24 = .ok (.ldc 208, 2) := by decide +kernel
theorem dX11_judge_26 : decode cX11_judge 26 = .ok (.invokevirtual 84, 3) := by decide +kernel
theorem dX11_judge_29 : decode cX11_judge 29 = .ok (.ireturn, 1) := by decide +kernel
theorem dX11_judge_30 : decode cX11_judge 30 = .ok (.aload_n 0, 1) := by decide +kernel
theorem dX11_judge_31 : decode cX11_judge 31 = .ok (.getfield 73, 3) := by decide +kernel
theorem dX11_judge_34 : decode cX11_judge 34 = .ok (.iload_n 1, 1) := by decide +kernel
theorem dX11_judge_35 : decode cX11_judge 35 = .ok (.iaload, 1) := by decide +kernel
theorem dX11_judge_36 : decode cX11_judge 36 = .ok (.aload_n 0, 1) := by decide +kernel
theorem dX11_judge_37 : decode cX11_judge 37 = .ok (.getfield 40, 3) := by decide +kernel
theorem dX11_judge_40 : decode cX11_judge 40 = .ok (.getfield 88, 3) := by decide +kernel
theorem dX11_judge_43 : decode cX11_judge 43 = .ok (.invokestatic 215, 3) := by decide +kernel
theorem dX11_judge_46 : decode cX11_judge 46 = .ok (.istore_n 2, 1) := by decide +kernel
theorem dX11_judge_47 : decode cX11_judge 47 = .ok (.iconst 0, 1) := by decide +kernel
theorem dX11_judge_48 : decode cX11_judge 48 = .ok (.istore_n 3, 1) := by decide +kernel
theorem dX11_judge_49 : decode cX11_judge 49 = .ok (.iload_n 3, 1) := by decide +kernel
theorem dX11_judge_50 : decode cX11_judge 50 = .ok (.iload_n 2, 1) := by decide +kernel
theorem dX11_judge_51 : decode cX11_judge 51 = .ok (.if_icmp .ge 30, 3) := by decide +kernel
theorem dX11_judge_54 : decode cX11_judge 54 = .ok (.aload_n 0, 1) := by decide +kernel
theorem dX11_judge_55 : decode cX11_judge 55 = .ok (.getfield 66, 3) := by decide +kernel
theorem dX11_judge_58 : decode cX11_judge 58 = .ok (.iload_n 1, 1) := by decide +kernel
theorem dX11_judge_59 : decode cX11_judge 59 = .ok (.aaload, 1) := by decide +kernel
theorem dX11_judge_60 : decode cX11_judge 60 = .ok (.iload_n 3, 1) := by decide +kernel
theorem dX11_judge_61 : decode cX11_judge 61 = .ok (.iaload, 1) := by decide +kernel
theorem dX11_judge_62 : decode cX11_judge 62 = .ok (.aload_n 0, 1) := by decide +kernel
theorem dX11_judge_63 : decode cX11_judge 63 = .ok (.getfield 40, 3) := by decide +kernel
theorem dX11_judge_66 : decode cX11_judge 66 = .ok (.iload_n 3, 1) := by decide +kernel
theorem dX11_judge_67 : decode cX11_judge 67 = .ok (.invokevirtual 123, 3) := by decide +kernel
theorem dX11_judge_70 : decode cX11_judge 70 = .ok (.if_icmp .eq 5, 3) := by decide +kernel
theorem dX11_judge_73 : decode cX11_judge 73 = .ok (.iload_n 3, 1) := by decide +kernel
theorem dX11_judge_74 : decode cX11_judge 74 = .ok (.ireturn, 1) := by decide +kernel
theorem dX11_judge_75 : decode cX11_judge 75 = .ok (.iinc 3 1, 3) := by decide +kernel
theorem dX11_judge_78 : decode cX11_judge 78 = .ok (.goto (-29), 3) := by decide +kernel
theorem dX11_judge_81 : decode cX11_judge 81 = .ok (.aload_n 0, 1) := by decide +kernel
theorem dX11_judge_82 : decode cX11_judge 82 = .ok (.getfield 73, 3) := by decide +kernel
theorem dX11_judge_85 : decode cX11_judge 85 = .ok (.iload_n 1, 1) := by decide +kernel
theorem dX11_judge_86 : decode cX11_judge 86 = .ok (.iaload, 1) := by decide +kernel
theorem dX11_judge_87 : decode cX11_judge 87 = .ok (.aload_n 0, 1) := by decide +kernel
theorem dX11_judge_88 : decode cX11_judge 88 = .ok (.getfield 40, 3) := by decide +kernel
theorem dX11_judge_91 : decode cX11_judge 91 = .ok (.getfield 88, 3) := by decide +kernel
theorem dX11_judge_94 : decode cX11_judge 94 = .ok (.if_icmp .ne 7, 3) := by decide +kernel
theorem dX11_judge_97 : decode cX11_judge 97 = .ok (.iconst (-1), 1) := by decide +kernel
theorem dX11_judge_98 : decode cX11_judge 98 = .ok (.goto 4, 3) := by decide +kernel
theorem dX11_judge_101 : decode cX11_judge 101 = .ok (.iload_n 2, 1) := by decide +kernel
theorem dX11_judge_102 : decode cX11_judge 102 = .ok (.ireturn, 1) := by decide +kernel
theorem dX11_image_0 : decode cX11_image 0 = .ok (.aload_n 0, 1) := by decide +kernel
theorem dX11_image_1 : decode cX11_image 1 = .ok (.getfield 47, 3) := by decide +kernel
theorem dX11_image_4 : decode cX11_image 4 = .ok (.aload_n 0, 1) := by decide +kernel
theorem dX11_image_5 : decode cX11_image 5 = .ok (.getfield 40, 3) := by decide +kernel
theorem dX11_image_8 : decode cX11_image 8 = .ok (.invokevirtual 286, 3) := by decide +kernel
theorem dX11_image_11 : decode cX11_image 11 = .ok (.aload_n 0, 1) := by decide +kernel
theorem dX11_image_12 : decode cX11_image 12 = .ok (.dup, 1) := by decide +kernel
theorem dX11_image_13 : decode cX11_image 13 = .ok (.getfield 289, 3) := by decide +kernel
theorem dX11_image_16 : decode cX11_image 16 = .ok (.iconst 1, 1) := by decide +kernel
theorem dX11_image_17 : decode cX11_image 17 = .ok (.iadd, 1) := by decide +kernel
theorem dX11_image_18 : decode cX11_image 18 = .ok (.putfield 289, 3) := by decide +kernel
theorem dX11_image_21 : decode cX11_image 21 = .ok (.aload_n 0, 1) := by decide +kernel
theorem dX11_image_22 : decode cX11_image 22 = .ok (.getfield 289, 3) := by decide +kernel
theorem dX11_image_25 : decode cX11_image 25 = .ok (.ireturn, 1) := by decide +kernel
theorem dX11_restore_0 : decode cX11_restore 0 = .ok (.aload_n 0, 1) := by decide +kernel
theorem dX11_restore_1 : decode cX11_restore 1 = .ok (.getfield 289, 3) := by decide +kernel
theorem dX11_restore_4 : decode cX11_restore 4 = .ok (.ifCond .ne 10, 3) := by decide +kernel
theorem dX11_restore_7 : decode cX11_restore 7 = .ok (.aload_n 0, 1) := by decide +kernel
theorem dX11_restore_8 : decode cX11_restore 8 = .ok (.ldc 208, 2) := by decide +kernel
theorem dX11_restore_10 : decode cX11_restore 10 = .ok (.invokevirtual 84, 3) := by decide +kernel
theorem dX11_restore_13 : decode cX11_restore 13 = .ok (.ireturn, 1) := by decide +kernel
theorem dX11_restore_14 : decode cX11_restore 14 = .ok (.aload_n 0, 1) := by decide +kernel
theorem dX11_restore_15 : decode cX11_restore 15 = .ok (.getfield 40, 3) := by decide +kernel
theorem dX11_restore_18 : decode cX11_restore 18 = .ok (.aload_n 0, 1) := by decide +kernel
theorem dX11_restore_19 : decode cX11_restore 19 = .ok (.getfield 47, 3) := by decide +kernel
theorem dX11_restore_22 : decode cX11_restore 22 = .ok (.invokevirtual 286, 3) := by decide +kernel
theorem dX11_restore_25 : decode cX11_restore 25 = .ok (.aload_n 0, 1) := by decide +kernel
theorem dX11_restore_26 : decode cX11_restore 26 = .ok (.getfield 40, 3) := by decide +kernel
theorem dX11_restore_29 : decode cX11_restore 29 = .ok (.getfield 155, 3) := by decide +kernel
theorem dX11_restore_32 : decode cX11_restore 32 = .ok (.ireturn, 1) := by decide +kernel
theorem dX11_tell_0 : decode cX11_tell 0 = .ok (.aload_n 0, 1) := by decide +kernel
theorem dX11_tell_1 : decode cX11_tell 1 = .ok (.getfield 40, 3) := by decide +kernel
theorem dX11_tell_4 : decode cX11_tell 4 = .ok (.getfield 292, 3) := by decide +kernel
theorem dX11_tell_7 : decode cX11_tell 7 = .ok (.bipush 20, 2) := by decide +kernel
theorem dX11_tell_9 : decode cX11_tell 9 = .ok (.if_icmp .lt 10, 3) := by decide +kernel
theorem dX11_tell_12 : decode cX11_tell 12 = .ok (.aload_n 0, 1) := by decide +kernel
theorem dX11_tell_13 : decode cX11_tell 13 = .ok (.ldc 92, 2) := by decide +kernel
theorem dX11_tell_15 : decode cX11_tell 15 = .ok (.invokevirtual 84, 3) := by decide +kernel
theorem dX11_tell_18 : decode cX11_tell 18 = .ok (.ireturn, 1) := by decide +kernel
theorem dX11_tell_19 : decode cX11_tell 19 = .ok (.aload_n 0, 1) := by decide +kernel
theorem dX11_tell_20 : decode cX11_tell 20 = .ok (.getfield 40, 3) := by decide +kernel
theorem dX11_tell_23 : decode cX11_tell 23 = .ok (.getfield 295, 3) := by decide +kernel
theorem dX11_tell_26 : decode cX11_tell 26 = .ok (.aload_n 0, 1) := by decide +kernel
theorem dX11_tell_27 : decode cX11_tell 27 = .ok (.getfield 40, 3) := by decide +kernel
theorem dX11_tell_30 : decode cX11_tell 30 = .ok (.getfield 292, 3) := by decide +kernel
theorem dX11_tell_33 : decode cX11_tell 33 = .ok (.iload_n 1, 1) := by decide +kernel
theorem dX11_tell_34 : decode cX11_tell 34 = .ok (.iastore, 1) := by decide +kernel
theorem dX11_tell_35 : decode cX11_tell 35 = .ok (.aload_n 0, 1) := by decide +kernel
theorem dX11_tell_36 : decode cX11_tell 36 = .ok (.getfield 40, 3) := by decide +kernel
theorem dX11_tell_39 : decode cX11_tell 39 = .ok (.dup, 1) := by decide +kernel
theorem dX11_tell_40 : decode cX11_tell 40 = .ok (.getfield 292, 3) := by decide +kernel
theorem dX11_tell_43 : decode cX11_tell 43 = .ok (.iconst 1, 1) := by decide +kernel
theorem dX11_tell_44 : decode cX11_tell 44 = .ok (.iadd, 1) := by decide +kernel
theorem dX11_tell_45 : decode cX11_tell 45 = .ok (.putfield 292, 3) := by decide +kernel
theorem dX11_tell_48 : decode cX11_tell 48 = .ok (.aload_n 0, 1) := by decide +kernel
theorem dX11_tell_49 : decode cX11_tell 49 = .ok (.getfield 40, 3) := by decide +kernel
theorem dX11_tell_52 : decode cX11_tell 52 = .ok (.getfield 292, 3) := by decide +kernel
theorem dX11_tell_55 : decode cX11_tell 55 = .ok (.ireturn, 1) := by decide +kernel
theorem dX11_check_0 : decode cX11_check 0 = .ok (.aload_n 0, 1) := by decide +kernel
theorem dX11_check_1 : decode cX11_check 1 = .ok (.getfield 40, 3) := by decide +kernel
theorem dX11_check_4 : decode cX11_check 4 = .ok (.getfield 292, 3) := by decide +kernel
theorem dX11_check_7 : decode cX11_check 7 = .ok (.istore_n 1, 1) := by decide +kernel
theorem dX11_check_8 : decode cX11_check 8 = .ok (.aload_n 0, 1) := by decide +kernel
theorem dX11_check_9 : decode cX11_check 9 = .ok (.getfield 40, 3) := by decide +kernel
theorem dX11_check_12 : decode cX11_check 12 = .ok (.iconst 0, 1) := by decide +kernel
theorem dX11_check_13 : decode cX11_check 13 = .ok (.putfield 292, 3) := by decide +kernel
theorem dX11_check_16 : decode cX11_check 16 = .ok (.aload_n 0, 1) := by decide +kernel
theorem dX11_check_17 : decode cX11_check 17 = .ok (.getfield 44, 3) := by decide +kernel
theorem dX11_check_20 : decode cX11_check 20 = .ok (.aload_n 0, 1) := by decide +kernel
theorem dX11_check_21 : decode cX11_check 21 = .ok (.getfield 40, 3) := by decide +kernel
theorem dX11_check_24 : decode cX11_check 24 = .ok (.invokevirtual 198, 3) := by decide +kernel
theorem dX11_check_27 : decode cX11_check 27 = .ok (.iconst 0, 1) := by decide +kernel
theorem dX11_check_28 : decode cX11_check 28 = .ok (.istore_n 2, 1) := by decide +kernel
theorem dX11_check_29 : decode cX11_check 29 = .ok (.iload_n 2, 1) := by decide +kernel
theorem dX11_check_30 : decode cX11_check 30 = .ok (.iload_n 1, 1) := by decide +kernel
theorem dX11_check_31 : decode cX11_check 31 = .ok (.if_icmp .ge 40, 3) := by decide +kernel
theorem dX11_check_34 : decode cX11_check 34 = .ok (.aload_n 0, 1) := by decide +kernel
theorem dX11_check_35 : decode cX11_check 35 = .ok (.getfield 44, 3) := by decide +kernel
theorem dX11_check_38 : decode cX11_check 38 = .ok (.iconst 1, 1) := by decide +kernel
theorem dX11_check_39 : decode cX11_check 39 = .ok (.invokevirtual 187, 3) := by decide +kernel
theorem dX11_check_42 : decode cX11_check 42 = .ok (.aload_n 0, 1) := by decide +kernel
theorem dX11_check_43 : decode cX11_check 43 = .ok (.getfield 44, 3) := by decide +kernel
theorem dX11_check_46 : decode cX11_check 46 = .ok (.invokevirtual 191, 3) := by decide +kernel
theorem dX11_check_49 : decode cX11_check 49 = .ok (.aload_n 0, 1) := by decide +kernel
theorem dX11_check_50 : decode cX11_check 50 = .ok (.getfield 40, 3) := by decide +kernel
theorem dX11_check_53 : decode cX11_check 53 = .ok (.getfield 295, 3) := by decide +kernel
theorem dX11_check_56 : decode cX11_check 56 = .ok (.iload_n 2, 1) := by decide +kernel
theorem dX11_check_57 : decode cX11_check 57 = .ok (.iaload, 1) := by decide +kernel
theorem dX11_check_58 : decode cX11_check 58 = .ok (.if_icmp .eq 7, 3) := by decide +kernel
theorem dX11_check_61 : decode cX11_check 61 = .ok (.iconst 1, 1) := by decide +kernel
theorem dX11_check_62 : decode cX11_check 62 = .ok (.iload_n 2, 1) := by decide +kernel
theorem dX11_check_63 : decode cX11_check 63 = .ok (.iadd, 1) := by decide +kernel
theorem dX11_check_64 : decode cX11_check 64 = .ok (.ireturn, 1) := by decide +kernel
theorem dX11_check_65 : decode cX11_check 65 = .ok (.iinc 2 1, 3) := by decide +kernel
theorem dX11_check_68 : decode cX11_check 68 = .ok (.goto (-39), 3) := by decide +kernel
theorem dX11_check_71 : decode cX11_check 71 = .ok (.iconst 0, 1) := by decide +kernel
theorem dX11_check_72 : decode cX11_check 72 = .ok (.ireturn, 1) := by decide +kernel
theorem dX11_count_0 : decode cX11_count 0 = .ok (.iload_n 1, 1) := by decide +kernel
theorem dX11_count_1 : decode cX11_count 1 = .ok (.tableswitch 147 0 10 #[59, 67, 75, 83, 91, 99, 107, 115, 123, 131, 139], 59) := by decide +kernel
theorem dX11_count_60 : decode cX11_count 60 = .ok (.aload_n 0, 1) := by decide +kernel
theorem dX11_count_61 : decode cX11_count 61 = .ok (.getfield 40, 3) := by decide +kernel
theorem dX11_count_64 : decode cX11_count 64 = .ok (.getfield 88, 3) := by decide +kernel
theorem dX11_count_67 : decode cX11_count 67 = .ok (.ireturn, 1) := by decide +kernel
theorem dX11_count_68 : decode cX11_count 68 = .ok (.aload_n 0, 1) := by decide +kernel
theorem dX11_count_69 : decode cX11_count 69 = .ok (.getfield 40, 3) := by decide +kernel
theorem dX11_count_72 : decode cX11_count 72 = .ok (.getfield 155, 3) := by decide +kernel
theorem dX11_count_75 : decode cX11_count 75 = .ok (.ireturn, 1) := by decide +kernel
theorem dX11_count_76 : decode cX11_count 76 = .ok (.aload_n 0, 1) := by decide +kernel
theorem dX11_count_77 : decode cX11_count 77 = .ok (.getfield 40, 3) := by decide +kernel
theorem dX11_count_80 : decode cX11_count 80 = .ok (.getfield 138, 3) := by decide +kernel
theorem dX11_count_83 : decode cX11_count 83 = .ok (.ireturn, 1) := by decide +kernel
theorem dX11_count_84 : decode cX11_count 84 = .ok (.aload_n 0, 1) := by decide +kernel
theorem dX11_count_85 : decode cX11_count 85 = .ok (.getfield 40, 3) := by decide +kernel
theorem dX11_count_88 : decode cX11_count 88 = .ok (.getfield 141, 3) := by decide +kernel
theorem dX11_count_91 : decode cX11_count 91 = .ok (.ireturn, 1) := by decide +kernel
theorem dX11_count_92 : decode cX11_count 92 = .ok (.aload_n 0, 1) := by decide +kernel
theorem dX11_count_93 : decode cX11_count 93 = .ok (.getfield 40, 3) := by decide +kernel
theorem dX11_count_96 : decode cX11_count 96 = .ok (.getfield 144, 3) := by decide +kernel
theorem dX11_count_99 : decode cX11_count 99 = .ok (.ireturn, 1) := by decide +kernel
theorem dX11_count_100 : decode cX11_count 100 = .ok (.aload_n 0, 1) := by decide +kernel
theorem dX11_count_101 : decode cX11_count 101 = .ok (.getfield 40, 3) := by decide +kernel
theorem dX11_count_104 : decode cX11_count 104 = .ok (.invokevirtual 191, 3) := by decide +kernel
theorem dX11_count_107 : decode cX11_count 107 = .ok (.ireturn, 1) := by decide +kernel
theorem dX11_count_108 : decode cX11_count 108 = .ok (.aload_n 0, 1) := by decide +kernel
theorem dX11_count_109 : decode cX11_count 109 = .ok (.getfield 40, 3) := by decide +kernel
theorem dX11_count_112 : decode cX11_count 112 = .ok (.getfield 236, 3) := by decide +kernel
theorem dX11_count_115 : decode cX11_count 115 = .ok (.ireturn, 1) := by decide +kernel
theorem dX11_count_116 : decode cX11_count 116 = .ok (.aload_n 0, 1) := by decide +kernel
theorem dX11_count_117 : decode cX11_count 117 = .ok (.getfield 40, 3) := by decide +kernel
theorem dX11_count_120 : decode cX11_count 120 = .ok (.getfield 161, 3) := by decide +kernel
theorem dX11_count_123 : decode cX11_count 123 = .ok (.ireturn, 1) := by decide +kernel
theorem dX11_count_124 : decode cX11_count 124 = .ok (.aload_n 0, 1) := by decide +kernel
theorem dX11_count_125 : decode cX11_count 125 = .ok (.getfield 40, 3) := by decide +kernel
theorem dX11_count_128 : decode cX11_count 128 = .ok (.getfield 292, 3) := by decide +kernel
theorem dX11_count_131 : decode cX11_count 131 = .ok (.ireturn, 1) := by decide +kernel
theorem dX11_count_132 : decode cX11_count 132 = .ok (.aload_n 0, 1) := by decide +kernel
theorem dX11_count_133 : decode cX11_count 133 = .ok (.getfield 60, 3) := by decide +kernel
theorem dX11_count_136 : decode cX11_count 136 = .ok (.getfield 265, 3) := by decide +kernel
theorem dX11_count_139 : decode cX11_count 139 = .ok (.ireturn, 1) := by decide +kernel
theorem dX11_count_140 : decode cX11_count 140 = .ok (.aload_n 0, 1) := by decide +kernel
theorem dX11_count_141 : decode cX11_count 141 = .ok (.getfield 40, 3) := by decide +kernel
theorem dX11_count_144 : decode cX11_count 144 = .ok (.getfield 242, 3) := by decide +kernel
theorem dX11_count_147 : decode cX11_count 147 = .ok (.ireturn, 1) := by decide +kernel
theorem dX11_count_148 : decode cX11_count 148 = .ok (.aload_n 0, 1) := by decide +kernel
theorem dX11_count_149 : decode cX11_count 149 = .ok (.ldc 83, 2) := by decide +kernel
theorem dX11_count_151 : decode cX11_count 151 = .ok (.invokevirtual 84, 3) := by decide +kernel
theorem dX11_count_154 : decode cX11_count 154 = .ok (.ireturn, 1) := by decide +kernel
theorem dX11_told_0 : decode cX11_told 0 = .ok (.iload_n 1, 1) := by decide +kernel
theorem dX11_told_1 : decode cX11_told 1 = .ok (.iconst 1, 1) := by decide +kernel
theorem dX11_told_2 : decode cX11_told 2 = .ok (.iconst 5, 1) := by decide +kernel
theorem dX11_told_3 : decode cX11_told 3 = .ok (.invokestatic 79, 3) := by decide +kernel
theorem dX11_told_6 : decode cX11_told 6 = .ok (.ifCond .ne 10, 3) := by decide +kernel
theorem dX11_told_9 : decode cX11_told 9 = .ok (.aload_n 0, 1) := by decide +kernel
theorem dX11_told_10 : decode cX11_told 10 = .ok (.ldc 83, 2) := by decide +kernel
theorem dX11_told_12 : decode cX11_told 12 = .ok (.invokevirtual 84, 3) := by decide +kernel
theorem dX11_told_15 : decode cX11_told 15 = .ok (.ireturn, 1) := by decide +kernel
theorem dX11_told_16 : decode cX11_told 16 = .ok (.aload_n 0, 1) := by decide +kernel
theorem dX11_told_17 : decode cX11_told 17 = .ok (.getfield 76, 3) := by decide +kernel
theorem dX11_told_20 : decode cX11_told 20 = .ok (.iload_n 1, 1) := by decide +kernel
theorem dX11_told_21 : decode cX11_told 21 = .ok (.iaload, 1) := by decide +kernel
theorem dX11_told_22 : decode cX11_told 22 = .ok (.ireturn, 1) := by decide +kernel
theorem dX11_fail_0 : decode cX11_fail 0 = .ok (.aload_n 0, 1) := by decide +kernel
theorem dX11_fail_1 : decode cX11_fail 1 = .ok (.getfield 76, 3) := by decide +kernel
theorem dX11_fail_4 : decode cX11_fail 4 = .ok (.ldc_w 298, 3) := by decide +kernel
theorem dX11_fail_7 : decode cX11_fail 7 = .ok (.iload_n 1, 1) := by decide +kernel
theorem dX11_fail_8 : decode cX11_fail 8 = .ok (.isub, 1) := by decide +kernel
theorem dX11_fail_9 : decode cX11_fail 9 = .ok (.dup2, 1) := by decide +kernel
theorem dX11_fail_10 : decode cX11_fail 10 = .ok (.iaload, 1) := by decide +kernel
theorem dX11_fail_11 : decode cX11_fail 11 = .ok (.iconst 1, 1) := by decide +kernel
theorem dX11_fail_12 : decode cX11_fail 12 = .ok (.iadd, 1) := by decide +kernel
theorem dX11_fail_13 : decode cX11_fail 13 = .ok (.iastore, 1) := by decide +kernel
theorem dX11_fail_14 : decode cX11_fail 14 = .ok (.iload_n 1, 1) := by decide +kernel
theorem dX11_fail_15 : decode cX11_fail 15 = .ok (.ireturn, 1) := by decide +kernel
theorem dX11_within_0 : decode cX11_within 0 = .ok (.iload_n 1, 1) := by decide +kernel
theorem dX11_within_1 : decode cX11_within 1 = .ok (.iload_n 0, 1) := by decide +kernel
theorem dX11_within_2 : decode cX11_within 2 = .ok (.if_icmp .gt 12, 3) := by decide +kernel
theorem dX11_within_5 : decode cX11_within 5 = .ok (.iload_n 0, 1) := by decide +kernel
theorem dX11_within_6 : decode cX11_within 6 = .ok (.iload_n 2, 1) := by decide +kernel
theorem dX11_within_7 : decode cX11_within 7 = .ok (.if_icmp .gt 7, 3) := by decide +kernel
theorem dX11_within_10 : decode cX11_within 10 = .ok (.iconst 1, 1) := by decide +kernel
theorem dX11_within_11 : decode cX11_within 11 = .ok (.goto 4, 3) := by decide +kernel
theorem dX11_within_14 : decode cX11_within 14 = .ok (.iconst 0, 1) := by decide +kernel
theorem dX11_within_15 : decode cX11_within 15 = .ok (.ireturn, 1) := by decide +kernel
theorem dX11_mostOfYard_0 : decode cX11_mostOfYard 0 = .ok (.iload_n 0, 1) := by decide +kernel
theorem dX11_mostOfYard_1 : decode cX11_mostOfYard 1 = .ok (.ifCond .ne 7, 3) := by decide +kernel
theorem dX11_mostOfYard_4 : decode cX11_mostOfYard 4 = .ok (.sipush 999, 3) := by decide +kernel
theorem dX11_mostOfYard_7 : decode cX11_mostOfYard 7 = .ok (.ireturn, 1) := by decide +kernel
theorem dX11_mostOfYard_8 : decode cX11_mostOfYard 8 = .ok (.iload_n 0, 1) := by decide +kernel
theorem dX11_mostOfYard_9 : decode cX11_mostOfYard 9 = .ok (.iconst 1, 1) := by decide +kernel
theorem dX11_mostOfYard_10 : decode cX11_mostOfYard 10 = .ok (.if_icmp .ne 7, 3) := by decide +kernel
theorem dX11_mostOfYard_13 : decode cX11_mostOfYard 13 = .ok (.iconst 1, 1) := by decide +kernel
theorem dX11_mostOfYard_14 : decode cX11_mostOfYard 14 = .ok (.goto 5, 3) := by decide +kernel
theorem dX11_mostOfYard_17 : decode cX11_mostOfYard 17 = .ok (.bipush 99, 2) := by decide +kernel
theorem dX11_mostOfYard_19 : decode cX11_mostOfYard 19 = .ok (.ireturn, 1) := by decide +kernel
theorem dX11_mostOfStreet_0 : decode cX11_mostOfStreet 0 = .ok (.iload_n 0, 1) := by decide +kernel
theorem dX11_mostOfStreet_1 : decode cX11_mostOfStreet 1 = .ok (.ifCond .ne 6, 3) := by decide +kernel
theorem dX11_mostOfStreet_4 : decode cX11_mostOfStreet 4 = .ok (.bipush 9, 2) := by decide +kernel
theorem dX11_mostOfStreet_6 : decode cX11_mostOfStreet 6 = .ok (.ireturn, 1) := by decide +kernel
theorem dX11_mostOfStreet_7 : decode cX11_mostOfStreet 7 = .ok (.iload_n 0, 1) := by decide +kernel
theorem dX11_mostOfStreet_8 : decode cX11_mostOfStreet 8 = .ok (.iconst 1, 1) := by decide +kernel
theorem dX11_mostOfStreet_9 : decode cX11_mostOfStreet 9 = .ok (.if_icmp .ne 8, 3) := by decide +kernel
theorem dX11_mostOfStreet_12 : decode cX11_mostOfStreet 12 = .ok (.bipush 99, 2) := by decide +kernel
theorem dX11_mostOfStreet_14 : decode cX11_mostOfStreet 14 = .ok (.goto 6, 3) := by decide +kernel
theorem dX11_mostOfStreet_17 : decode cX11_mostOfStreet 17 = .ok (.ldc_w 299, 3) := by decide +kernel
theorem dX11_mostOfStreet_20 : decode cX11_mostOfStreet 20 = .ok (.ireturn, 1) := by decide +kernel
theorem dX11_isUnder_0 : decode cX11_isUnder 0 = .ok (.iload_n 0, 1) := by decide +kernel
theorem dX11_isUnder_1 : decode cX11_isUnder 1 = .ok (.istore_n 2, 1) := by decide +kernel
theorem dX11_isUnder_2 : decode cX11_isUnder 2 = .ok (.iconst 0, 1) := by decide +kernel
theorem dX11_isUnder_3 : decode cX11_isUnder 3 = .ok (.istore_n 3, 1) := by decide +kernel
theorem dX11_isUnder_4 : decode cX11_isUnder 4 = .ok (.iload_n 3, 1) := by decide +kernel
theorem dX11_isUnder_5 : decode cX11_isUnder 5 = .ok (.getstatic 147, 3) := by decide +kernel
theorem dX11_isUnder_8 : decode cX11_isUnder 8 = .ok (.arraylength, 1) := by decide +kernel
theorem dX11_isUnder_9 : decode cX11_isUnder 9 = .ok (.if_icmp .ge 26, 3) := by decide +kernel
theorem dX11_isUnder_12 : decode cX11_isUnder 12 = .ok (.iload_n 2, 1) := by decide +kernel
theorem dX11_isUnder_13 : decode cX11_isUnder 13 = .ok (.ifCond .lt 22, 3) := by decide +kernel
theorem dX11_isUnder_16 : decode cX11_isUnder 16 = .ok (.iload_n 2, 1) := by decide +kernel
theorem dX11_isUnder_17 : decode cX11_isUnder 17 = .ok (.iload_n 1, 1) := by decide +kernel
theorem dX11_isUnder_18 : decode cX11_isUnder 18 = .ok (.if_icmp .ne 5, 3) := by decide +kernel
theorem dX11_isUnder_21 : decode cX11_isUnder 21 = .ok (.iconst 1, 1) := by decide +kernel
theorem dX11_isUnder_22 : decode cX11_isUnder 22 = .ok (.ireturn, 1) := by decide +kernel
theorem dX11_isUnder_23 : decode cX11_isUnder 23 = .ok (.getstatic 147, 3) := by decide +kernel
theorem dX11_isUnder_26 : decode cX11_isUnder 26 = .ok (.iload_n 2, 1) := by decide +kernel
theorem dX11_isUnder_27 : decode cX11_isUnder 27 = .ok (.iaload, 1) := by decide +kernel
theorem dX11_isUnder_28 : decode cX11_isUnder 28 = .ok (.istore_n 2, 1) := by decide +kernel
theorem dX11_isUnder_29 : decode cX11_isUnder 29 = .ok (.iinc 3 1, 3) := by decide +kernel
theorem dX11_isUnder_32 : decode cX11_isUnder 32 = .ok (.goto (-28), 3) := by decide +kernel
theorem dX11_isUnder_35 : decode cX11_isUnder 35 = .ok (.iconst 0, 1) := by decide +kernel
theorem dX11_isUnder_36 : decode cX11_isUnder 36 = .ok (.ireturn, 1) := by decide +kernel
theorem dX11_dirtOnceSwept_0 : decode cX11_dirtOnceSwept 0 = .ok (.aload_n 0, 1) := by decide +kernel
theorem dX11_dirtOnceSwept_1 : decode cX11_dirtOnceSwept 1 = .ok (.getfield 44, 3) := by decide +kernel
theorem dX11_dirtOnceSwept_4 : decode cX11_dirtOnceSwept 4 = .ok (.aload_n 0, 1) := by decide +kernel
theorem dX11_dirtOnceSwept_5 : decode cX11_dirtOnceSwept 5 = .ok (.getfield 40, 3) := by decide +kernel
theorem dX11_dirtOnceSwept_8 : decode cX11_dirtOnceSwept 8 = .ok (.invokevirtual 198, 3) := by decide +kernel
theorem dX11_dirtOnceSwept_11 : decode cX11_dirtOnceSwept 11 = .ok (.aload_n 0, 1) := by decide +kernel
theorem dX11_dirtOnceSwept_12 : decode cX11_dirtOnceSwept 12 = .ok (.getfield 44, 3) := by decide +kernel
theorem dX11_dirtOnceSwept_15 : decode cX11_dirtOnceSwept 15 = .ok (.iconst 0, 1) := by decide +kernel
theorem dX11_dirtOnceSwept_16 : decode cX11_dirtOnceSwept 16 = .ok (.aload_n 0, 1) := by decide +kernel
theorem dX11_dirtOnceSwept_17 : decode cX11_dirtOnceSwept 17 = .ok (.getfield 44, 3) := by decide +kernel
theorem dX11_dirtOnceSwept_20 : decode cX11_dirtOnceSwept 20 = .ok (.getfield 88, 3) := by decide +kernel
theorem dX11_dirtOnceSwept_23 : decode cX11_dirtOnceSwept 23 = .ok (.iconst 1, 1) := by decide +kernel
theorem dX11_dirtOnceSwept_24 : decode cX11_dirtOnceSwept 24 = .ok (.iload_n 1, 1) := by decide +kernel
theorem dX11_dirtOnceSwept_25 : decode cX11_dirtOnceSwept 25 = .ok (.ishl, 1) := by decide +kernel
theorem dX11_dirtOnceSwept_26 : decode cX11_dirtOnceSwept 26 = .ok (.invokevirtual 300, 3) := by decide +kernel
theorem dX11_dirtOnceSwept_29 : decode cX11_dirtOnceSwept 29 = .ok (.aload_n 0, 1) := by decide +kernel
theorem dX11_dirtOnceSwept_30 : decode cX11_dirtOnceSwept 30 = .ok (.getfield 44, 3) := by decide +kernel
theorem dX11_dirtOnceSwept_33 : decode cX11_dirtOnceSwept 33 = .ok (.invokevirtual 191, 3) := by decide +kernel
theorem dX11_dirtOnceSwept_36 : decode cX11_dirtOnceSwept 36 = .ok (.ireturn, 1) := by decide +kernel
theorem dX11_staysBelow_0 : decode cX11_staysBelow 0 = .ok (.aload_n 0, 1) := by decide +kernel
theorem dX11_staysBelow_1 : decode cX11_staysBelow 1 = .ok (.getfield 44, 3) := by decide +kernel
theorem dX11_staysBelow_4 : decode cX11_staysBelow 4 = .ok (.aload_n 0, 1) := by decide +kernel
theorem dX11_staysBelow_5 : decode cX11_staysBelow 5 = .ok (.getfield 40, 3) := by decide +kernel
theorem dX11_staysBelow_8 : decode cX11_staysBelow 8 = .ok (.invokevirtual 198, 3) := by decide +kernel
theorem dX11_staysBelow_11 : decode cX11_staysBelow 11 = .ok (.iconst 1, 1) := by decide +kernel
theorem dX11_staysBelow_12 : decode cX11_staysBelow 12 = .ok (.istore_n 3, 1) := by decide +kernel
theorem dX11_staysBelow_13 : decode cX11_staysBelow 13 = .ok (.iload_n 3, 1) := by decide +kernel
theorem dX11_staysBelow_14 : decode cX11_staysBelow 14 = .ok (.bipush 28, 2) := by decide +kernel
theorem dX11_staysBelow_16 : decode cX11_staysBelow 16 = .ok (.if_icmp .gt 58, 3) := by decide +kernel
theorem dX11_staysBelow_19 : decode cX11_staysBelow 19 = .ok (.aload_n 0, 1) := by decide +kernel
theorem dX11_staysBelow_20 : decode cX11_staysBelow 20 = .ok (.getfield 44, 3) := by decide +kernel
theorem dX11_staysBelow_23 : decode cX11_staysBelow 23 = .ok (.getfield 155, 3) := by decide +kernel
theorem dX11_staysBelow_26 : decode cX11_staysBelow 26 = .ok (.iload_n 2, 1) := by decide +kernel
theorem dX11_staysBelow_27 : decode cX11_staysBelow 27 = .ok (.irem, 1) := by decide +kernel
theorem dX11_staysBelow_28 : decode cX11_staysBelow 28 = .ok (.ifCond .ne 7, 3) := by decide +kernel
theorem dX11_staysBelow_31 : decode cX11_staysBelow 31 = .ok (.iconst 3, 1) := by decide +kernel
theorem dX11_staysBelow_32 : decode cX11_staysBelow 32 = .ok (.goto 4, 3) := by decide +kernel
theorem dX11_staysBelow_35 : decode cX11_staysBelow 35 = .ok (.iconst 0, 1) := by decide +kernel
theorem dX11_staysBelow_36 : decode cX11_staysBelow 36 = .ok (.istore 4, 2) := by decide +kernel
theorem dX11_staysBelow_38 : decode cX11_staysBelow 38 = .ok (.aload_n 0, 1) := by decide +kernel
theorem dX11_staysBelow_39 : decode cX11_staysBelow 39 = .ok (.getfield 44, 3) := by decide +kernel
theorem dX11_staysBelow_42 : decode cX11_staysBelow 42 = .ok (.iconst 0, 1) := by decide +kernel
theorem dX11_staysBelow_43 : decode cX11_staysBelow 43 = .ok (.aload_n 0, 1) := by decide +kernel
theorem dX11_staysBelow_44 : decode cX11_staysBelow 44 = .ok (.getfield 44, 3) := by decide +kernel
theorem dX11_staysBelow_47 : decode cX11_staysBelow 47 = .ok (.getfield 88, 3) := by decide +kernel
theorem dX11_staysBelow_50 : decode cX11_staysBelow 50 = .ok (.iload 4, 2) := by decide +kernel
theorem dX11_staysBelow_52 : decode cX11_staysBelow 52 = .ok (.invokevirtual 304, 3) := by decide +kernel
theorem dX11_staysBelow_55 : decode cX11_staysBelow 55 = .ok (.aload_n 0, 1) := by decide +kernel
theorem dX11_staysBelow_56 : decode cX11_staysBelow 56 = .ok (.getfield 44, 3) := by decide +kernel
theorem dX11_staysBelow_59 : decode cX11_staysBelow 59 = .ok (.iload_n 1, 1) := by decide +kernel
theorem dX11_staysBelow_60 : decode cX11_staysBelow 60 = .ok (.invokevirtual 205, 3) := by decide +kernel
theorem dX11_staysBelow_63 : decode cX11_staysBelow 63 = .ok (.ifCond .lt 5, 3) := by decide +kernel
theorem dX11_staysBelow_66 : decode cX11_staysBelow 66 = .ok (.iconst 0, 1) := by decide +kernel
theorem dX11_staysBelow_67 : decode cX11_staysBelow 67 = .ok (.ireturn, 1) := by decide +kernel
theorem dX11_staysBelow_68 : decode cX11_staysBelow 68 = .ok (.iinc 3 1, 3) := by decide +kernel
theorem dX11_staysBelow_71 : decode cX11_staysBelow 71 = .ok (.goto (-58), 3) := by decide +kernel
theorem dX11_staysBelow_74 : decode cX11_staysBelow 74 = .ok (.iconst 1, 1) := by decide +kernel
theorem dX11_staysBelow_75 : decode cX11_staysBelow 75 = .ok (.ireturn, 1) := by decide +kernel
theorem dX11_dirtWithout_0 : decode cX11_dirtWithout 0 = .ok (.aload_n 0, 1) := by decide +kernel
theorem dX11_dirtWithout_1 : decode cX11_dirtWithout 1 = .ok (.getfield 44, 3) := by decide +kernel
theorem dX11_dirtWithout_4 : decode cX11_dirtWithout 4 = .ok (.aload_n 0, 1) := by decide +kernel
theorem dX11_dirtWithout_5 : decode cX11_dirtWithout 5 = .ok (.getfield 40, 3) := by decide +kernel
theorem dX11_dirtWithout_8 : decode cX11_dirtWithout 8 = .ok (.invokevirtual 198, 3) := by decide +kernel
theorem dX11_dirtWithout_11 : decode cX11_dirtWithout 11 = .ok (.aload_n 0, 1) := by decide +kernel
theorem dX11_dirtWithout_12 : decode cX11_dirtWithout 12 = .ok (.getfield 44, 3) := by decide +kernel
theorem dX11_dirtWithout_15 : decode cX11_dirtWithout 15 = .ok (.dup, 1) := by decide +kernel
theorem dX11_dirtWithout_16 : decode cX11_dirtWithout 16 = .ok (.getfield 236, 3) := by decide +kernel
theorem dX11_dirtWithout_19 : decode cX11_dirtWithout 19 = .ok (.iload_n 1, 1) := by decide +kernel
theorem dX11_dirtWithout_20 : decode cX11_dirtWithout 20 = .ok (.iconst (-1), 1) := by decide +kernel
theorem dX11_dirtWithout_21 : decode cX11_dirtWithout 21 = .ok (.ixor, 1) := by decide +kernel
theorem dX11_dirtWithout_22 : decode cX11_dirtWithout 22 = .ok (.iand, 1) := by decide +kernel
theorem dX11_dirtWithout_23 : decode cX11_dirtWithout 23 = .ok (.putfield 236, 3) := by decide +kernel
theorem dX11_dirtWithout_26 : decode cX11_dirtWithout 26 = .ok (.aload_n 0, 1) := by decide +kernel
theorem dX11_dirtWithout_27 : decode cX11_dirtWithout 27 = .ok (.getfield 44, 3) := by decide +kernel
theorem dX11_dirtWithout_30 : decode cX11_dirtWithout 30 = .ok (.iload_n 3, 1) := by decide +kernel
theorem dX11_dirtWithout_31 : decode cX11_dirtWithout 31 = .ok (.iload_n 2, 1) := by decide +kernel
theorem dX11_dirtWithout_32 : decode cX11_dirtWithout 32 = .ok (.invokevirtual 202, 3) := by decide +kernel
theorem dX11_dirtWithout_35 : decode cX11_dirtWithout 35 = .ok (.ireturn, 1) := by decide +kernel
theorem dX11_leastPairToTow_0 : decode cX11_leastPairToTow 0 = .ok (.iconst 1, 1) := by decide +kernel
theorem dX11_leastPairToTow_1 : decode cX11_leastPairToTow 1 = .ok (.istore 4, 2) := by decide +kernel
theorem dX11_leastPairToTow_3 : decode cX11_leastPairToTow 3 = .ok (.iload 4, 2) := by decide +kernel
theorem dX11_leastPairToTow_5 : decode cX11_leastPairToTow 5 = .ok (.aload_n 0, 1) := by decide +kernel
theorem dX11_leastPairToTow_6 : decode cX11_leastPairToTow 6 = .ok (.getfield 40, 3) := by decide +kernel
theorem dX11_leastPairToTow_9 : decode cX11_leastPairToTow 9 = .ok (.getfield 88, 3) := by decide +kernel
theorem dX11_leastPairToTow_12 : decode cX11_leastPairToTow 12 = .ok (.if_icmp .ge 66, 3) := by decide +kernel
theorem dX11_leastPairToTow_15 : decode cX11_leastPairToTow 15 = .ok (.iconst 0, 1) := by decide +kernel
theorem dX11_leastPairToTow_16 : decode cX11_leastPairToTow 16 = .ok (.istore 5, 2) := by decide +kernel
theorem dX11_leastPairToTow_18 : decode cX11_leastPairToTow 18 = .ok (.iload 5, 2) := by decide +kernel
theorem dX11_leastPairToTow_20 : decode cX11_leastPairToTow 20 = .ok (.iload 4, 2) := by decide +kernel
theorem dX11_leastPairToTow_22 : decode cX11_leastPairToTow 22 = .ok (.if_icmp .ge 50, 3) := by decide +kernel
theorem dX11_leastPairToTow_25 : decode cX11_leastPairToTow 25 = .ok (.iconst 1, 1) := by decide +kernel
theorem dX11_leastPairToTow_26 : decode cX11_leastPairToTow 26 = .ok (.iload 4, 2) := by decide +kernel
theorem dX11_leastPairToTow_28 : decode cX11_leastPairToTow 28 = .ok (.ishl, 1) := by decide +kernel
theorem dX11_leastPairToTow_29 : decode cX11_leastPairToTow 29 = .ok (.iconst 1, 1) := by decide +kernel
theorem dX11_leastPairToTow_30 : decode cX11_leastPairToTow 30 = .ok (.iload 5, 2) := by decide +kernel
theorem dX11_leastPairToTow_32 : decode cX11_leastPairToTow 32 = .ok (.ishl, 1) := by decide +kernel
theorem dX11_leastPairToTow_33 : decode cX11_leastPairToTow 33 = .ok (.ior, 1) := by decide +kernel
theorem dX11_leastPairToTow_34 : decode cX11_leastPairToTow 34 = .ok (.istore 6, 2) := by decide +kernel
theorem dX11_leastPairToTow_36 : decode cX11_leastPairToTow 36 = .ok (.aload_n 0, 1) := by decide +kernel
theorem dX11_leastPairToTow_37 : decode cX11_leastPairToTow 37 = .ok (.getfield 40, 3) := by decide +kernel
theorem dX11_leastPairToTow_40 : decode cX11_leastPairToTow 40 = .ok (.getfield 236, 3) := by decide +kernel
theorem dX11_leastPairToTow_43 : decode cX11_leastPairToTow 43 = .ok (.iload 6, 2) := by decide +kernel
theorem dX11_leastPairToTow_45 : decode cX11_leastPairToTow 45 = .ok (.iand, 1) := by decide +kernel
theorem dX11_leastPairToTow_46 : decode cX11_leastPairToTow 46 = .ok (.iload 6, 2) := by decide +kernel
theorem dX11_leastPairToTow_48 : decode cX11_leastPairToTow 48 = .ok (.if_icmp .ne 18, 3) := by decide +kernel
theorem dX11_leastPairToTow_51 : decode cX11_leastPairToTow 51 = .ok (.aload_n 0, 1) := by decide +kernel
theorem dX11_leastPairToTow_52 : decode cX11_leastPairToTow 52 = .ok (.iload 6, 2) := by decide +kernel
theorem dX11_leastPairToTow_54 : decode cX11_leastPairToTow 54 = .ok (.iload_n 1, 1) := by decide +kernel
theorem dX11_leastPairToTow_55 : decode cX11_leastPairToTow 55 = .ok (.iload_n 3, 1) := by decide +kernel
theorem dX11_leastPairToTow_56 : decode cX11_leastPairToTow 56 = .ok (.invokevirtual 221, 3) := by decide +kernel
theorem dX11_leastPairToTow_59 : decode cX11_leastPairToTow 59 = .ok (.iload_n 2, 1) := by decide +kernel
theorem dX11_leastPairToTow_60 : decode cX11_leastPairToTow 60 = .ok (.if_icmp .ge 6, 3) := by decide +kernel
theorem dX11_leastPairToTow_63 : decode cX11_leastPairToTow 63 = .ok (.iload 6, 2) := by decide +kernel
theorem dX11_leastPairToTow_65 : decode cX11_leastPairToTow 65 = .ok (.ireturn, 1) := by decide +kernel
theorem dX11_leastPairToTow_66 : decode cX11_leastPairToTow 66 = .ok (.iinc 5 1, 3) := by decide +kernel
theorem dX11_leastPairToTow_69 : decode cX11_leastPairToTow 69 = .ok (.goto (-51), 3) := by decide +kernel
theorem dX11_leastPairToTow_72 : decode cX11_leastPairToTow 72 = .ok (.iinc 4 1, 3) := by decide +kernel
theorem dX11_leastPairToTow_75 : decode cX11_leastPairToTow 75 = .ok (.goto (-72), 3) := by decide +kernel
theorem dX11_leastPairToTow_78 : decode cX11_leastPairToTow 78 = .ok (.iconst 0, 1) := by decide +kernel
theorem dX11_leastPairToTow_79 : decode cX11_leastPairToTow 79 = .ok (.ireturn, 1) := by decide +kernel
theorem dX11_liesAs_0 : decode cX11_liesAs 0 = .ok (.iconst 0, 1) := by decide +kernel
theorem dX11_liesAs_1 : decode cX11_liesAs 1 = .ok (.istore_n 2, 1) := by decide +kernel
theorem dX11_liesAs_2 : decode cX11_liesAs 2 = .ok (.iload_n 2, 1) := by decide +kernel
theorem dX11_liesAs_3 : decode cX11_liesAs 3 = .ok (.aload_n 0, 1) := by decide +kernel
theorem dX11_liesAs_4 : decode cX11_liesAs 4 = .ok (.getfield 44, 3) := by decide +kernel
theorem dX11_liesAs_7 : decode cX11_liesAs 7 = .ok (.getfield 88, 3) := by decide +kernel
theorem dX11_liesAs_10 : decode cX11_liesAs 10 = .ok (.if_icmp .ge 31, 3) := by decide +kernel
theorem dX11_liesAs_13 : decode cX11_liesAs 13 = .ok (.aload_n 0, 1) := by decide +kernel
theorem dX11_liesAs_14 : decode cX11_liesAs 14 = .ok (.getfield 66, 3) := by decide +kernel
theorem dX11_liesAs_17 : decode cX11_liesAs 17 = .ok (.iload_n 1, 1) := by decide +kernel
theorem dX11_liesAs_18 : decode cX11_liesAs 18 = .ok (.aaload, 1) := by decide +kernel
theorem dX11_liesAs_19 : decode cX11_liesAs 19 = .ok (.iload_n 2, 1) := by decide +kernel
theorem dX11_liesAs_20 : decode cX11_liesAs 20 = .ok (.iaload, 1) := by decide +kernel
theorem dX11_liesAs_21 : decode cX11_liesAs 21 = .ok (.aload_n 0, 1) := by decide +kernel
theorem dX11_liesAs_22 : decode cX11_liesAs 22 = .ok (.getfield 44, 3) := by decide +kernel
theorem dX11_liesAs_25 : decode cX11_liesAs 25 = .ok (.getfield 97, 3) := by decide +kernel
theorem dX11_liesAs_28 : decode cX11_liesAs 28 = .ok (.iload_n 2, 1) := by decide +kernel
theorem dX11_liesAs_29 : decode cX11_liesAs 29 = .ok (.iaload, 1) := by decide +kernel
theorem dX11_liesAs_30 : decode cX11_liesAs 30 = .ok (.if_icmp .eq 5, 3) := by decide +kernel
theorem dX11_liesAs_33 : decode cX11_liesAs 33 = .ok (.iconst 0, 1) := by decide +kernel
theorem dX11_liesAs_34 : decode cX11_liesAs 34 = .ok (.ireturn, 1) := by decide +kernel
theorem dX11_liesAs_35 : decode cX11_liesAs 35 = .ok (.iinc 2 1, 3) := by decide +kernel
theorem dX11_liesAs_38 : decode cX11_liesAs 38 = .ok (.goto (-36), 3) := by decide +kernel
theorem dX11_liesAs_41 : decode cX11_liesAs 41 = .ok (.iconst 1, 1) := by decide +kernel
theorem dX11_liesAs_42 : decode cX11_liesAs 42 = .ok (.ireturn, 1) := by decide +kernel
theorem dX11_commonPart_0 : decode cX11_commonPart 0 = .ok (.iload_n 1, 1) := by decide +kernel
theorem dX11_commonPart_1 : decode cX11_commonPart 1 = .ok (.istore_n 2, 1) := by decide +kernel
theorem dX11_commonPart_2 : decode cX11_commonPart 2 = .ok (.iload_n 2, 1) := by decide +kernel
theorem dX11_commonPart_3 : decode cX11_commonPart 3 = .ok (.iconst 1, 1) := by decide +kernel
theorem dX11_commonPart_4 : decode cX11_commonPart 4 = .ok (.if_icmp .le 23, 3) := by decide +kernel
theorem dX11_commonPart_7 : decode cX11_commonPart 7 = .ok (.iload_n 0, 1) := by decide +kernel
theorem dX11_commonPart_8 : decode cX11_commonPart 8 = .ok (.iload_n 2, 1) := by decide +kernel
theorem dX11_commonPart_9 : decode cX11_commonPart 9 = .ok (.irem, 1) := by decide +kernel
theorem dX11_commonPart_10 : decode cX11_commonPart 10 = .ok (.ifCond .ne 11, 3) := by decide +kernel
theorem dX11_commonPart_13 : decode cX11_commonPart 13 = .ok (.iload_n 1, 1) := by decide +kernel
theorem dX11_commonPart_14 : decode cX11_commonPart 14 = .ok (.iload_n 2, 1) := by decide +kernel
theorem dX11_commonPart_15 : decode cX11_commonPart 15 = .ok (.irem, 1) := by decide +kernel
theorem dX11_commonPart_16 : decode cX11_commonPart 16 = .ok (.ifCond .ne 5, 3) := by decide +kernel
theorem dX11_commonPart_19 : decode cX11_commonPart 19 = .ok (.iload_n 2, 1) := by decide +kernel
theorem dX11_commonPart_20 : decode cX11_commonPart 20 = .ok (.ireturn, 1) := by decide +kernel
theorem dX11_commonPart_21 : decode cX11_commonPart 21 = .ok (.iinc 2 (-1), 3) := by decide +kernel
theorem dX11_commonPart_24 : decode cX11_commonPart 24 = .ok (.goto (-22), 3) := by decide +kernel
theorem dX11_commonPart_27 : decode cX11_commonPart 27 = .ok (.iconst 1, 1) := by decide +kernel
theorem dX11_commonPart_28 : decode cX11_commonPart 28 = .ok (.ireturn, 1) := by decide +kernel
theorem dX11_isSheet_0 : decode cX11_isSheet 0 = .ok (.iload_n 0, 1) := by decide +kernel
theorem dX11_isSheet_1 : decode cX11_isSheet 1 = .ok (.iconst 0, 1) := by decide +kernel
theorem dX11_isSheet_2 : decode cX11_isSheet 2 = .ok (.iconst 3, 1) := by decide +kernel
theorem dX11_isSheet_3 : decode cX11_isSheet 3 = .ok (.invokestatic 79, 3) := by decide +kernel
theorem dX11_isSheet_6 : decode cX11_isSheet 6 = .ok (.ireturn, 1) := by decide +kernel
theorem dX11_isWidth_0 : decode cX11_isWidth 0 = .ok (.iload_n 0, 1) := by decide +kernel
theorem dX11_isWidth_1 : decode cX11_isWidth 1 = .ok (.ifCond .eq 21, 3) := by decide +kernel
theorem dX11_isWidth_4 : decode cX11_isWidth 4 = .ok (.iload_n 0, 1) := by decide +kernel
theorem dX11_isWidth_5 : decode cX11_isWidth 5 = .ok (.bipush 8, 2) := by decide +kernel
theorem dX11_isWidth_7 : decode cX11_isWidth 7 = .ok (.if_icmp .eq 15, 3) := by decide +kernel
theorem dX11_isWidth_10 : decode cX11_isWidth 10 = .ok (.iload_n 0, 1) := by decide +kernel
theorem dX11_isWidth_11 : decode cX11_isWidth 11 = .ok (.bipush 16, 2) := by decide +kernel
theorem dX11_isWidth_13 : decode cX11_isWidth 13 = .ok (.if_icmp .eq 9, 3) := by decide +kernel
theorem dX11_isWidth_16 : decode cX11_isWidth 16 = .ok (.iload_n 0, 1) := by decide +kernel
theorem dX11_isWidth_17 : decode cX11_isWidth 17 = .ok (.bipush 32, 2) := by decide +kernel
theorem dX11_isWidth_19 : decode cX11_isWidth 19 = .ok (.if_icmp .ne 7, 3) := by decide +kernel
theorem dX11_isWidth_22 : decode cX11_isWidth 22 = .ok (.iconst 1, 1) := by decide +kernel
theorem dX11_isWidth_23 : decode cX11_isWidth 23 = .ok (.goto 4, 3) := by decide +kernel
theorem dX11_isWidth_26 : decode cX11_isWidth 26 = .ok (.iconst 0, 1) := by decide +kernel
theorem dX11_isWidth_27 : decode cX11_isWidth 27 = .ok (.ireturn, 1) := by decide +kernel
theorem dX11_lowestBits_0 : decode cX11_lowestBits 0 = .ok (.iload_n 0, 1) := by decide +kernel
theorem dX11_lowestBits_1 : decode cX11_lowestBits 1 = .ok (.bipush 8, 2) := by decide +kernel
theorem dX11_lowestBits_3 : decode cX11_lowestBits 3 = .ok (.if_icmp .ne 6, 3) := by decide +kernel
theorem dX11_lowestBits_6 : decode cX11_lowestBits 6 = .ok (.iload_n 1, 1) := by decide +kernel
theorem dX11_lowestBits_7 : decode cX11_lowestBits 7 = .ok (.i2b, 1) := by decide +kernel
theorem dX11_lowestBits_8 : decode cX11_lowestBits 8 = .ok (.ireturn, 1) := by decide +kernel
theorem dX11_lowestBits_9 : decode cX11_lowestBits 9 = .ok (.iload_n 0, 1) := by decide +kernel
theorem dX11_lowestBits_10 : decode cX11_lowestBits 10 = .ok (.bipush 16, 2) := by decide +kernel
theorem dX11_lowestBits_12 : decode cX11_lowestBits 12 = .ok (.if_icmp .ne 8, 3) := by decide +kernel
theorem dX11_lowestBits_15 : decode cX11_lowestBits 15 = .ok (.iload_n 1, 1) := by decide +kernel
theorem dX11_lowestBits_16 : decode cX11_lowestBits 16 = .ok (.i2s, 1) := by decide +kernel
theorem dX11_lowestBits_17 : decode cX11_lowestBits 17 = .ok (.goto 4, 3) := by decide +kernel
theorem dX11_lowestBits_20 : decode cX11_lowestBits 20 = .ok (.iload_n 1, 1) := by decide +kernel
theorem dX11_lowestBits_21 : decode cX11_lowestBits 21 = .ok (.ireturn, 1) := by decide +kernel
theorem dX11_stand_0 : decode cX11_stand 0 = .ok (.iload_n 3, 1) := by decide +kernel
theorem dX11_stand_1 : decode cX11_stand 1 = .ok (.ifCond .lt 23, 3) := by decide +kernel
theorem dX11_stand_4 : decode cX11_stand 4 = .ok (.iload_n 2, 1) := by decide +kernel
theorem dX11_stand_5 : decode cX11_stand 5 = .ok (.ifCond .lt 19, 3) := by decide +kernel
theorem dX11_stand_8 : decode cX11_stand 8 = .ok (.iload_n 3, 1) := by decide +kernel
theorem dX11_stand_9 : decode cX11_stand 9 = .ok (.aload_n 0, 1) := by decide +kernel
theorem dX11_stand_10 : decode cX11_stand 10 = .ok (.getfield 73, 3) := by decide +kernel
theorem dX11_stand_13 : decode cX11_stand 13 = .ok (.iload_n 1, 1) := by decide +kernel
theorem dX11_stand_14 : decode cX11_stand 14 = .ok (.iaload, 1) := by decide +kernel
theorem dX11_stand_15 : decode cX11_stand 15 = .ok (.iload_n 2, 1) := by decide +kernel
theorem dX11_stand_16 : decode cX11_stand 16 = .ok (.isub, 1) := by decide +kernel
theorem dX11_stand_17 : decode cX11_stand 17 = .ok (.if_icmp .gt 7, 3) := by decide +kernel
theorem dX11_stand_20 : decode cX11_stand 20 = .ok (.iconst 1, 1) := by decide +kernel
theorem dX11_stand_21 : decode cX11_stand 21 = .ok (.goto 4, 3) := by decide +kernel
theorem dX11_stand_24 : decode cX11_stand 24 = .ok (.iconst 0, 1) := by decide +kernel
theorem dX11_stand_25 : decode cX11_stand 25 = .ok (.ireturn, 1) := by decide +kernel
theorem dX12_init_0 : decode cX12_init 0 = .ok (.aload_n 0, 1) := by decide +kernel
theorem dX12_init_1 : decode cX12_init 1 = .ok (.invokespecial 1, 3) := by decide +kernel
theorem dX12_init_4 : decode cX12_init 4 = .ok (.aload_n 0, 1) := by decide +kernel
theorem dX12_init_5 : decode cX12_init 5 = .ok (.sipush 240, 3) := by decide +kernel
theorem dX12_init_8 : decode cX12_init 8 = .ok (.newarray .int, 2) := by decide +kernel
theorem dX12_init_10 : decode cX12_init 10 = .ok (.putfield 7, 3) := by decide +kernel
theorem dX12_init_13 : decode cX12_init 13 = .ok (.aload_n 0, 1) := by decide +kernel
theorem dX12_init_14 : decode cX12_init 14 = .ok (.sipush 240, 3) := by decide +kernel
theorem dX12_init_17 : decode cX12_init 17 = .ok (.newarray .int, 2) := by decide +kernel
theorem dX12_init_19 : decode cX12_init 19 = .ok (.putfield 13, 3) := by decide +kernel
theorem dX12_init_22 : decode cX12_init 22 = .ok (.aload_n 0, 1) := by decide +kernel
theorem dX12_init_23 : decode cX12_init 23 = .ok (.sipush 240, 3) := by decide +kernel
theorem dX12_init_26 : decode cX12_init 26 = .ok (.newarray .int, 2) := by decide +kernel
theorem dX12_init_28 : decode cX12_init 28 = .ok (.putfield 16, 3) := by decide +kernel
theorem dX12_init_31 : decode cX12_init 31 = .ok (.aload_n 0, 1) := by decide +kernel
theorem dX12_init_32 : decode cX12_init 32 = .ok (.sipush 240, 3) := by decide +kernel
theorem dX12_init_35 : decode cX12_init 35 = .ok (.newarray .int, 2) := by decide +kernel
theorem dX12_init_37 : decode cX12_init 37 = .ok (.putfield 19, 3) := by decide +kernel
theorem dX12_init_40 : decode cX12_init 40 = .ok (.aload_n 0, 1) := by decide +kernel
theorem dX12_init_41 : decode cX12_init 41 = .ok (.bipush 6, 2) := by decide +kernel
theorem dX12_init_43 : decode cX12_init 43 = .ok (.newarray .int, 2) := by decide +kernel
theorem dX12_init_45 : decode cX12_init 45 = .ok (.putfield 22, 3) := by decide +kernel
theorem dX12_init_48 : decode cX12_init 48 = .ok (.aload_n 0, 1) := by decide +kernel
theorem dX12_init_49 : decode cX12_init 49 = .ok (.iconst 4, 1) := by decide +kernel
theorem dX12_init_50 : decode cX12_init 50 = .ok (.newarray .int, 2) := by decide +kernel
theorem dX12_init_52 : decode cX12_init 52 = .ok (.putfield 25, 3) := by decide +kernel
theorem dX12_init_55 : decode cX12_init 55 = .ok (.aload_n 0, 1) := by decide +kernel
theorem dX12_init_56 : decode cX12_init 56 = .ok (.iconst 4, 1) := by decide +kernel
theorem dX12_init_57 : decode cX12_init 57 = .ok (.newarray .int, 2) := by decide +kernel
theorem dX12_init_59 : decode cX12_init 59 = .ok (.putfield 28, 3) := by decide +kernel
theorem dX12_init_62 : decode cX12_init 62 = .ok (.aload_n 0, 1) := by decide +kernel
theorem dX12_init_63 : decode cX12_init 63 = .ok (.sipush 160, 3) := by decide +kernel
theorem dX12_init_66 : decode cX12_init 66 = .ok (.newarray .int, 2) := by decide +kernel
theorem dX12_init_68 : decode cX12_init 68 = .ok (.putfield 31, 3) := by decide +kernel
theorem dX12_init_71 : decode cX12_init 71 = .ok (.aload_n 0, 1) := by decide +kernel
theorem dX12_init_72 : decode cX12_init 72 = .ok (.bipush 40, 2) := by decide +kernel
theorem dX12_init_74 : decode cX12_init 74 = .ok (.newarray .int, 2) := by decide +kernel
theorem dX12_init_76 : decode cX12_init 76 = .ok (.putfield 34, 3) := by decide +kernel
theorem dX12_init_79 : decode cX12_init 79 = .ok (.aload_n 0, 1) := by decide +kernel
theorem dX12_init_80 : decode cX12_init 80 = .ok (.bipush 40, 2) := by decide +kernel
theorem dX12_init_82 : decode cX12_init 82 = .ok (.newarray .int, 2) := by decide +kernel
theorem dX12_init_84 : decode cX12_init 84 = .ok (.putfield 37, 3) := by decide +kernel
theorem dX12_init_87 : decode cX12_init 87 = .ok (.aload_n 0, 1) := by decide +kernel
theorem dX12_init_88 : decode cX12_init 88 = .ok (.getfield 7, 3) := by decide +kernel
theorem dX12_init_91 : decode cX12_init 91 = .ok (.iconst 1, 1) := by decide +kernel
theorem dX12_init_92 : decode cX12_init 92 = .ok (.iconst 1, 1) := by decide +kernel
theorem dX12_init_93 : decode cX12_init 93 = .ok (.iastore, 1) := by decide +kernel
theorem dX12_init_94 : decode cX12_init 94 = .ok (.aload_n 0, 1) := by decide +kernel
theorem dX12_init_95 : decode cX12_init 95 = .ok (.getfield 7, 3) := by decide +kernel
theorem dX12_init_98 : decode cX12_init 98 = .ok (.bipush 8, 2) := by decide +kernel
theorem dX12_init_100 : decode cX12_init 100 = .ok (.bipush 11, 2) := by decide +kernel
theorem dX12_init_102 : decode cX12_init 102 = .ok (.iastore, 1) := by decide +kernel
theorem dX12_init_103 : decode cX12_init 103 = .ok (.aload_n 0, 1) := by decide +kernel
theorem dX12_init_104 : decode cX12_init 104 = .ok (.getfield 7, 3) := by decide +kernel
theorem dX12_init_107 : decode cX12_init 107 = .ok (.iconst 5, 1) := by decide +kernel
theorem dX12_init_108 : decode cX12_init 108 = .ok (.iconst (-1), 1) := by decide +kernel
theorem dX12_init_109 : decode cX12_init 109 = .ok (.iastore, 1) := by decide +kernel
theorem dX12_init_110 : decode cX12_init 110 = .ok (.aload_n 0, 1) := by decide +kernel
theorem dX12_init_111 : decode cX12_init 111 = .ok (.getfield 7, 3) := by decide +kernel
theorem dX12_init_114 : decode cX12_init 114 = .ok (.bipush 6, 2) := by decide +kernel
theorem dX12_init_116 : decode cX12_init 116 = .ok (.iconst (-1), 1) := by decide +kernel
theorem dX12_init_117 : decode cX12_init 117 = .ok (.iastore, 1) := by decide +kernel
theorem dX12_init_118 : decode cX12_init 118 = .ok (.return_, 1) := by decide +kernel
theorem dX12_in_0 : decode cX12_in 0 = .ok (.iload_n 0, 1) := by decide +kernel
theorem dX12_in_1 : decode cX12_in 1 = .ok (.iload_n 1, 1) := by decide +kernel
theorem dX12_in_2 : decode cX12_in 2 = .ok (.if_icmp .lt 12, 3) := by decide +kernel
theorem dX12_in_5 : decode cX12_in 5 = .ok (.iload_n 0, 1) := by decide +kernel
theorem dX12_in_6 : decode cX12_in 6 = .ok (.iload_n 2, 1) := by decide +kernel
theorem dX12_in_7 : decode cX12_in 7 = .ok (.if_icmp .gt 7, 3) := by decide +kernel
theorem dX12_in_10 : decode cX12_in 10 = .ok (.iconst 1, 1) := by decide +kernel
theorem dX12_in_11 : decode cX12_in 11 = .ok (.goto 4, 3) := by decide +kernel
theorem dX12_in_14 : decode cX12_in 14 = .ok (.iconst 0, 1) := by decide +kernel
theorem dX12_in_15 : decode cX12_in 15 = .ok (.ireturn, 1) := by decide +kernel
theorem dX12_errs_0 : decode cX12_errs 0 = .ok (.aload_n 0, 1) := by decide +kernel
theorem dX12_errs_1 : decode cX12_errs 1 = .ok (.getfield 22, 3) := by decide +kernel
theorem dX12_errs_4 : decode cX12_errs 4 = .ok (.ldc 40, 2) := by decide +kernel
theorem dX12_errs_6 : decode cX12_errs 6 = .ok (.iload_n 1, 1) := by decide +kernel
theorem dX12_errs_7 : decode cX12_errs 7 = .ok (.isub, 1) := by decide +kernel
theorem dX12_errs_8 : decode cX12_errs 8 = .ok (.dup2, 1) := by decide +kernel
theorem dX12_errs_9 : decode cX12_errs 9 = .ok (.iaload, 1) := by decide +kernel
theorem dX12_errs_10 : decode cX12_errs 10 = .ok (.iconst 1, 1) := by decide +kernel
theorem dX12_errs_11 : decode cX12_errs 11 = .ok (.iadd, 1) := by decide +kernel
theorem dX12_errs_12 : decode cX12_errs 12 = .ok (.iastore, 1) := by decide +kernel
theorem dX12_errs_13 : decode cX12_errs 13 = .ok (.iload_n 1, 1) := by decide +kernel
theorem dX12_errs_14 : decode cX12_errs 14 = .ok (.ireturn, 1) := by decide +kernel
theorem dX12_held_0 : decode cX12_held 0 = .ok (.iload_n 0, 1) := by decide +kernel
theorem dX12_held_1 : decode cX12_held 1 = .ok (.iload_n 1, 1) := by decide +kernel
theorem dX12_held_2 : decode cX12_held 2 = .ok (.if_icmp .ge 7, 3) := by decide +kernel
theorem dX12_held_5 : decode cX12_held 5 = .ok (.iload_n 1, 1) := by decide +kernel
theorem dX12_held_6 : decode cX12_held 6 = .ok (.goto 13, 3) := by decide +kernel
theorem dX12_held_9 : decode cX12_held 9 = .ok (.iload_n 0, 1) := by decide +kernel
theorem dX12_held_10 : decode cX12_held 10 = .ok (.iload_n 2, 1) := by decide +kernel
theorem dX12_held_11 : decode cX12_held 11 = .ok (.if_icmp .le 7, 3) := by decide +kernel
theorem dX12_held_14 : decode cX12_held 14 = .ok (.iload_n 2, 1) := by decide +kernel
theorem dX12_held_15 : decode cX12_held 15 = .ok (.goto 4, 3) := by decide +kernel
theorem dX12_held_18 : decode cX12_held 18 = .ok (.iload_n 0, 1) := by decide +kernel
theorem dX12_held_19 : decode cX12_held 19 = .ok (.ireturn, 1) := by decide +kernel
theorem dX12_moveAll_0 : decode cX12_moveAll 0 = .ok (.iconst 0, 1) := by decide +kernel
theorem dX12_moveAll_1 : decode cX12_moveAll 1 = .ok (.istore_n 3, 1) := by decide +kernel
theorem dX12_moveAll_2 : decode cX12_moveAll 2 = .ok (.iload_n 3, 1) := by decide +kernel
theorem dX12_moveAll_3 : decode cX12_moveAll 3 = .ok (.sipush 240, 3) := by decide +kernel
theorem dX12_moveAll_6 : decode cX12_moveAll 6 = .ok (.if_icmp .ge 15, 3) := by decide +kernel
theorem dX12_moveAll_9 : decode cX12_moveAll 9 = .ok (.aload_n 2, 1) := by decide +kernel
theorem dX12_moveAll_10 : decode cX12_moveAll 10 = .ok (.iload_n 3, 1) := by decide +kernel
theorem dX12_moveAll_11 : decode cX12_moveAll 11 = .ok (.aload_n 1, 1) := by decide +kernel
theorem dX12_moveAll_12 : decode cX12_moveAll 12 = .ok (.iload_n 3, 1) := by decide +kernel
theorem dX12_moveAll_13 : decode cX12_moveAll 13 = .ok (.iaload, 1) := by decide +kernel
theorem dX12_moveAll_14 : decode cX12_moveAll 14 = .ok (.iastore, 1) := by decide +kernel
theorem dX12_moveAll_15 : decode cX12_moveAll 15 = .ok (.iinc 3 1, 3) := by decide +kernel
theorem dX12_moveAll_18 : decode cX12_moveAll 18 = .ok (.goto (-16), 3) := by decide +kernel
theorem dX12_moveAll_21 : decode cX12_moveAll 21 = .ok (.return_, 1) := by decide +kernel
theorem dX12_its_0 : decode cX12_its 0 = .ok (.aload_n 0, 1) := by decide +kernel
theorem dX12_its_1 : decode cX12_its 1 = .ok (.getfield 7, 3) := by decide +kernel
theorem dX12_its_4 : decode cX12_its 4 = .ok (.bipush 10, 2) := by decide +kernel
theorem dX12_its_6 : decode cX12_its 6 = .ok (.iconst 5, 1) := by decide +kernel
theorem dX12_its_7 : decode cX12_its 7 = .ok (.iload_n 1, 1) := by decide +kernel
theorem dX12_its_8 : decode cX12_its 8 = .ok (.imul, 1) := by decide +kernel
theorem dX12_its_9 : decode cX12_its 9 = .ok (.iadd, 1) := by decide +kernel
theorem dX12_its_10 : decode cX12_its 10 = .ok (.iload_n 2, 1) := by decide +kernel
theorem dX12_its_11 : decode cX12_its 11 = .ok (.iadd, 1) := by decide +kernel
theorem dX12_its_12 : decode cX12_its 12 = .ok (.iaload, 1) := by decide +kernel
theorem dX12_its_13 : decode cX12_its 13 = .ok (.ireturn, 1) := by decide +kernel
theorem dX12_gets_0 : decode cX12_gets 0 = .ok (.aload_n 0, 1) := by decide +kernel
theorem dX12_gets_1 : decode cX12_gets 1 = .ok (.getfield 7, 3) := by decide +kernel
theorem dX12_gets_4 : decode cX12_gets 4 = .ok (.bipush 10, 2) := by decide +kernel
theorem dX12_gets_6 : decode cX12_gets 6 = .ok (.iconst 5, 1) := by decide +kernel
theorem dX12_gets_7 : decode cX12_gets 7 = .ok (.iload_n 1, 1) := by decide +kernel
theorem dX12_gets_8 : decode cX12_gets 8 = .ok (.imul, 1) := by decide +kernel
theorem dX12_gets_9 : decode cX12_gets 9 = .ok (.iadd, 1) := by decide +kernel
theorem dX12_gets_10 : decode cX12_gets 10 = .ok (.iload_n 2, 1) := by decide +kernel
theorem dX12_gets_11 : decode cX12_gets 11 = .ok (.iadd, 1) := by decide +kernel
theorem dX12_gets_12 : decode cX12_gets 12 = .ok (.iload_n 3, 1) := by decide +kernel
theorem dX12_gets_13 : decode cX12_gets 13 = .ok (.iastore, 1) := by decide +kernel
theorem dX12_gets_14 : decode cX12_gets 14 = .ok (.return_, 1) := by decide +kernel
theorem dX12_isYard_0 : decode cX12_isYard 0 = .ok (.iload_n 1, 1) := by decide +kernel
theorem dX12_isYard_1 : decode cX12_isYard 1 = .ok (.iconst 0, 1) := by decide +kernel
theorem dX12_isYard_2 : decode cX12_isYard 2 = .ok (.aload_n 0, 1) := by decide +kernel
theorem dX12_isYard_3 : decode cX12_isYard 3 = .ok (.getfield 7, 3) := by decide +kernel
theorem dX12_isYard_6 : decode cX12_isYard 6 = .ok (.iconst 2, 1) := by decide +kernel
theorem dX12_isYard_7 : decode cX12_isYard 7 = .ok (.iaload, 1) := by decide +kernel
theorem dX12_isYard_8 : decode cX12_isYard 8 = .ok (.iconst 1, 1) := by decide +kernel
theorem dX12_isYard_9 : decode cX12_isYard 9 = .ok (.isub, 1) := by decide +kernel
theorem dX12_isYard_10 : decode cX12_isYard 10 = .ok (.invokestatic 41, 3) := by decide +kernel
theorem dX12_isYard_13 : decode cX12_isYard 13 = .ok (.ireturn, 1) := by decide +kernel
theorem dX12_becomes_0 : decode cX12_becomes 0 = .ok (.aload_n 0, 1) := by decide +kernel
theorem dX12_becomes_1 : decode cX12_becomes 1 = .ok (.getfield 7, 3) := by decide +kernel
theorem dX12_becomes_4 : decode cX12_becomes 4 = .ok (.iload_n 1, 1) := by decide +kernel
theorem dX12_becomes_5 : decode cX12_becomes 5 = .ok (.iaload, 1) := by decide +kernel
theorem dX12_becomes_6 : decode cX12_becomes 6 = .ok (.istore_n 3, 1) := by decide +kernel
theorem dX12_becomes_7 : decode cX12_becomes 7 = .ok (.aload_n 0, 1) := by decide +kernel
theorem dX12_becomes_8 : decode cX12_becomes 8 = .ok (.getfield 7, 3) := by decide +kernel
theorem dX12_becomes_11 : decode cX12_becomes 11 = .ok (.iload_n 1, 1) := by decide +kernel
theorem dX12_becomes_12 : decode cX12_becomes 12 = .ok (.iload_n 2, 1) := by decide +kernel
theorem dX12_becomes_13 : decode cX12_becomes 13 = .ok (.iastore, 1) := by decide +kernel
theorem dX12_becomes_14 : decode cX12_becomes 14 = .ok (.iload_n 3, 1) := by decide +kernel
theorem dX12_becomes_15 : decode cX12_becomes 15 = .ok (.ireturn, 1) := by decide +kernel
theorem dX12_yard_0 : decode cX12_yard 0 = .ok (.iload_n 1, 1) := by decide +kernel
theorem dX12_yard_1 : decode cX12_yard 1 = .ok (.iconst 0, 1) := by decide +kernel
theorem dX12_yard_2 : decode cX12_yard 2 = .ok (.bipush 69, 2) := by decide +kernel
theorem dX12_yard_4 : decode cX12_yard 4 = .ok (.invokestatic 41, 3) := by decide +kernel
theorem dX12_yard_7 : decode cX12_yard 7 = .ok (.ifCond .eq 24, 3) := by decide +kernel
theorem dX12_yard_10 : decode cX12_yard 10 = .ok (.iload_n 2, 1) := by decide +kernel
theorem dX12_yard_11 : decode cX12_yard 11 = .ok (.iconst 0, 1) := by decide +kernel
theorem dX12_yard_12 : decode cX12_yard 12 = .ok (.sipush 999, 3) := by decide +kernel
theorem dX12_yard_15 : decode cX12_yard 15 = .ok (.invokestatic 41, 3) := by decide +kernel
theorem dX12_yard_18 : decode cX12_yard 18 = .ok (.ifCond .eq 13, 3) := by decide +kernel
theorem dX12_yard_21 : decode cX12_yard 21 = .ok (.iload_n 3, 1) := by decide +kernel
theorem dX12_yard_22 : decode cX12_yard 22 = .ok (.iconst (-1), 1) := by decide +kernel
theorem dX12_yard_23 : decode cX12_yard 23 = .ok (.bipush 99, 2) := by decide +kernel
theorem dX12_yard_25 : decode cX12_yard 25 = .ok (.invokestatic 41, 3) := by decide +kernel
theorem dX12_yard_28 : decode cX12_yard 28 = .ok (.ifCond .ne 10, 3) := by decide +kernel
theorem dX12_yard_31 : decode cX12_yard 31 = .ok (.aload_n 0, 1) := by decide +kernel
theorem dX12_yard_32 : decode cX12_yard 32 = .ok (.ldc 45, 2) := by decide +kernel
theorem dX12_yard_34 : decode cX12_yard 34 = .ok (.invokevirtual 46, 3) := by decide +kernel
theorem dX12_yard_37 : decode cX12_yard 37 = .ok (.ireturn, 1) := by decide +kernel
theorem dX12_yard_38 : decode cX12_yard 38 = .ok (.aload_n 0, 1) := by decide +kernel
theorem dX12_yard_39 : decode cX12_yard 39 = .ok (.getfield 7, 3) := by decide +kernel
theorem dX12_yard_42 : decode cX12_yard 42 = .ok (.iconst 2, 1) := by decide +kernel
theorem dX12_yard_43 : decode cX12_yard 43 = .ok (.iaload, 1) := by decide +kernel
theorem dX12_yard_44 : decode cX12_yard 44 = .ok (.bipush 12, 2) := by decide +kernel
theorem dX12_yard_46 : decode cX12_yard 46 = .ok (.if_icmp .ne 10, 3) := by decide +kernel
theorem dX12_yard_49 : decode cX12_yard 49 = .ok (.aload_n 0, 1) := by decide +kernel
theorem dX12_yard_50 : decode cX12_yard 50 = .ok (.ldc 50, 2) := by decide +kernel
theorem dX12_yard_52 : decode cX12_yard 52 = .ok (.invokevirtual 46, 3) := by decide +kernel
theorem dX12_yard_55 : decode cX12_yard 55 = .ok (.ireturn, 1) := by decide +kernel
theorem dX12_yard_56 : decode cX12_yard 56 = .ok (.aload_n 0, 1) := by decide +kernel
theorem dX12_yard_57 : decode cX12_yard 57 = .ok (.getfield 7, 3) := by decide +kernel
theorem dX12_yard_60 : decode cX12_yard 60 = .ok (.iconst 2, 1) := by decide +kernel
theorem dX12_yard_61 : decode cX12_yard 61 = .ok (.iaload, 1) := by decide +kernel
theorem dX12_yard_62 : decode cX12_yard 62 = .ok (.istore 4, 2) := by decide +kernel
theorem dX12_yard_64 : decode cX12_yard 64 = .ok (.aload_n 0, 1) := by decide +kernel
theorem dX12_yard_65 : decode cX12_yard 65 = .ok (.iload 4, 2) := by decide +kernel
theorem dX12_yard_67 : decode cX12_yard 67 = .ok (.iconst 0, 1) := by decide +kernel
theorem dX12_yard_68 : decode cX12_yard 68 = .ok (.iload_n 1, 1) := by decide +kernel
theorem dX12_yard_69 : decode cX12_yard 69 = .ok (.bipush 10, 2) := by decide +kernel
theorem dX12_yard_71 : decode cX12_yard 71 = .ok (.idiv, 1) := by decide +kernel
theorem dX12_yard_72 : decode cX12_yard 72 = .ok (.invokevirtual 51, 3) := by decide +kernel
theorem dX12_yard_75 : decode cX12_yard 75 = .ok (.aload_n 0, 1) := by decide +kernel
theorem dX12_yard_76 : decode cX12_yard 76 = .ok (.iload 4, 2) := by decide +kernel
theorem dX12_yard_78 : decode cX12_yard 78 = .ok (.iconst 1, 1) := by decide +kernel
theorem dX12_yard_79 : decode cX12_yard 79 = .ok (.iload_n 1, 1) := by decide +kernel
theorem dX12_yard_80 : decode cX12_yard 80 = .ok (.bipush 10, 2) := by decide +kernel
theorem dX12_yard_82 : decode cX12_yard 82 = .ok (.irem, 1) := by decide +kernel
theorem dX12_yard_83 : decode cX12_yard 83 = .ok (.invokevirtual 51, 3) := by decide +kernel
theorem dX12_yard_86 : decode cX12_yard 86 = .ok (.aload_n 0, 1) := by decide +kernel
theorem dX12_yard_87 : decode cX12_yard 87 = .ok (.iload 4, 2) := by decide +kernel
theorem dX12_yard_89 : decode cX12_yard 89 = .ok (.iconst 2, 1) := by decide +kernel
theorem dX12_yard_90 : decode cX12_yard 90 = .ok (.iload_n 2, 1) := by decide +kernel
theorem dX12_yard_91 : decode cX12_yard 91 = .ok (.invokevirtual 51, 3) := by decide +kernel
theorem dX12_yard_94 : decode cX12_yard 94 = .ok (.aload_n 0, 1) := by decide +kernel
theorem dX12_yard_95 : decode cX12_yard 95 = .ok (.iload 4, 2) := by decide +kernel
theorem dX12_yard_97 : decode cX12_yard 97 = .ok (.iconst 3, 1) := by decide +kernel
theorem dX12_yard_98 : decode cX12_yard 98 = .ok (.iload_n 3, 1) := by decide +kernel
theorem dX12_yard_99 : decode cX12_yard 99 = .ok (.ifCond .ge 7, 3) := by decide +kernel
theorem dX12_yard_102 : decode cX12_yard 102 = .ok (.iconst 0, 1) := by decide +kernel
theorem dX12_yard_103 : decode cX12_yard 103 = .ok (.goto 4, 3) := by decide +kernel
theorem dX12_yard_106 : decode cX12_yard 106 = .ok (.iconst 1, 1) := by decide +kernel
theorem dX12_yard_107 : decode cX12_yard 107 = .ok (.invokevirtual 51, 3) := by decide +kernel
theorem dX12_yard_110 : decode cX12_yard 110 = .ok (.aload_n 0, 1) := by decide +kernel
theorem dX12_yard_111 : decode cX12_yard 111 = .ok (.iload 4, 2) := by decide +kernel
theorem dX12_yard_113 : decode cX12_yard 113 = .ok (.iconst 4, 1) := by decide +kernel
theorem dX12_yard_114 : decode cX12_yard 114 = .ok (.iload_n 3, 1) := by decide +kernel
theorem dX12_yard_115 : decode cX12_yard 115 = .ok (.ifCond .ge 7, 3) := by decide +kernel
theorem dX12_yard_118 : decode cX12_yard 118 = .ok (.iconst 0, 1) := by decide +kernel
theorem dX12_yard_119 : decode cX12_yard 119 = .ok (.goto 4, 3) := by decide +kernel
theorem dX12_yard_122 : decode cX12_yard 122 = .ok (.iload_n 3, 1) := by decide +kernel
theorem dX12_yard_123 : decode cX12_yard 123 = .ok (.invokevirtual 51, 3) := by decide +kernel
theorem dX12_yard_126 : decode cX12_yard 126 = .ok (.aload_n 0, 1) := by decide +kernel
theorem dX12_yard_127 : decode cX12_yard 127 = .ok (.getfield 7, 3) := by decide +kernel
theorem dX12_yard_130 : decode cX12_yard 130 = .ok (.iconst 2, 1) := by decide +kernel
theorem dX12_yard_131 : decode cX12_yard 131 = .ok (.dup2, 1) := by decide +kernel
theorem dX12_yard_132 : decode cX12_yard 132 = .ok (.iaload, 1) := by decide +kernel
theorem dX12_yard_133 : decode cX12_yard 133 = .ok (.iconst 1, 1) := by decide +kernel
theorem dX12_yard_134 : decode cX12_yard 134 = .ok (.iadd, 1) := by decide +kernel
theorem dX12_yard_135 : decode cX12_yard 135 = .ok (.iastore, 1) := by decide +kernel
theorem dX12_yard_136 : decode cX12_yard 136 = .ok (.iload 4, 2) := by decide +kernel
theorem dX12_yard_138 : decode cX12_yard 138 = .ok (.ireturn, 1) := by decide +kernel
theorem dX12_ofYard_0 : decode cX12_ofYard 0 = .ok (.aload_n 0, 1) := by decide +kernel
theorem dX12_ofYard_1 : decode cX12_ofYard 1 = .ok (.iload_n 1, 1) := by decide +kernel
theorem dX12_ofYard_2 : decode cX12_ofYard 2 = .ok (.invokevirtual 55, 3) := by decide +kernel
theorem dX12_ofYard_5 : decode cX12_ofYard 5 = .ok (.ifCond .eq 13, 3) := by decide +kernel
theorem dX12_ofYard_8 : decode cX12_ofYard 8 = .ok (.iload_n 2, 1) := by decide +kernel
theorem dX12_ofYard_9 : decode cX12_ofYard 9 = .ok (.iconst 0, 1) := by decide +kernel
theorem dX12_ofYard_10 : decode cX12_ofYard 10 = .ok (.bipush 6, 2) := by decide +kernel
theorem dX12_ofYard_12 : decode cX12_ofYard 12 = .ok (.invokestatic 41, 3) := by decide +kernel
theorem dX12_ofYard_15 : decode cX12_ofYard 15 = .ok (.ifCond .ne 10, 3) := by decide +kernel
theorem dX12_ofYard_18 : decode cX12_ofYard 18 = .ok (.aload_n 0, 1) := by decide +kernel
theorem dX12_ofYard_19 : decode cX12_ofYard 19 = .ok (.ldc 45, 2) := by decide +kernel
theorem dX12_ofYard_21 : decode cX12_ofYard 21 = .ok (.invokevirtual 46, 3) := by decide +kernel
theorem dX12_ofYard_24 : decode cX12_ofYard 24 = .ok (.ireturn, 1) := by decide +kernel
theorem dX12_ofYard_25 : decode cX12_ofYard 25 = .ok (.iload_n 2, 1) := by decide +kernel
theorem dX12_ofYard_26 : decode cX12_ofYard 26 = .ok (.iconst 5, 1) := by decide +kernel
theorem dX12_ofYard_27 : decode cX12_ofYard 27 = .ok (.if_icmp .ge 12, 3) := by decide +kernel
theorem dX12_ofYard_30 : decode cX12_ofYard 30 = .ok (.aload_n 0, 1) := by decide +kernel
theorem dX12_ofYard_31 : decode cX12_ofYard 31 = .ok (.iload_n 1, 1) := by decide +kernel
theorem dX12_ofYard_32 : decode cX12_ofYard 32 = .ok (.iload_n 2, 1) := by decide +kernel
theorem dX12_ofYard_33 : decode cX12_ofYard 33 = .ok (.invokevirtual 59, 3) := by decide +kernel
theorem dX12_ofYard_36 : decode cX12_ofYard 36 = .ok (.goto 21, 3) := by decide +kernel
theorem dX12_ofYard_39 : decode cX12_ofYard 39 = .ok (.iload_n 2, 1) := by decide +kernel
theorem dX12_ofYard_40 : decode cX12_ofYard 40 = .ok (.iconst 5, 1) := by decide +kernel
theorem dX12_ofYard_41 : decode cX12_ofYard 41 = .ok (.if_icmp .ne 11, 3) := by decide +kernel
theorem dX12_ofYard_44 : decode cX12_ofYard 44 = .ok (.aload_n 0, 1) := by decide +kernel
theorem dX12_ofYard_45 : decode cX12_ofYard 45 = .ok (.iload_n 1, 1) := by decide +kernel
theorem dX12_ofYard_46 : decode cX12_ofYard 46 = .ok (.invokevirtual 63, 3) := by decide +kernel
theorem dX12_ofYard_49 : decode cX12_ofYard 49 = .ok (.goto 8, 3) := by decide +kernel
theorem dX12_ofYard_52 : decode cX12_ofYard 52 = .ok (.aload_n 0, 1) := by decide +kernel
theorem dX12_ofYard_53 : decode cX12_ofYard 53 = .ok (.iload_n 1, 1) := by decide +kernel
theorem dX12_ofYard_54 : decode cX12_ofYard 54 = .ok (.invokevirtual 66, 3) := by decide +kernel
theorem dX12_ofYard_57 : decode cX12_ofYard 57 = .ok (.ireturn, 1) := by decide +kernel
theorem dX12_change_0 : decode cX12_change 0 = .ok (.iload_n 2, 1) := by decide +kernel
theorem dX12_change_1 : decode cX12_change 1 = .ok (.ifCond .ne 14, 3) := by decide +kernel
theorem dX12_change_4 : decode cX12_change 4 = .ok (.iload_n 3, 1) := by decide +kernel
theorem dX12_change_5 : decode cX12_change 5 = .ok (.iconst 0, 1) := by decide +kernel
theorem dX12_change_6 : decode cX12_change 6 = .ok (.sipush 999, 3) := by decide +kernel
theorem dX12_change_9 : decode cX12_change 9 = .ok (.invokestatic 41, 3) := by decide +kernel
theorem dX12_change_12 : decode cX12_change 12 = .ok (.goto 37, 3) := by decide +kernel
theorem dX12_change_15 : decode cX12_change 15 = .ok (.iload_n 2, 1) := by decide +kernel
theorem dX12_change_16 : decode cX12_change 16 = .ok (.iconst 1, 1) := by decide +kernel
theorem dX12_change_17 : decode cX12_change 17 = .ok (.if_icmp .ne 12, 3) := by decide +kernel
theorem dX12_change_20 : decode cX12_change 20 = .ok (.iload_n 3, 1) := by decide +kernel
theorem dX12_change_21 : decode cX12_change 21 = .ok (.iconst 0, 1) := by decide +kernel
theorem dX12_change_22 : decode cX12_change 22 = .ok (.iconst 1, 1) := by decide +kernel
theorem dX12_change_23 : decode cX12_change 23 = .ok (.invokestatic 41, 3) := by decide +kernel
theorem dX12_change_26 : decode cX12_change 26 = .ok (.goto 23, 3) := by decide +kernel
theorem dX12_change_29 : decode cX12_change 29 = .ok (.iload_n 2, 1) := by decide +kernel
theorem dX12_change_30 : decode cX12_change 30 = .ok (.iconst 2, 1) := by decide +kernel
theorem dX12_change_31 : decode cX12_change 31 = .ok (.if_icmp .ne 17, 3) := by decide +kernel
theorem dX12_change_34 : decode cX12_change 34 = .ok (.iload_n 3, 1) := by decide +kernel
theorem dX12_change_35 : decode cX12_change 35 = .ok (.iconst 0, 1) := by decide +kernel
theorem dX12_change_36 : decode cX12_change 36 = .ok (.bipush 99, 2) := by decide +kernel
theorem dX12_change_38 : decode cX12_change 38 = .ok (.invokestatic 41, 3) := by decide +kernel
theorem dX12_change_41 : decode cX12_change 41 = .ok (.ifCond .eq 7, 3) := by decide +kernel
theorem dX12_change_44 : decode cX12_change 44 = .ok (.iconst 1, 1) := by decide +kernel
theorem dX12_change_45 : decode cX12_change 45 = .ok (.goto 4, 3) := by decide +kernel
theorem dX12_change_48 : decode cX12_change 48 = .ok (.iconst 0, 1) := by decide +kernel
theorem dX12_change_49 : decode cX12_change 49 = .ok (.istore 4, 2) := by decide +kernel
theorem dX12_change_51 : decode cX12_change 51 = .ok (.aload_n 0, 1) := by decide +kernel
theorem dX12_change_52 : decode cX12_change 52 = .ok (.iload_n 1, 1) := by decide +kernel
theorem dX12_change_53 : decode cX12_change 53 = .ok (.invokevirtual 55, 3) := by decide +kernel
theorem dX12_change_56 : decode cX12_change 56 = .ok (.ifCond .eq 26, 3) := by decide +kernel
theorem dX12_change_59 : decode cX12_change 59 = .ok (.iload 4, 2) := by decide +kernel
theorem dX12_change_61 : decode cX12_change 61 = .ok (.ifCond .eq 21, 3) := by decide +kernel
theorem dX12_change_64 : decode cX12_change 64 = .ok (.aload_n 0, 1) := by decide +kernel
theorem dX12_change_65 : decode cX12_change 65 = .ok (.bipush 10, 2) := by decide +kernel
theorem dX12_change_67 : decode cX12_change 67 = .ok (.iconst 5, 1) := by decide +kernel
theorem dX12_change_68 : decode cX12_change 68 = .ok (.iload_n 1, 1) := by decide +kernel
theorem dX12_change_69 : decode cX12_change 69 = .ok (.imul, 1) := by decide +kernel
theorem dX12_change_70 : decode cX12_change 70 = .ok (.iadd, 1) := by decide +kernel
theorem dX12_change_71 : decode cX12_change 71 = .ok (.iconst 2, 1) := by decide +kernel
theorem dX12_change_72 : decode cX12_change 72 = .ok (.iadd, 1) := by decide +kernel
theorem dX12_change_73 : decode cX12_change 73 = .ok (.iload_n 2, 1) := by decide +kernel
theorem dX12_change_74 : decode cX12_change 74 = .ok (.iadd, 1) := by decide +kernel
theorem dX12_change_75 : decode cX12_change 75 = .ok (.iload_n 3, 1) := by decide +kernel
theorem dX12_change_76 : decode cX12_change 76 = .ok (.invokevirtual 69, 3) := by decide +kernel
theorem dX12_change_79 : decode cX12_change 79 = .ok (.goto 9, 3) := by decide +kernel
theorem dX12_change_82 : decode cX12_change 82 = .ok (.aload_n 0, 1) := by decide +kernel
theorem dX12_change_83 : decode cX12_change 83 = .ok (.ldc 45, 2) := by decide +kernel
theorem dX12_change_85 : decode cX12_change 85 = .ok (.invokevirtual 46, 3) := by decide +kernel
theorem dX12_change_88 : decode cX12_change 88 = .ok (.ireturn, 1) := by decide +kernel
theorem dX12_set_0 : decode cX12_set 0 = .ok (.iload_n 1, 1) := by decide +kernel
theorem dX12_set_1 : decode cX12_set 1 = .ok (.ifCond .ne 13, 3) := by decide +kernel
theorem dX12_set_4 : decode cX12_set 4 = .ok (.iload_n 2, 1) := by decide +kernel
theorem dX12_set_5 : decode cX12_set 5 = .ok (.iconst 0, 1) := by decide +kernel
theorem dX12_set_6 : decode cX12_set 6 = .ok (.bipush 9, 2) := by decide +kernel
theorem dX12_set_8 : decode cX12_set 8 = .ok (.invokestatic 41, 3) := by decide +kernel
theorem dX12_set_11 : decode cX12_set 11 = .ok (.goto 38, 3) := by decide +kernel
theorem dX12_set_14 : decode cX12_set 14 = .ok (.iload_n 1, 1) := by decide +kernel
theorem dX12_set_15 : decode cX12_set 15 = .ok (.iconst 1, 1) := by decide +kernel
theorem dX12_set_16 : decode cX12_set 16 = .ok (.if_icmp .ne 13, 3) := by decide +kernel
theorem dX12_set_19 : decode cX12_set 19 = .ok (.iload_n 2, 1) := by decide +kernel
theorem dX12_set_20 : decode cX12_set 20 = .ok (.iconst 0, 1) := by decide +kernel
theorem dX12_set_21 : decode cX12_set 21 = .ok (.bipush 99, 2) := by decide +kernel
theorem dX12_set_23 : decode cX12_set 23 = .ok (.invokestatic 41, 3) := by decide +kernel
theorem dX12_set_26 : decode cX12_set 26 = .ok (.goto 23, 3) := by decide +kernel
theorem dX12_set_29 : decode cX12_set 29 = .ok (.iload_n 1, 1) := by decide +kernel
theorem dX12_set_30 : decode cX12_set 30 = .ok (.iconst 2, 1) := by decide +kernel
theorem dX12_set_31 : decode cX12_set 31 = .ok (.if_icmp .ne 17, 3) := by decide +kernel
theorem dX12_set_34 : decode cX12_set 34 = .ok (.iload_n 2, 1) := by decide +kernel
theorem dX12_set_35 : decode cX12_set 35 = .ok (.iconst 0, 1) := by decide +kernel
theorem dX12_set_36 : decode cX12_set 36 = .ok (.ldc 72, 2) := by decide +kernel
theorem dX12_set_38 : decode cX12_set 38 = .ok (.invokestatic 41, 3) := by decide +kernel
theorem dX12_set_41 : decode cX12_set 41 = .ok (.ifCond .eq 7, 3) := by decide +kernel
theorem dX12_set_44 : decode cX12_set 44 = .ok (.iconst 1, 1) := by decide +kernel
theorem dX12_set_45 : decode cX12_set 45 = .ok (.goto 4, 3) := by decide +kernel
theorem dX12_set_48 : decode cX12_set 48 = .ok (.iconst 0, 1) := by decide +kernel
theorem dX12_set_49 : decode cX12_set 49 = .ok (.istore_n 3, 1) := by decide +kernel
theorem dX12_set_50 : decode cX12_set 50 = .ok (.iload_n 3, 1) := by decide +kernel
theorem dX12_set_51 : decode cX12_set 51 = .ok (.ifCond .eq 15, 3) := by decide +kernel
theorem dX12_set_54 : decode cX12_set 54 = .ok (.aload_n 0, 1) := by decide +kernel
theorem dX12_set_55 : decode cX12_set 55 = .ok (.bipush 7, 2) := by decide +kernel
theorem dX12_set_57 : decode cX12_set 57 = .ok (.iload_n 1, 1) := by decide +kernel
theorem dX12_set_58 : decode cX12_set 58 = .ok (.iadd, 1) := by decide +kernel
theorem dX12_set_59 : decode cX12_set 59 = .ok (.iload_n 2, 1) := by decide +kernel
theorem dX12_set_60 : decode cX12_set 60 = .ok (.invokevirtual 69, 3) := by decide +kernel
theorem dX12_set_63 : decode cX12_set 63 = .ok (.goto 9, 3) := by decide +kernel
theorem dX12_set_66 : decode cX12_set 66 = .ok (.aload_n 0, 1) := by decide +kernel
theorem dX12_set_67 : decode cX12_set 67 = .ok (.ldc 45, 2) := by decide +kernel
theorem dX12_set_69 : decode cX12_set 69 = .ok (.invokevirtual 46, 3) := by decide +kernel
theorem dX12_set_72 : decode cX12_set 72 = .ok (.ireturn, 1) := by decide +kernel
theorem dX12_become_0 : decode cX12_become 0 = .ok (.aload_n 0, 1) := by decide +kernel
theorem dX12_become_1 : decode cX12_become 1 = .ok (.iload_n 1, 1) := by decide +kernel
theorem dX12_become_2 : decode cX12_become 2 = .ok (.invokevirtual 55, 3) := by decide +kernel
theorem dX12_become_5 : decode cX12_become 5 = .ok (.ifCond .eq 13, 3) := by decide +kernel
theorem dX12_become_8 : decode cX12_become 8 = .ok (.iload_n 2, 1) := by decide +kernel
theorem dX12_become_9 : decode cX12_become 9 = .ok (.iconst 0, 1) := by decide +kernel
theorem dX12_become_10 : decode cX12_become 10 = .ok (.bipush 69, 2) := by decide +kernel
theorem dX12_become_12 : decode cX12_become 12 = .ok (.invokestatic 41, 3) := by decide +kernel
theorem dX12_become_15 : decode cX12_become 15 = .ok (.ifCond .ne 10, 3) := by decide +kernel
theorem dX12_become_18 : decode cX12_become 18 = .ok (.aload_n 0, 1) := by decide +kernel
theorem dX12_become_19 : decode cX12_become 19 = .ok (.ldc 45, 2) := by decide +kernel
theorem dX12_become_21 : decode cX12_become 21 = .ok (.invokevirtual 46, 3) := by decide +kernel
theorem dX12_become_24 : decode cX12_become 24 = .ok (.ireturn, 1) := by decide +kernel
theorem dX12_become_25 : decode cX12_become 25 = .ok (.aload_n 0, 1) := by decide +kernel
theorem dX12_become_26 : decode cX12_become 26 = .ok (.iload_n 1, 1) := by decide +kernel
theorem dX12_become_27 : decode cX12_become 27 = .ok (.iconst 1, 1) := by decide +kernel
theorem dX12_become_28 : decode cX12_become 28 = .ok (.iload_n 2, 1) := by decide +kernel
theorem dX12_become_29 : decode cX12_become 29 = .ok (.bipush 10, 2) := by decide +kernel
theorem dX12_become_31 : decode cX12_become 31 = .ok (.irem, 1) := by decide +kernel
theorem dX12_become_32 : decode cX12_become 32 = .ok (.invokevirtual 51, 3) := by decide +kernel
theorem dX12_become_35 : decode cX12_become 35 = .ok (.aload_n 0, 1) := by decide +kernel
theorem dX12_become_36 : decode cX12_become 36 = .ok (.bipush 10, 2) := by decide +kernel
theorem dX12_become_38 : decode cX12_become 38 = .ok (.iconst 5, 1) := by decide +kernel
theorem dX12_become_39 : decode cX12_become 39 = .ok (.iload_n 1, 1) := by decide +kernel
theorem dX12_become_40 : decode cX12_become 40 = .ok (.imul, 1) := by decide +kernel
theorem dX12_become_41 : decode cX12_become 41 = .ok (.iadd, 1) := by decide +kernel
theorem dX12_become_42 : decode cX12_become 42 = .ok (.iload_n 2, 1) := by decide +kernel
theorem dX12_become_43 : decode cX12_become 43 = .ok (.bipush 10, 2) := by decide +kernel
theorem dX12_become_45 : decode cX12_become 45 = .ok (.idiv, 1) := by decide +kernel
theorem dX12_become_46 : decode cX12_become 46 = .ok (.invokevirtual 69, 3) := by decide +kernel
theorem dX12_become_49 : decode cX12_become 49 = .ok (.ireturn, 1) := by decide +kernel
theorem dX12_above_0 : decode cX12_above 0 = .ok (.iload_n 0, 1) := by decide +kernel
theorem dX12_above_1 : decode cX12_above 1 = .ok (.ifCond .ne 7, 3) := by decide +kernel
theorem dX12_above_4 : decode cX12_above 4 = .ok (.iconst (-1), 1) := by decide +kernel
theorem dX12_above_5 : decode cX12_above 5 = .ok (.goto 15, 3) := by decide +kernel
theorem dX12_above_8 : decode cX12_above 8 = .ok (.iload_n 0, 1) := by decide +kernel
theorem dX12_above_9 : decode cX12_above 9 = .ok (.iconst 3, 1) := by decide +kernel
theorem dX12_above_10 : decode cX12_above 10 = .ok (.if_icmp .le 9, 3) := by decide +kernel
theorem dX12_above_13 : decode cX12_above 13 = .ok (.iload_n 0, 1) := by decide +kernel
theorem dX12_above_14 : decode cX12_above 14 = .ok (.iconst 3, 1) := by decide +kernel
theorem dX12_above_15 : decode cX12_above 15 = .ok (.isub, 1) := by decide +kernel
theorem dX12_above_16 : decode cX12_above 16 = .ok (.goto 4, 3) := by decide +kernel
theorem dX12_above_19 : decode cX12_above 19 = .ok (.iconst 0, 1) := by decide +kernel
theorem dX12_above_20 : decode cX12_above 20 = .ok (.ireturn, 1) := by decide +kernel
theorem dX12_as_0 : decode cX12_as 0 = .ok (.aload_n 0, 1) := by decide +kernel
theorem dX12_as_1 : decode cX12_as 1 = .ok (.iload_n 1, 1) := by decide +kernel
theorem dX12_as_2 : decode cX12_as 2 = .ok (.invokevirtual 55, 3) := by decide +kernel
theorem dX12_as_5 : decode cX12_as 5 = .ok (.ifCond .eq 13, 3) := by decide +kernel
theorem dX12_as_8 : decode cX12_as 8 = .ok (.iload_n 2, 1) := by decide +kernel
theorem dX12_as_9 : decode cX12_as 9 = .ok (.iconst 0, 1) := by decide +kernel
theorem dX12_as_10 : decode cX12_as 10 = .ok (.bipush 6, 2) := by decide +kernel
theorem dX12_as_12 : decode cX12_as 12 = .ok (.invokestatic 41, 3) := by decide +kernel
theorem dX12_as_15 : decode cX12_as 15 = .ok (.ifCond .ne 10, 3) := by decide +kernel
theorem dX12_as_18 : decode cX12_as 18 = .ok (.aload_n 0, 1) := by decide +kernel
theorem dX12_as_19 : decode cX12_as 19 = .ok (.ldc 45, 2) := by decide +kernel
theorem dX12_as_21 : decode cX12_as 21 = .ok (.invokevirtual 46, 3) := by decide +kernel
theorem dX12_as_24 : decode cX12_as 24 = .ok (.ireturn, 1) := by decide +kernel
theorem dX12_as_25 : decode cX12_as 25 = .ok (.aload_n 0, 1) := by decide +kernel
theorem dX12_as_26 : decode cX12_as 26 = .ok (.iload_n 1, 1) := by decide +kernel
theorem dX12_as_27 : decode cX12_as 27 = .ok (.iconst 0, 1) := by decide +kernel
theorem dX12_as_28 : decode cX12_as 28 = .ok (.invokevirtual 59, 3) := by decide +kernel
theorem dX12_as_31 : decode cX12_as 31 = .ok (.istore_n 3, 1) := by decide +kernel
theorem dX12_as_32 : decode cX12_as 32 = .ok (.iload_n 3, 1) := by decide +kernel
theorem dX12_as_33 : decode cX12_as 33 = .ok (.ifCond .lt 16, 3) := by decide +kernel
theorem dX12_as_36 : decode cX12_as 36 = .ok (.iload_n 3, 1) := by decide +kernel
theorem dX12_as_37 : decode cX12_as 37 = .ok (.iload_n 2, 1) := by decide +kernel
theorem dX12_as_38 : decode cX12_as 38 = .ok (.if_icmp .eq 11, 3) := by decide +kernel
theorem dX12_as_41 : decode cX12_as 41 = .ok (.iload_n 3, 1) := by decide +kernel
theorem dX12_as_42 : decode cX12_as 42 = .ok (.invokestatic 73, 3) := by decide +kernel
theorem dX12_as_45 : decode cX12_as 45 = .ok (.istore_n 3, 1) := by decide +kernel
theorem dX12_as_46 : decode cX12_as 46 = .ok (.goto (-14), 3) := by decide +kernel
theorem dX12_as_49 : decode cX12_as 49 = .ok (.iload_n 3, 1) := by decide +kernel
theorem dX12_as_50 : decode cX12_as 50 = .ok (.ifCond .ge 12, 3) := by decide +kernel
theorem dX12_as_53 : decode cX12_as 53 = .ok (.aload_n 0, 1) := by decide +kernel
theorem dX12_as_54 : decode cX12_as 54 = .ok (.ldc 76, 2) := by decide +kernel
theorem dX12_as_56 : decode cX12_as 56 = .ok (.invokevirtual 46, 3) := by decide +kernel
theorem dX12_as_59 : decode cX12_as 59 = .ok (.goto 9, 3) := by decide +kernel
theorem dX12_as_62 : decode cX12_as 62 = .ok (.aload_n 0, 1) := by decide +kernel
theorem dX12_as_63 : decode cX12_as 63 = .ok (.iload_n 1, 1) := by decide +kernel
theorem dX12_as_64 : decode cX12_as 64 = .ok (.iconst 1, 1) := by decide +kernel
theorem dX12_as_65 : decode cX12_as 65 = .ok (.invokevirtual 59, 3) := by decide +kernel
theorem dX12_as_68 : decode cX12_as 68 = .ok (.ireturn, 1) := by decide +kernel
theorem dX12_byteAt_0 : decode cX12_byteAt 0 = .ok (.iload_n 1, 1) := by decide +kernel
theorem dX12_byteAt_1 : decode cX12_byteAt 1 = .ok (.aload_n 0, 1) := by decide +kernel
theorem dX12_byteAt_2 : decode cX12_byteAt 2 = .ok (.getfield 77, 3) := by decide +kernel
theorem dX12_byteAt_5 : decode cX12_byteAt 5 = .ok (.if_icmp .ge 24, 3) := by decide +kernel
theorem dX12_byteAt_8 : decode cX12_byteAt 8 = .ok (.aload_n 0, 1) := by decide +kernel
theorem dX12_byteAt_9 : decode cX12_byteAt 9 = .ok (.getfield 7, 3) := by decide +kernel
theorem dX12_byteAt_12 : decode cX12_byteAt 12 = .ok (.sipush 140, 3) := by decide +kernel
theorem dX12_byteAt_15 : decode cX12_byteAt 15 = .ok (.bipush 50, 2) := by decide +kernel
theorem dX12_byteAt_17 : decode cX12_byteAt 17 = .ok (.aload_n 0, 1) := by decide +kernel
theorem dX12_byteAt_18 : decode cX12_byteAt 18 = .ok (.getfield 81, 3) := by decide +kernel
theorem dX12_byteAt_21 : decode cX12_byteAt 21 = .ok (.imul, 1) := by decide +kernel
theorem dX12_byteAt_22 : decode cX12_byteAt 22 = .ok (.iadd, 1) := by decide +kernel
theorem dX12_byteAt_23 : decode cX12_byteAt 23 = .ok (.iload_n 1, 1) := by decide +kernel
theorem dX12_byteAt_24 : decode cX12_byteAt 24 = .ok (.iadd, 1) := by decide +kernel
theorem dX12_byteAt_25 : decode cX12_byteAt 25 = .ok (.iaload, 1) := by decide +kernel
theorem dX12_byteAt_26 : decode cX12_byteAt 26 = .ok (.goto 4, 3) := by decide +kernel
theorem dX12_byteAt_29 : decode cX12_byteAt 29 = .ok (.iconst (-1), 1) := by decide +kernel
theorem dX12_byteAt_30 : decode cX12_byteAt 30 = .ok (.ireturn, 1) := by decide +kernel
theorem dX12_isDigit_0 : decode cX12_isDigit 0 = .ok (.iload_n 0, 1) := by decide +kernel
theorem dX12_isDigit_1 : decode cX12_isDigit 1 = .ok (.bipush 48, 2) := by decide +kernel
theorem dX12_isDigit_3 : decode cX12_isDigit 3 = .ok (.bipush 57, 2) := by decide +kernel
theorem dX12_isDigit_5 : decode cX12_isDigit 5 = .ok (.invokestatic 41, 3) := by decide +kernel
theorem dX12_isDigit_8 : decode cX12_isDigit 8 = .ok (.ireturn, 1) := by decide +kernel
theorem dX12_fails_0 : decode cX12_fails 0 = .ok (.aload_n 0, 1) := by decide +kernel
theorem dX12_fails_1 : decode cX12_fails 1 = .ok (.iconst 0, 1) := by decide +kernel
theorem dX12_fails_2 : decode cX12_fails 2 = .ok (.putfield 84, 3) := by decide +kernel
theorem dX12_fails_5 : decode cX12_fails 5 = .ok (.iconst 0, 1) := by decide +kernel
theorem dX12_fails_6 : decode cX12_fails 6 = .ok (.ireturn, 1) := by decide +kernel
theorem dX12_number_0 : decode cX12_number 0 = .ok (.iconst 0, 1) := by decide +kernel
theorem dX12_number_1 : decode cX12_number 1 = .ok (.istore_n 1, 1) := by decide +kernel
theorem dX12_number_2 : decode cX12_number 2 = .ok (.iconst 0, 1) := by decide +kernel
theorem dX12_number_3 : decode cX12_number 3 = .ok (.istore_n 2, 1) := by decide +kernel
theorem dX12_number_4 : decode cX12_number 4 = .ok (.iload_n 2, 1) := by decide +kernel
theorem dX12_number_5 : decode cX12_number 5 = .ok (.iconst 4, 1) := by decide +kernel
theorem dX12_number_6 : decode cX12_number 6 = .ok (.if_icmp .ge 50, 3) := by decide +kernel
theorem dX12_number_9 : decode cX12_number 9 = .ok (.aload_n 0, 1) := by decide +kernel
theorem dX12_number_10 : decode cX12_number 10 = .ok (.aload_n 0, 1) := by decide +kernel
theorem dX12_number_11 : decode cX12_number 11 = .ok (.getfield 88, 3) := by decide +kernel
theorem dX12_number_14 : decode cX12_number 14 = .ok (.invokevirtual 91, 3) := by decide +kernel
theorem dX12_number_17 : decode cX12_number 17 = .ok (.invokestatic 94, 3) := by decide +kernel
theorem dX12_number_20 : decode cX12_number 20 = .ok (.ifCond .eq 36, 3) := by decide +kernel
theorem dX12_number_23 : decode cX12_number 23 = .ok (.bipush 10, 2) := by decide +kernel
theorem dX12_number_25 : decode cX12_number 25 = .ok (.iload_n 1, 1) := by decide +kernel
theorem dX12_number_26 : decode cX12_number 26 = .ok (.imul, 1) := by decide +kernel
theorem dX12_number_27 : decode cX12_number 27 = .ok (.aload_n 0, 1) := by decide +kernel
theorem dX12_number_28 : decode cX12_number 28 = .ok (.aload_n 0, 1) := by decide +kernel
theorem dX12_number_29 : decode cX12_number 29 = .ok (.getfield 88, 3) := by decide +kernel
theorem dX12_number_32 : decode cX12_number 32 = .ok (.invokevirtual 91, 3) := by decide +kernel
theorem dX12_number_35 : decode cX12_number 35 = .ok (.iadd, 1) := by decide +kernel
theorem dX12_number_36 : decode cX12_number 36 = .ok (.bipush 48, 2) := by decide +kernel
theorem dX12_number_38 : decode cX12_number 38 = .ok (.isub, 1) := by decide +kernel
theorem dX12_number_39 : decode cX12_number 39 = .ok (.istore_n 1, 1) := by decide +kernel
theorem dX12_number_40 : decode cX12_number 40 = .ok (.aload_n 0, 1) := by decide +kernel
theorem dX12_number_41 : decode cX12_number 41 = .ok (.dup, 1) := by decide +kernel
theorem dX12_number_42 : decode cX12_number 42 = .ok (.getfield 88, 3) := by decide +kernel
theorem dX12_number_45 : decode cX12_number 45 = .ok (.iconst 1, 1) := by decide +kernel
theorem dX12_number_46 : decode cX12_number 46 = .ok (.iadd, 1) := by decide +kernel
theorem dX12_number_47 : decode cX12_number 47 = .ok (.putfield 88, 3) := by decide +kernel
theorem dX12_number_50 : decode cX12_number 50 = .ok (.iinc 2 1, 3) := by decide +kernel
theorem dX12_number_53 : decode cX12_number 53 = .ok (.goto (-49), 3) := by decide +kernel
theorem dX12_number_56 : decode cX12_number 56 = .ok (.iload_n 1, 1) := by decide +kernel
theorem dX12_number_57 : decode cX12_number 57 = .ok (.ireturn, 1) := by decide +kernel
theorem dX12_named_0 : decode cX12_named 0 = .ok (.iload_n 1, 1) := by decide +kernel
theorem dX12_named_1 : decode cX12_named 1 = .ok (.aload_n 0, 1) := by decide +kernel
theorem dX12_named_2 : decode cX12_named 2 = .ok (.getfield 81, 3) := by decide +kernel
theorem dX12_named_5 : decode cX12_named 5 = .ok (.ifCond .ne 8, 3) := by decide +kernel
theorem dX12_named_8 : decode cX12_named 8 = .ok (.bipush 121, 2) := by decide +kernel
theorem dX12_named_10 : decode cX12_named 10 = .ok (.goto 5, 3) := by decide +kernel
theorem dX12_named_13 : decode cX12_named 13 = .ok (.bipush 115, 2) := by decide +kernel
theorem dX12_named_15 : decode cX12_named 15 = .ok (.if_icmp .ne 7, 3) := by decide +kernel
theorem dX12_named_18 : decode cX12_named 18 = .ok (.iconst 1, 1) := by decide +kernel
theorem dX12_named_19 : decode cX12_named 19 = .ok (.goto 4, 3) := by decide +kernel
theorem dX12_named_22 : decode cX12_named 22 = .ok (.iconst 0, 1) := by decide +kernel
theorem dX12_named_23 : decode cX12_named 23 = .ok (.istore_n 2, 1) := by decide +kernel
theorem dX12_named_24 : decode cX12_named 24 = .ok (.iload_n 1, 1) := by decide +kernel
theorem dX12_named_25 : decode cX12_named 25 = .ok (.bipush 100, 2) := by decide +kernel
theorem dX12_named_27 : decode cX12_named 27 = .ok (.if_icmp .ne 7, 3) := by decide +kernel
theorem dX12_named_30 : decode cX12_named 30 = .ok (.iconst 1, 1) := by decide +kernel
theorem dX12_named_31 : decode cX12_named 31 = .ok (.goto 4, 3) := by decide +kernel
theorem dX12_named_34 : decode cX12_named 34 = .ok (.iconst 0, 1) := by decide +kernel
theorem dX12_named_35 : decode cX12_named 35 = .ok (.istore_n 3, 1) := by decide +kernel
theorem dX12_named_36 : decode cX12_named 36 = .ok (.iload_n 1, 1) := by decide +kernel
theorem dX12_named_37 : decode cX12_named 37 = .ok (.aload_n 0, 1) := by decide +kernel
theorem dX12_named_38 : decode cX12_named 38 = .ok (.getfield 81, 3) := by decide +kernel
theorem dX12_named_41 : decode cX12_named 41 = .ok (.ifCond .ne 8, 3) := by decide +kernel
theorem dX12_named_44 : decode cX12_named 44 = .ok (.bipush 120, 2) := by decide +kernel
theorem dX12_named_46 : decode cX12_named 46 = .ok (.goto 5, 3) := by decide +kernel
theorem dX12_named_49 : decode cX12_named 49 = .ok (.bipush 101, 2) := by decide +kernel
theorem dX12_named_51 : decode cX12_named 51 = .ok (.if_icmp .ne 7, 3) := by decide +kernel
theorem dX12_named_54 : decode cX12_named 54 = .ok (.iconst 1, 1) := by decide +kernel
theorem dX12_named_55 : decode cX12_named 55 = .ok (.goto 4, 3) := by decide +kernel
theorem dX12_named_58 : decode cX12_named 58 = .ok (.iconst 0, 1) := by decide +kernel
theorem dX12_named_59 : decode cX12_named 59 = .ok (.istore 4, 2) := by decide +kernel
theorem dX12_named_61 : decode cX12_named 61 = .ok (.iload_n 2, 1) := by decide +kernel
theorem dX12_named_62 : decode cX12_named 62 = .ok (.ifCond .ne 17, 3) := by decide +kernel
theorem dX12_named_65 : decode cX12_named 65 = .ok (.iload_n 3, 1) := by decide +kernel
theorem dX12_named_66 : decode cX12_named 66 = .ok (.ifCond .ne 13, 3) := by decide +kernel
theorem dX12_named_69 : decode cX12_named 69 = .ok (.iload 4, 2) := by decide +kernel
theorem dX12_named_71 : decode cX12_named 71 = .ok (.ifCond .ne 8, 3) := by decide +kernel
theorem dX12_named_74 : decode cX12_named 74 = .ok (.aload_n 0, 1) := by decide +kernel
theorem dX12_named_75 : decode cX12_named 75 = .ok (.invokevirtual 97, 3) := by decide +kernel
theorem dX12_named_78 : decode cX12_named 78 = .ok (.ireturn, 1) := by decide +kernel
theorem dX12_named_79 : decode cX12_named 79 = .ok (.aload_n 0, 1) := by decide +kernel
theorem dX12_named_80 : decode cX12_named 80 = .ok (.dup, 1) := by decide +kernel
theorem dX12_named_81 : decode cX12_named 81 = .ok (.getfield 88, 3) := by decide +kernel
theorem dX12_named_84 : decode cX12_named 84 = .ok (.iconst 1, 1) := by decide +kernel
theorem dX12_named_85 : decode cX12_named 85 = .ok (.iadd, 1) := by decide +kernel
theorem dX12_named_86 : decode cX12_named 86 = .ok (.putfield 88, 3) := by decide +kernel
theorem dX12_named_89 : decode cX12_named 89 = .ok (.iload_n 2, 1) := by decide +kernel
theorem dX12_named_90 : decode cX12_named 90 = .ok (.ifCond .eq 10, 3) := by decide +kernel
theorem dX12_named_93 : decode cX12_named 93 = .ok (.aload_n 0, 1) := by decide +kernel
theorem dX12_named_94 : decode cX12_named 94 = .ok (.getfield 101, 3) := by decide +kernel
theorem dX12_named_97 : decode cX12_named 97 = .ok (.goto 18, 3) := by decide +kernel
theorem dX12_named_100 : decode cX12_named 100 = .ok (.iload_n 3, 1) := by decide +kernel
theorem dX12_named_101 : decode cX12_named 101 = .ok (.ifCond .eq 10, 3) := by decide +kernel
theorem dX12_named_104 : decode cX12_named 104 = .ok (.aload_n 0, 1) := by decide +kernel
theorem dX12_named_105 : decode cX12_named 105 = .ok (.getfield 104, 3) := by decide +kernel
theorem dX12_named_108 : decode cX12_named 108 = .ok (.goto 7, 3) := by decide +kernel
theorem dX12_named_111 : decode cX12_named 111 = .ok (.aload_n 0, 1) := by decide +kernel
theorem dX12_named_112 : decode cX12_named 112 = .ok (.getfield 107, 3) := by decide +kernel
theorem dX12_named_115 : decode cX12_named 115 = .ok (.ireturn, 1) := by decide +kernel
theorem dX12_factor_0 : decode cX12_factor 0 = .ok (.aload_n 0, 1) := by decide +kernel
theorem dX12_factor_1 : decode cX12_factor 1 = .ok (.aload_n 0, 1) := by decide +kernel
theorem dX12_factor_2 : decode cX12_factor 2 = .ok (.getfield 88, 3) := by decide +kernel
theorem dX12_factor_5 : decode cX12_factor 5 = .ok (.invokevirtual 91, 3) := by decide +kernel
theorem dX12_factor_8 : decode cX12_factor 8 = .ok (.istore_n 1, 1) := by decide +kernel
theorem dX12_factor_9 : decode cX12_factor 9 = .ok (.iload_n 1, 1) := by decide +kernel
theorem dX12_factor_10 : decode cX12_factor 10 = .ok (.invokestatic 94, 3) := by decide +kernel
theorem dX12_factor_13 : decode cX12_factor 13 = .ok (.ifCond .eq 8, 3) := by decide +kernel
theorem dX12_factor_16 : decode cX12_factor 16 = .ok (.aload_n 0, 1) := by decide +kernel
theorem dX12_factor_17 : decode cX12_factor 17 = .ok (.invokevirtual 110, 3) := by decide +kernel
theorem dX12_factor_20 : decode cX12_factor 20 = .ok (.ireturn, 1) := by decide +kernel
theorem dX12_factor_21 : decode cX12_factor 21 = .ok (.iload_n 1, 1) := by decide +kernel
theorem dX12_factor_22 : decode cX12_factor 22 = .ok (.bipush 33, 2) := by decide +kernel
theorem dX12_factor_24 : decode cX12_factor 24 = .ok (.if_icmp .eq 15, 3) := by decide +kernel
theorem dX12_factor_27 : decode cX12_factor 27 = .ok (.iload_n 1, 1) := by decide +kernel
theorem dX12_factor_28 : decode cX12_factor 28 = .ok (.bipush 40, 2) := by decide +kernel
theorem dX12_factor_30 : decode cX12_factor 30 = .ok (.if_icmp .eq 9, 3) := by decide +kernel
theorem dX12_factor_33 : decode cX12_factor 33 = .ok (.aload_n 0, 1) := by decide +kernel
theorem dX12_factor_34 : decode cX12_factor 34 = .ok (.iload_n 1, 1) := by decide +kernel
theorem dX12_factor_35 : decode cX12_factor 35 = .ok (.invokevirtual 113, 3) := by decide +kernel
theorem dX12_factor_38 : decode cX12_factor 38 = .ok (.ireturn, 1) := by decide +kernel
theorem dX12_factor_39 : decode cX12_factor 39 = .ok (.aload_n 0, 1) := by decide +kernel
theorem dX12_factor_40 : decode cX12_factor 40 = .ok (.getfield 116, 3) := by decide +kernel
theorem dX12_factor_43 : decode cX12_factor 43 = .ok (.iconst 5, 1) := by decide +kernel
theorem dX12_factor_44 : decode cX12_factor 44 = .ok (.if_icmp .ne 8, 3) := by decide +kernel
theorem dX12_factor_47 : decode cX12_factor 47 = .ok (.aload_n 0, 1) := by decide +kernel
theorem dX12_factor_48 : decode cX12_factor 48 = .ok (.invokevirtual 97, 3) := by decide +kernel
theorem dX12_factor_51 : decode cX12_factor 51 = .ok (.ireturn, 1) := by decide +kernel
theorem dX12_factor_52 : decode cX12_factor 52 = .ok (.aload_n 0, 1) := by decide +kernel
theorem dX12_factor_53 : decode cX12_factor 53 = .ok (.dup, 1) := by decide +kernel
theorem dX12_factor_54 : decode cX12_factor 54 = .ok (.getfield 116, 3) := by decide +kernel
theorem dX12_factor_57 : decode cX12_factor 57 = .ok (.iconst 1, 1) := by decide +kernel
theorem dX12_factor_58 : decode cX12_factor 58 = .ok (.iadd, 1) := by decide +kernel
theorem dX12_factor_59 : decode cX12_factor 59 = .ok (.putfield 116, 3) := by decide +kernel
theorem dX12_factor_62 : decode cX12_factor 62 = .ok (.aload_n 0, 1) := by decide +kernel
theorem dX12_factor_63 : decode cX12_factor 63 = .ok (.dup, 1) := by decide +kernel
theorem dX12_factor_64 : decode cX12_factor 64 = .ok (.getfield 88, 3) := by decide +kernel
theorem dX12_factor_67 : decode cX12_factor 67 = .ok (.iconst 1, 1) := by decide +kernel
theorem dX12_factor_68 : decode cX12_factor 68 = .ok (.iadd, 1) := by decide +kernel
theorem dX12_factor_69 : decode cX12_factor 69 = .ok (.putfield 88, 3) := by decide +kernel
theorem dX12_factor_72 : decode cX12_factor 72 = .ok (.iload_n 1, 1) := by decide +kernel
theorem dX12_factor_73 : decode cX12_factor 73 = .ok (.bipush 33, 2) := by decide +kernel
theorem dX12_factor_75 : decode cX12_factor 75 = .ok (.if_icmp .ne 10, 3) := by decide +kernel
theorem dX12_factor_78 : decode cX12_factor 78 = .ok (.aload_n 0, 1) := by decide +kernel
theorem dX12_factor_79 : decode cX12_factor 79 = .ok (.invokevirtual 119, 3) := by decide +kernel
theorem dX12_factor_82 : decode cX12_factor 82 = .ok (.goto 7, 3) := by decide +kernel
theorem dX12_factor_85 : decode cX12_factor 85 = .ok (.aload_n 0, 1) := by decide +kernel
theorem dX12_factor_86 : decode cX12_factor 86 = .ok (.invokevirtual 122, 3) := by decide +kernel
theorem dX12_factor_89 : decode cX12_factor 89 = .ok (.istore_n 2, 1) := by decide +kernel
theorem dX12_factor_90 : decode cX12_factor 90 = .ok (.aload_n 0, 1) := by decide +kernel
theorem dX12_factor_91 : decode cX12_factor 91 = .ok (.dup, 1) := by decide +kernel
theorem dX12_factor_92 : decode cX12_factor 92 = .ok (.getfield 116, 3) := by decide +kernel
theorem dX12_factor_95 : decode cX12_factor 95 = .ok (.iconst 1, 1) := by decide +kernel
theorem dX12_factor_96 : decode cX12_factor 96 = .ok (.isub, 1) := by decide +kernel
theorem dX12_factor_97 : decode cX12_factor 97 = .ok (.putfield 116, 3) := by decide +kernel
theorem dX12_factor_100 : decode cX12_factor 100 = .ok (.iload_n 1, 1) := by decide +kernel
theorem dX12_factor_101 : decode cX12_factor 101 = .ok (.bipush 33, 2) := by decide +kernel
theorem dX12_factor_103 : decode cX12_factor 103 = .ok (.if_icmp .ne 13, 3) := by decide +kernel
theorem dX12_factor_106 : decode cX12_factor 106 = .ok (.iload_n 2, 1) := by decide +kernel
theorem dX12_factor_107 : decode cX12_factor 107 = .ok (.ifCond .ne 7, 3) := by decide +kernel
theorem dX12_factor_110 : decode cX12_factor 110 = .ok (.iconst 1, 1) := by decide +kernel
theorem dX12_factor_111 : decode cX12_factor 111 = .ok (.goto 4, 3) := by decide +kernel
theorem dX12_factor_114 : decode cX12_factor 114 = .ok (.iconst 0, 1) := by decide +kernel
theorem dX12_factor_115 : decode cX12_factor 115 = .ok (.ireturn, 1) := by decide +kernel
theorem dX12_factor_116 : decode cX12_factor 116 = .ok (.aload_n 0, 1) := by decide +kernel
theorem dX12_factor_117 : decode cX12_factor 117 = .ok (.getfield 84, 3) := by decide +kernel
theorem dX12_factor_120 : decode cX12_factor 120 = .ok (.ifCond .eq 28, 3) := by decide +kernel
theorem dX12_factor_123 : decode cX12_factor 123 = .ok (.aload_n 0, 1) := by decide +kernel
theorem dX12_factor_124 : decode cX12_factor 124 = .ok (.aload_n 0, 1) := by decide +kernel
theorem dX12_factor_125 : decode cX12_factor 125 = .ok (.getfield 88, 3) := by decide +kernel
theorem dX12_factor_128 : decode cX12_factor 128 = .ok (.invokevirtual 91, 3) := by decide +kernel
theorem dX12_factor_131 : decode cX12_factor 131 = .ok (.bipush 41, 2) := by decide +kernel
theorem dX12_factor_133 : decode cX12_factor 133 = .ok (.if_icmp .ne 15, 3) := by decide +kernel
theorem dX12_factor_136 : decode cX12_factor 136 = .ok (.aload_n 0, 1) := by decide +kernel
theorem dX12_factor_137 : decode cX12_factor 137 = .ok (.dup, 1) := by decide +kernel
theorem dX12_factor_138 : decode cX12_factor 138 = .ok (.getfield 88, 3) := by decide +kernel
theorem dX12_factor_141 : decode cX12_factor 141 = .ok (.iconst 1, 1) := by decide +kernel
theorem dX12_factor_142 : decode cX12_factor 142 = .ok (.iadd, 1) := by decide +kernel
theorem dX12_factor_143 : decode cX12_factor 143 = .ok (.putfield 88, 3) := by decide +kernel
theorem dX12_factor_146 : decode cX12_factor 146 = .ok (.iload_n 2, 1) := by decide +kernel
theorem dX12_factor_147 : decode cX12_factor 147 = .ok (.ireturn, 1) := by decide +kernel
theorem dX12_factor_148 : decode cX12_factor 148 = .ok (.aload_n 0, 1) := by decide +kernel
theorem dX12_factor_149 : decode cX12_factor 149 = .ok (.invokevirtual 97, 3) := by decide +kernel
theorem dX12_factor_152 : decode cX12_factor 152 = .ok (.ireturn, 1) := by decide +kernel
theorem dX12_product_0 : decode cX12_product 0 = .ok (.aload_n 0, 1) := by decide +kernel
theorem dX12_product_1 : decode cX12_product 1 = .ok (.invokevirtual 119, 3) := by decide +kernel
theorem dX12_product_4 : decode cX12_product 4 = .ok (.istore_n 1, 1) := by decide +kernel
theorem dX12_product_5 : decode cX12_product 5 = .ok (.aload_n 0, 1) := by decide +kernel
theorem dX12_product_6 : decode cX12_product 6 = .ok (.getfield 84, 3) := by decide +kernel
theorem dX12_product_9 : decode cX12_product 9 = .ok (.ifCond .eq 105, 3) := by decide +kernel
theorem dX12_product_12 : decode cX12_product 12 = .ok (.aload_n 0, 1) := by decide +kernel
theorem dX12_product_13 : decode cX12_product 13 = .ok (.aload_n 0, 1) := by decide +kernel
theorem dX12_product_14 : decode cX12_product 14 = .ok (.getfield 88, 3) := by decide +kernel
theorem dX12_product_17 : decode cX12_product 17 = .ok (.invokevirtual 91, 3) := by decide +kernel
theorem dX12_product_20 : decode cX12_product 20 = .ok (.bipush 42, 2) := by decide +kernel
theorem dX12_product_22 : decode cX12_product 22 = .ok (.if_icmp .eq 29, 3) := by decide +kernel
theorem dX12_product_25 : decode cX12_product 25 = .ok (.aload_n 0, 1) := by decide +kernel
theorem dX12_product_26 : decode cX12_product 26 = .ok (.aload_n 0, 1) := by decide +kernel
theorem dX12_product_27 : decode cX12_product 27 = .ok (.getfield 88, 3) := by decide +kernel
theorem dX12_product_30 : decode cX12_product 30 = .ok (.invokevirtual 91, 3) := by decide +kernel
theorem dX12_product_33 : decode cX12_product 33 = .ok (.bipush 47, 2) := by decide +kernel
theorem dX12_product_35 : decode cX12_product 35 = .ok (.if_icmp .eq 16, 3) := by decide +kernel
theorem dX12_product_38 : decode cX12_product 38 = .ok (.aload_n 0, 1) := by decide +kernel
theorem dX12_product_39 : decode cX12_product 39 = .ok (.aload_n 0, 1) := by decide +kernel
theorem dX12_product_40 : decode cX12_product 40 = .ok (.getfield 88, 3) := by decide +kernel
theorem dX12_product_43 : decode cX12_product 43 = .ok (.invokevirtual 91, 3) := by decide +kernel
theorem dX12_product_46 : decode cX12_product 46 = .ok (.bipush 37, 2) := by decide +kernel
theorem dX12_product_48 : decode cX12_product 48 = .ok (.if_icmp .ne 66, 3) := by decide +kernel
theorem dX12_product_51 : decode cX12_product 51 = .ok (.aload_n 0, 1) := by decide +kernel
theorem dX12_product_52 : decode cX12_product 52 = .ok (.aload_n 0, 1) := by decide +kernel
theorem dX12_product_53 : decode cX12_product 53 = .ok (.getfield 88, 3) := by decide +kernel
theorem dX12_product_56 : decode cX12_product 56 = .ok (.invokevirtual 91, 3) := by decide +kernel
theorem dX12_product_59 : decode cX12_product 59 = .ok (.istore_n 2, 1) := by decide +kernel
theorem dX12_product_60 : decode cX12_product 60 = .ok (.aload_n 0, 1) := by decide +kernel
theorem dX12_product_61 : decode cX12_product 61 = .ok (.dup, 1) := by decide +kernel
theorem dX12_product_62 : decode cX12_product 62 = .ok (.getfield 88, 3) := by decide +kernel
theorem dX12_product_65 : decode cX12_product 65 = .ok (.iconst 1, 1) := by decide +kernel
theorem dX12_product_66 : decode cX12_product 66 = .ok (.iadd, 1) := by decide +kernel
theorem dX12_product_67 : decode cX12_product 67 = .ok (.putfield 88, 3) := by decide +kernel
theorem dX12_product_70 : decode cX12_product 70 = .ok (.aload_n 0, 1) := by decide +kernel
theorem dX12_product_71 : decode cX12_product 71 = .ok (.invokevirtual 119, 3) := by decide +kernel
theorem dX12_product_74 : decode cX12_product 74 = .ok (.istore_n 3, 1) := by decide +kernel
theorem dX12_product_75 : decode cX12_product 75 = .ok (.iload_n 2, 1) := by decide +kernel
theorem dX12_product_76 : decode cX12_product 76 = .ok (.bipush 42, 2) := by decide +kernel
theorem dX12_product_78 : decode cX12_product 78 = .ok (.if_icmp .ne 9, 3) := by decide +kernel
theorem dX12_product_81 : decode cX12_product 81 = .ok (.iload_n 1, 1) := by decide +kernel
theorem dX12_product_82 : decode cX12_product 82 = .ok (.iload_n 3, 1) := by decide +kernel
theorem dX12_product_83 : decode cX12_product 83 = .ok (.imul, 1) := by decide +kernel
theorem dX12_product_84 : decode cX12_product 84 = .ok (.goto 26, 3) := by decide +kernel
theorem dX12_product_87 : decode cX12_product 87 = .ok (.iload_n 3, 1) := by decide +kernel
theorem dX12_product_88 : decode cX12_product 88 = .ok (.ifCond .ne 7, 3) := by decide +kernel
theorem dX12_product_91 : decode cX12_product 91 = .ok (.iconst 0, 1) := by decide +kernel
theorem dX12_product_92 : decode cX12_product 92 = .ok (.goto 18, 3) := by decide +kernel
theorem dX12_product_95 : decode cX12_product 95 = .ok (.iload_n 2, 1) := by decide +kernel
theorem dX12_product_96 : decode cX12_product 96 = .ok (.bipush 47, 2) := by decide +kernel
theorem dX12_product_98 : decode cX12_product 98 = .ok (.if_icmp .ne 9, 3) := by decide +kernel
theorem dX12_product_101 : decode cX12_product 101 = .ok (.iload_n 1, 1) := by decide +kernel
theorem dX12_product_102 : decode cX12_product 102 = .ok (.iload_n 3, 1) := by decide +kernel
theorem dX12_product_103 : decode cX12_product 103 = .ok (.idiv, 1) := by decide +kernel
theorem dX12_product_104 : decode cX12_product 104 = .ok (.goto 6, 3) := by decide +kernel
theorem dX12_product_107 : decode cX12_product 107 = .ok (.iload_n 1, 1) := by decide +kernel
theorem dX12_product_108 : decode cX12_product 108 = .ok (.iload_n 3, 1) := by decide +kernel
theorem dX12_product_109 : decode cX12_product 109 = .ok (.irem, 1) := by decide +kernel
theorem dX12_product_110 : decode cX12_product 110 = .ok (.istore_n 1, 1) := by decide +kernel
theorem dX12_product_111 : decode cX12_product 111 = .ok (.goto (-106), 3) := by decide +kernel
theorem dX12_product_114 : decode cX12_product 114 = .ok (.iload_n 1, 1) := by decide +kernel
theorem dX12_product_115 : decode cX12_product 115 = .ok (.ireturn, 1) := by decide +kernel
theorem dX12_sum_0 : decode cX12_sum 0 = .ok (.aload_n 0, 1) := by decide +kernel
theorem dX12_sum_1 : decode cX12_sum 1 = .ok (.invokevirtual 125, 3) := by decide +kernel
theorem dX12_sum_4 : decode cX12_sum 4 = .ok (.istore_n 1, 1) := by decide +kernel
theorem dX12_sum_5 : decode cX12_sum 5 = .ok (.aload_n 0, 1) := by decide +kernel
theorem dX12_sum_6 : decode cX12_sum 6 = .ok (.getfield 84, 3) := by decide +kernel
theorem dX12_sum_9 : decode cX12_sum 9 = .ok (.ifCond .eq 72, 3) := by decide +kernel
theorem dX12_sum_12 : decode cX12_sum 12 = .ok (.aload_n 0, 1) := by decide +kernel
theorem dX12_sum_13 : decode cX12_sum 13 = .ok (.aload_n 0, 1) := by decide +kernel
theorem dX12_sum_14 : decode cX12_sum 14 = .ok (.getfield 88, 3) := by decide +kernel
theorem dX12_sum_17 : decode cX12_sum 17 = .ok (.invokevirtual 91, 3) := by decide +kernel
theorem dX12_sum_20 : decode cX12_sum 20 = .ok (.bipush 43, 2) := by decide +kernel
theorem dX12_sum_22 : decode cX12_sum 22 = .ok (.if_icmp .eq 16, 3) := by decide +kernel
theorem dX12_sum_25 : decode cX12_sum 25 = .ok (.aload_n 0, 1) := by decide +kernel
theorem dX12_sum_26 : decode cX12_sum 26 = .ok (.aload_n 0, 1) := by decide +kernel
theorem dX12_sum_27 : decode cX12_sum 27 = .ok (.getfield 88, 3) := by decide +kernel
theorem dX12_sum_30 : decode cX12_sum 30 = .ok (.invokevirtual 91, 3) := by decide +kernel
theorem dX12_sum_33 : decode cX12_sum 33 = .ok (.bipush 45, 2) := by decide +kernel
theorem dX12_sum_35 : decode cX12_sum 35 = .ok (.if_icmp .ne 46, 3) := by decide +kernel
theorem dX12_sum_38 : decode cX12_sum 38 = .ok (.aload_n 0, 1) := by decide +kernel
theorem dX12_sum_39 : decode cX12_sum 39 = .ok (.aload_n 0, 1) := by decide +kernel
theorem dX12_sum_40 : decode cX12_sum 40 = .ok (.getfield 88, 3) := by decide +kernel
theorem dX12_sum_43 : decode cX12_sum 43 = .ok (.invokevirtual 91, 3) := by decide +kernel
theorem dX12_sum_46 : decode cX12_sum 46 = .ok (.istore_n 2, 1) := by decide +kernel
theorem dX12_sum_47 : decode cX12_sum 47 = .ok (.aload_n 0, 1) := by decide +kernel
theorem dX12_sum_48 : decode cX12_sum 48 = .ok (.dup, 1) := by decide +kernel
theorem dX12_sum_49 : decode cX12_sum 49 = .ok (.getfield 88, 3) := by decide +kernel
theorem dX12_sum_52 : decode cX12_sum 52 = .ok (.iconst 1, 1) := by decide +kernel
theorem dX12_sum_53 : decode cX12_sum 53 = .ok (.iadd, 1) := by decide +kernel
theorem dX12_sum_54 : decode cX12_sum 54 = .ok (.putfield 88, 3) := by decide +kernel
theorem dX12_sum_57 : decode cX12_sum 57 = .ok (.aload_n 0, 1) := by decide +kernel
theorem dX12_sum_58 : decode cX12_sum 58 = .ok (.invokevirtual 125, 3) := by decide +kernel
theorem dX12_sum_61 : decode cX12_sum 61 = .ok (.istore_n 3, 1) := by decide +kernel
theorem dX12_sum_62 : decode cX12_sum 62 = .ok (.iload_n 2, 1) := by decide +kernel
theorem dX12_sum_63 : decode cX12_sum 63 = .ok (.bipush 43, 2) := by decide +kernel
theorem dX12_sum_65 : decode cX12_sum 65 = .ok (.if_icmp .ne 9, 3) := by decide +kernel
theorem dX12_sum_68 : decode cX12_sum 68 = .ok (.iload_n 1, 1) := by decide +kernel
theorem dX12_sum_69 : decode cX12_sum 69 = .ok (.iload_n 3, 1) := by decide +kernel
theorem dX12_sum_70 : decode cX12_sum 70 = .ok (.iadd, 1) := by decide +kernel
theorem dX12_sum_71 : decode cX12_sum 71 = .ok (.goto 6, 3) := by decide +kernel
theorem dX12_sum_74 : decode cX12_sum 74 = .ok (.iload_n 1, 1) := by decide +kernel
theorem dX12_sum_75 : decode cX12_sum 75 = .ok (.iload_n 3, 1) := by decide +kernel
theorem dX12_sum_76 : decode cX12_sum 76 = .ok (.isub, 1) := by decide +kernel
theorem dX12_sum_77 : decode cX12_sum 77 = .ok (.istore_n 1, 1) := by decide +kernel
theorem dX12_sum_78 : decode cX12_sum 78 = .ok (.goto (-73), 3) := by decide +kernel
theorem dX12_sum_81 : decode cX12_sum 81 = .ok (.iload_n 1, 1) := by decide +kernel
theorem dX12_sum_82 : decode cX12_sum 82 = .ok (.ireturn, 1) := by decide +kernel
theorem dX12_compared_0 : decode cX12_compared 0 = .ok (.aload_n 0, 1) := by decide +kernel
theorem dX12_compared_1 : decode cX12_compared 1 = .ok (.invokevirtual 128, 3) := by decide +kernel
theorem dX12_compared_4 : decode cX12_compared 4 = .ok (.istore_n 1, 1) := by decide +kernel
theorem dX12_compared_5 : decode cX12_compared 5 = .ok (.aload_n 0, 1) := by decide +kernel
theorem dX12_compared_6 : decode cX12_compared 6 = .ok (.getfield 84, 3) := by decide +kernel
theorem dX12_compared_9 : decode cX12_compared 9 = .ok (.ifCond .eq 14, 3) := by decide +kernel
theorem dX12_compared_12 : decode cX12_compared 12 = .ok (.aload_n 0, 1) := by decide +kernel
theorem dX12_compared_13 : decode cX12_compared 13 = .ok (.aload_n 0, 1) := by decide +kernel
theorem dX12_compared_14 : decode cX12_compared 14 = .ok (.getfield 88, 3) := by decide +kernel
theorem dX12_compared_17 : decode cX12_compared 17 = .ok (.invokevirtual 91, 3) := by decide +kernel
theorem dX12_compared_20 : decode cX12_compared 20 = .ok (.goto 4, 3) := by decide +kernel
theorem dX12_compared_23 : decode cX12_compared 23 = .ok (.iconst (-1), 1) := by decide +kernel
theorem dX12_compared_24 : decode cX12_compared 24 = .ok (.istore_n 2, 1) := by decide +kernel
theorem dX12_compared_25 : decode cX12_compared 25 = .ok (.iload_n 2, 1) := by decide +kernel
theorem dX12_compared_26 : decode cX12_compared 26 = .ok (.bipush 60, 2) := by decide +kernel
theorem dX12_compared_28 : decode cX12_compared 28 = .ok (.if_icmp .eq 17, 3) := by decide +kernel
theorem dX12_compared_31 : decode cX12_compared 31 = .ok (.iload_n 2, 1) := by decide +kernel
theorem dX12_compared_32 : decode cX12_compared 32 = .ok (.bipush 61, 2) := by decide +kernel
theorem dX12_compared_34 : decode cX12_compared 34 = .ok (.if_icmp .eq 11, 3) := by decide +kernel
theorem dX12_compared_37 : decode cX12_compared 37 = .ok (.iload_n 2, 1) := by decide +kernel
theorem dX12_compared_38 : decode cX12_compared 38 = .ok (.bipush 62, 2) := by decide +kernel
theorem dX12_compared_40 : decode cX12_compared 40 = .ok (.if_icmp .eq 5, 3) := by decide +kernel
theorem dX12_compared_43 : decode cX12_compared 43 = .ok (.iload_n 1, 1) := by decide +kernel
theorem dX12_compared_44 : decode cX12_compared 44 = .ok (.ireturn, 1) := by decide +kernel
theorem dX12_compared_45 : decode cX12_compared 45 = .ok (.aload_n 0, 1) := by decide +kernel
theorem dX12_compared_46 : decode cX12_compared 46 = .ok (.dup, 1) := by decide +kernel
theorem dX12_compared_47 : decode cX12_compared 47 = .ok (.getfield 88, 3) := by decide +kernel
theorem dX12_compared_50 : decode cX12_compared 50 = .ok (.iconst 1, 1) := by decide +kernel
theorem dX12_compared_51 : decode cX12_compared 51 = .ok (.iadd, 1) := by decide +kernel
theorem dX12_compared_52 : decode cX12_compared 52 = .ok (.putfield 88, 3) := by decide +kernel
theorem dX12_compared_55 : decode cX12_compared 55 = .ok (.aload_n 0, 1) := by decide +kernel
theorem dX12_compared_56 : decode cX12_compared 56 = .ok (.invokevirtual 128, 3) := by decide +kernel
theorem dX12_compared_59 : decode cX12_compared 59 = .ok (.istore_n 3, 1) := by decide +kernel
theorem dX12_compared_60 : decode cX12_compared 60 = .ok (.iload_n 2, 1) := by decide +kernel
theorem dX12_compared_61 : decode cX12_compared 61 = .ok (.bipush 60, 2) := by decide +kernel
theorem dX12_compared_63 : decode cX12_compared 63 = .ok (.if_icmp .ne 16, 3) := by decide +kernel
theorem dX12_compared_66 : decode cX12_compared 66 = .ok (.iload_n 1, 1) := by decide +kernel
theorem dX12_compared_67 : decode cX12_compared 67 = .ok (.iload_n 3, 1) := by decide +kernel
theorem dX12_compared_68 : decode cX12_compared 68 = .ok (.if_icmp .ge 7, 3) := by decide +kernel
theorem dX12_compared_71 : decode cX12_compared 71 = .ok (.iconst 1, 1) := by decide +kernel
theorem dX12_compared_72 : decode cX12_compared 72 = .ok (.goto 36, 3) := by decide +kernel
theorem dX12_compared_75 : decode cX12_compared 75 = .ok (.iconst 0, 1) := by decide +kernel
theorem dX12_compared_76 : decode cX12_compared 76 = .ok (.goto 32, 3) := by decide +kernel
theorem dX12_compared_79 : decode cX12_compared 79 = .ok (.iload_n 2, 1) := by decide +kernel
theorem dX12_compared_80 : decode cX12_compared 80 = .ok (.bipush 61, 2) := by decide +kernel
theorem dX12_compared_82 : decode cX12_compared 82 = .ok (.if_icmp .ne 16, 3) := by decide +kernel
theorem dX12_compared_85 : decode cX12_compared 85 = .ok (.iload_n 1, 1) := by decide +kernel
theorem dX12_compared_86 : decode cX12_compared 86 = .ok (.iload_n 3, 1) := by decide +kernel
theorem dX12_compared_87 : decode cX12_compared 87 = .ok (.if_icmp .ne 7, 3) := by decide +kernel
theorem dX12_compared_90 : decode cX12_compared 90 = .ok (.iconst 1, 1) := by decide +kernel
theorem dX12_compared_91 : decode cX12_compared 91 = .ok (.goto 17, 3) := by decide +kernel
theorem dX12_compared_94 : decode cX12_compared 94 = .ok (.iconst 0, 1) := by decide +kernel
theorem dX12_compared_95 : decode cX12_compared 95 = .ok (.goto 13, 3) := by decide +kernel
theorem dX12_compared_98 : decode cX12_compared 98 = .ok (.iload_n 1, 1) := by decide +kernel
theorem dX12_compared_99 : decode cX12_compared 99 = .ok (.iload_n 3, 1) := by decide +kernel
theorem dX12_compared_100 : decode cX12_compared 100 = .ok (.if_icmp .le 7, 3) := by decide +kernel
theorem dX12_compared_103 : decode cX12_compared 103 = .ok (.iconst 1, 1) := by decide +kernel
theorem dX12_compared_104 : decode cX12_compared 104 = .ok (.goto 4, 3) := by decide +kernel
theorem dX12_compared_107 : decode cX12_compared 107 = .ok (.iconst 0, 1) := by decide +kernel
theorem dX12_compared_108 : decode cX12_compared 108 = .ok (.istore 4, 2) := by decide +kernel
theorem dX12_compared_110 : decode cX12_compared 110 = .ok (.iload 4, 2) := by decide +kernel
theorem dX12_compared_112 : decode cX12_compared 112 = .ok (.ifCond .eq 7, 3) := by decide +kernel
theorem dX12_compared_115 : decode cX12_compared 115 = .ok (.iconst 1, 1) := by decide +kernel
theorem dX12_compared_116 : decode cX12_compared 116 = .ok (.goto 4, 3) := by decide +kernel
theorem dX12_compared_119 : decode cX12_compared 119 = .ok (.iconst 0, 1) := by decide +kernel
theorem dX12_compared_120 : decode cX12_compared 120 = .ok (.ireturn, 1) := by decide +kernel
theorem dX12_both_0 : decode cX12_both 0 = .ok (.aload_n 0, 1) := by decide +kernel
theorem dX12_both_1 : decode cX12_both 1 = .ok (.invokevirtual 131, 3) := by decide +kernel
theorem dX12_both_4 : decode cX12_both 4 = .ok (.istore_n 1, 1) := by decide +kernel
theorem dX12_both_5 : decode cX12_both 5 = .ok (.aload_n 0, 1) := by decide +kernel
theorem dX12_both_6 : decode cX12_both 6 = .ok (.getfield 84, 3) := by decide +kernel
theorem dX12_both_9 : decode cX12_both 9 = .ok (.ifCond .eq 48, 3) := by decide +kernel
