theorem dX12_both_12 : decode cX12_both 12 = .ok (.aload_n 0, 1) := by decide +kernel
theorem dX12_both_13 : decode cX12_both 13 = .ok (.aload_n 0, 1) := by decide +kernel
theorem dX12_both_14 : decode cX12_both 14 = .ok (.getfield 88, 3) := by decide +kernel
theorem dX12_both_17 : decode cX12_both 17 = .ok (.invokevirtual 91, 3) := by decide +kernel
theorem dX12_both_20 : decode cX12_both 20 = .ok (.bipush 38, 2) := by decide +kernel
theorem dX12_both_22 : decode cX12_both 22 = .ok (.if_icmp .ne 35, 3) := by decide +kernel
theorem dX12_both_25 : decode cX12_both 25 = .ok (.aload_n 0, 1) := by decide +kernel
theorem dX12_both_26 : decode cX12_both 26 = .ok (.dup, 1) := by decide +kernel
theorem dX12_both_27 : decode cX12_both 27 = .ok (.getfield 88, 3) := by decide +kernel
theorem dX12_both_30 : decode cX12_both 30 = .ok (.iconst 1, 1) := by decide +kernel
theorem dX12_both_31 : decode cX12_both 31 = .ok (.iadd, 1) := by decide +kernel
theorem dX12_both_32 : decode cX12_both 32 = .ok (.putfield 88, 3) := by decide +kernel
theorem dX12_both_35 : decode cX12_both 35 = .ok (.aload_n 0, 1) := by decide +kernel
theorem dX12_both_36 : decode cX12_both 36 = .ok (.invokevirtual 131, 3) := by decide +kernel
theorem dX12_both_39 : decode cX12_both 39 = .ok (.istore_n 2, 1) := by decide +kernel
theorem dX12_both_40 : decode cX12_both 40 = .ok (.iload_n 1, 1) := by decide +kernel
theorem dX12_both_41 : decode cX12_both 41 = .ok (.ifCond .eq 11, 3) := by decide +kernel
theorem dX12_both_44 : decode cX12_both 44 = .ok (.iload_n 2, 1) := by decide +kernel
theorem dX12_both_45 : decode cX12_both 45 = .ok (.ifCond .eq 7, 3) := by decide +kernel
theorem dX12_both_48 : decode cX12_both 48 = .ok (.iconst 1, 1) := by decide +kernel
theorem dX12_both_49 : decode cX12_both 49 = .ok (.goto 4, 3) := by decide +kernel
theorem dX12_both_52 : decode cX12_both 52 = .ok (.iconst 0, 1) := by decide +kernel
theorem dX12_both_53 : decode cX12_both 53 = .ok (.istore_n 1, 1) := by decide +kernel
theorem dX12_both_54 : decode cX12_both 54 = .ok (.goto (-49), 3) := by decide +kernel
theorem dX12_both_57 : decode cX12_both 57 = .ok (.iload_n 1, 1) := by decide +kernel
theorem dX12_both_58 : decode cX12_both 58 = .ok (.ireturn, 1) := by decide +kernel
theorem dX12_whole_0 : decode cX12_whole 0 = .ok (.aload_n 0, 1) := by decide +kernel
theorem dX12_whole_1 : decode cX12_whole 1 = .ok (.invokevirtual 134, 3) := by decide +kernel
theorem dX12_whole_4 : decode cX12_whole 4 = .ok (.istore_n 1, 1) := by decide +kernel
theorem dX12_whole_5 : decode cX12_whole 5 = .ok (.aload_n 0, 1) := by decide +kernel
theorem dX12_whole_6 : decode cX12_whole 6 = .ok (.getfield 84, 3) := by decide +kernel
theorem dX12_whole_9 : decode cX12_whole 9 = .ok (.ifCond .eq 48, 3) := by decide +kernel
theorem dX12_whole_12 : decode cX12_whole 12 = .ok (.aload_n 0, 1) := by decide +kernel
theorem dX12_whole_13 : decode cX12_whole 13 = .ok (.aload_n 0, 1) := by decide +kernel
theorem dX12_whole_14 : decode cX12_whole 14 = .ok (.getfield 88, 3) := by decide +kernel
theorem dX12_whole_17 : decode cX12_whole 17 = .ok (.invokevirtual 91, 3) := by decide +kernel
theorem dX12_whole_20 : decode cX12_whole 20 = .ok (.bipush 124, 2) := by decide +kernel
theorem dX12_whole_22 : decode cX12_whole 22 = .ok (.if_icmp .ne 35, 3) := by decide +kernel
theorem dX12_whole_25 : decode cX12_whole 25 = .ok (.aload_n 0, 1) := by decide +kernel
theorem dX12_whole_26 : decode cX12_whole 26 = .ok (.dup, 1) := by decide +kernel
theorem dX12_whole_27 : decode cX12_whole 27 = .ok (.getfield 88, 3) := by decide +kernel
theorem dX12_whole_30 : decode cX12_whole 30 = .ok (.iconst 1, 1) := by decide +kernel
theorem dX12_whole_31 : decode cX12_whole 31 = .ok (.iadd, 1) := by decide +kernel
theorem dX12_whole_32 : decode cX12_whole 32 = .ok (.putfield 88, 3) := by decide +kernel
theorem dX12_whole_35 : decode cX12_whole 35 = .ok (.aload_n 0, 1) := by decide +kernel
theorem dX12_whole_36 : decode cX12_whole 36 = .ok (.invokevirtual 134, 3) := by decide +kernel
theorem dX12_whole_39 : decode cX12_whole 39 = .ok (.istore_n 2, 1) := by decide +kernel
theorem dX12_whole_40 : decode cX12_whole 40 = .ok (.iload_n 1, 1) := by decide +kernel
theorem dX12_whole_41 : decode cX12_whole 41 = .ok (.ifCond .ne 7, 3) := by decide +kernel
theorem dX12_whole_44 : decode cX12_whole 44 = .ok (.iload_n 2, 1) := by decide +kernel
theorem dX12_whole_45 : decode cX12_whole 45 = .ok (.ifCond .eq 7, 3) := by decide +kernel
theorem dX12_whole_48 : decode cX12_whole 48 = .ok (.iconst 1, 1) := by decide +kernel
theorem dX12_whole_49 : decode cX12_whole 49 = .ok (.goto 4, 3) := by decide +kernel
theorem dX12_whole_52 : decode cX12_whole 52 = .ok (.iconst 0, 1) := by decide +kernel
theorem dX12_whole_53 : decode cX12_whole 53 = .ok (.istore_n 1, 1) := by decide +kernel
theorem dX12_whole_54 : decode cX12_whole 54 = .ok (.goto (-49), 3) := by decide +kernel
theorem dX12_whole_57 : decode cX12_whole 57 = .ok (.iload_n 1, 1) := by decide +kernel
theorem dX12_whole_58 : decode cX12_whole 58 = .ok (.ireturn, 1) := by decide +kernel
theorem dX12_walks_0 : decode cX12_walks 0 = .ok (.aload_n 0, 1) := by decide +kernel
theorem dX12_walks_1 : decode cX12_walks 1 = .ok (.iload_n 1, 1) := by decide +kernel
theorem dX12_walks_2 : decode cX12_walks 2 = .ok (.putfield 81, 3) := by decide +kernel
theorem dX12_walks_5 : decode cX12_walks 5 = .ok (.aload_n 0, 1) := by decide +kernel
theorem dX12_walks_6 : decode cX12_walks 6 = .ok (.iconst 0, 1) := by decide +kernel
theorem dX12_walks_7 : decode cX12_walks 7 = .ok (.putfield 88, 3) := by decide +kernel
theorem dX12_walks_10 : decode cX12_walks 10 = .ok (.aload_n 0, 1) := by decide +kernel
theorem dX12_walks_11 : decode cX12_walks 11 = .ok (.aload_n 0, 1) := by decide +kernel
theorem dX12_walks_12 : decode cX12_walks 12 = .ok (.getfield 7, 3) := by decide +kernel
theorem dX12_walks_15 : decode cX12_walks 15 = .ok (.iconst 5, 1) := by decide +kernel
theorem dX12_walks_16 : decode cX12_walks 16 = .ok (.iload_n 1, 1) := by decide +kernel
theorem dX12_walks_17 : decode cX12_walks 17 = .ok (.iadd, 1) := by decide +kernel
theorem dX12_walks_18 : decode cX12_walks 18 = .ok (.iaload, 1) := by decide +kernel
theorem dX12_walks_19 : decode cX12_walks 19 = .ok (.putfield 77, 3) := by decide +kernel
theorem dX12_walks_22 : decode cX12_walks 22 = .ok (.aload_n 0, 1) := by decide +kernel
theorem dX12_walks_23 : decode cX12_walks 23 = .ok (.iconst 0, 1) := by decide +kernel
theorem dX12_walks_24 : decode cX12_walks 24 = .ok (.putfield 116, 3) := by decide +kernel
theorem dX12_walks_27 : decode cX12_walks 27 = .ok (.aload_n 0, 1) := by decide +kernel
theorem dX12_walks_28 : decode cX12_walks 28 = .ok (.iconst 1, 1) := by decide +kernel
theorem dX12_walks_29 : decode cX12_walks 29 = .ok (.putfield 84, 3) := by decide +kernel
theorem dX12_walks_32 : decode cX12_walks 32 = .ok (.aload_n 0, 1) := by decide +kernel
theorem dX12_walks_33 : decode cX12_walks 33 = .ok (.iload_n 2, 1) := by decide +kernel
theorem dX12_walks_34 : decode cX12_walks 34 = .ok (.putfield 101, 3) := by decide +kernel
theorem dX12_walks_37 : decode cX12_walks 37 = .ok (.aload_n 0, 1) := by decide +kernel
theorem dX12_walks_38 : decode cX12_walks 38 = .ok (.iload_n 3, 1) := by decide +kernel
theorem dX12_walks_39 : decode cX12_walks 39 = .ok (.putfield 104, 3) := by decide +kernel
theorem dX12_walks_42 : decode cX12_walks 42 = .ok (.aload_n 0, 1) := by decide +kernel
theorem dX12_walks_43 : decode cX12_walks 43 = .ok (.iload 4, 2) := by decide +kernel
theorem dX12_walks_45 : decode cX12_walks 45 = .ok (.putfield 107, 3) := by decide +kernel
theorem dX12_walks_48 : decode cX12_walks 48 = .ok (.aload_n 0, 1) := by decide +kernel
theorem dX12_walks_49 : decode cX12_walks 49 = .ok (.invokevirtual 122, 3) := by decide +kernel
theorem dX12_walks_52 : decode cX12_walks 52 = .ok (.istore 5, 2) := by decide +kernel
theorem dX12_walks_54 : decode cX12_walks 54 = .ok (.aload_n 0, 1) := by decide +kernel
theorem dX12_walks_55 : decode cX12_walks 55 = .ok (.aload_n 0, 1) := by decide +kernel
theorem dX12_walks_56 : decode cX12_walks 56 = .ok (.getfield 84, 3) := by decide +kernel
theorem dX12_walks_59 : decode cX12_walks 59 = .ok (.ifCond .eq 18, 3) := by decide +kernel
theorem dX12_walks_62 : decode cX12_walks 62 = .ok (.aload_n 0, 1) := by decide +kernel
theorem dX12_walks_63 : decode cX12_walks 63 = .ok (.getfield 88, 3) := by decide +kernel
theorem dX12_walks_66 : decode cX12_walks 66 = .ok (.aload_n 0, 1) := by decide +kernel
theorem dX12_walks_67 : decode cX12_walks 67 = .ok (.getfield 77, 3) := by decide +kernel
theorem dX12_walks_70 : decode cX12_walks 70 = .ok (.if_icmp .ne 7, 3) := by decide +kernel
theorem dX12_walks_73 : decode cX12_walks 73 = .ok (.iconst 1, 1) := by decide +kernel
theorem dX12_walks_74 : decode cX12_walks 74 = .ok (.goto 4, 3) := by decide +kernel
theorem dX12_walks_77 : decode cX12_walks 77 = .ok (.iconst 0, 1) := by decide +kernel
theorem dX12_walks_78 : decode cX12_walks 78 = .ok (.putfield 84, 3) := by decide +kernel
theorem dX12_walks_81 : decode cX12_walks 81 = .ok (.iload 5, 2) := by decide +kernel
theorem dX12_walks_83 : decode cX12_walks 83 = .ok (.ireturn, 1) := by decide +kernel
theorem dX12_lawOf_0 : decode cX12_lawOf 0 = .ok (.iload_n 1, 1) := by decide +kernel
theorem dX12_lawOf_1 : decode cX12_lawOf 1 = .ok (.ifCond .ne 8, 3) := by decide +kernel
theorem dX12_lawOf_4 : decode cX12_lawOf 4 = .ok (.bipush 99, 2) := by decide +kernel
theorem dX12_lawOf_6 : decode cX12_lawOf 6 = .ok (.goto 4, 3) := by decide +kernel
theorem dX12_lawOf_9 : decode cX12_lawOf 9 = .ok (.iconst 1, 1) := by decide +kernel
theorem dX12_lawOf_10 : decode cX12_lawOf 10 = .ok (.istore 5, 2) := by decide +kernel
theorem dX12_lawOf_12 : decode cX12_lawOf 12 = .ok (.aload_n 0, 1) := by decide +kernel
theorem dX12_lawOf_13 : decode cX12_lawOf 13 = .ok (.getfield 7, 3) := by decide +kernel
theorem dX12_lawOf_16 : decode cX12_lawOf 16 = .ok (.iconst 5, 1) := by decide +kernel
theorem dX12_lawOf_17 : decode cX12_lawOf 17 = .ok (.iload_n 1, 1) := by decide +kernel
theorem dX12_lawOf_18 : decode cX12_lawOf 18 = .ok (.iadd, 1) := by decide +kernel
theorem dX12_lawOf_19 : decode cX12_lawOf 19 = .ok (.iaload, 1) := by decide +kernel
theorem dX12_lawOf_20 : decode cX12_lawOf 20 = .ok (.ifCond .lt 19, 3) := by decide +kernel
theorem dX12_lawOf_23 : decode cX12_lawOf 23 = .ok (.aload_n 0, 1) := by decide +kernel
theorem dX12_lawOf_24 : decode cX12_lawOf 24 = .ok (.iload_n 1, 1) := by decide +kernel
theorem dX12_lawOf_25 : decode cX12_lawOf 25 = .ok (.iload_n 2, 1) := by decide +kernel
theorem dX12_lawOf_26 : decode cX12_lawOf 26 = .ok (.iload_n 3, 1) := by decide +kernel
theorem dX12_lawOf_27 : decode cX12_lawOf 27 = .ok (.iload 4, 2) := by decide +kernel
theorem dX12_lawOf_29 : decode cX12_lawOf 29 = .ok (.invokevirtual 137, 3) := by decide +kernel
theorem dX12_lawOf_32 : decode cX12_lawOf 32 = .ok (.iconst 0, 1) := by decide +kernel
theorem dX12_lawOf_33 : decode cX12_lawOf 33 = .ok (.iload 5, 2) := by decide +kernel
theorem dX12_lawOf_35 : decode cX12_lawOf 35 = .ok (.invokestatic 141, 3) := by decide +kernel
theorem dX12_lawOf_38 : decode cX12_lawOf 38 = .ok (.ireturn, 1) := by decide +kernel
theorem dX12_lawOf_39 : decode cX12_lawOf 39 = .ok (.iload_n 1, 1) := by decide +kernel
theorem dX12_lawOf_40 : decode cX12_lawOf 40 = .ok (.ifCond .ne 7, 3) := by decide +kernel
theorem dX12_lawOf_43 : decode cX12_lawOf 43 = .ok (.iconst 3, 1) := by decide +kernel
theorem dX12_lawOf_44 : decode cX12_lawOf 44 = .ok (.goto 27, 3) := by decide +kernel
theorem dX12_lawOf_47 : decode cX12_lawOf 47 = .ok (.iload_n 2, 1) := by decide +kernel
theorem dX12_lawOf_48 : decode cX12_lawOf 48 = .ok (.ifCond .ne 8, 3) := by decide +kernel
theorem dX12_lawOf_51 : decode cX12_lawOf 51 = .ok (.iload_n 3, 1) := by decide +kernel
theorem dX12_lawOf_52 : decode cX12_lawOf 52 = .ok (.iconst 1, 1) := by decide +kernel
theorem dX12_lawOf_53 : decode cX12_lawOf 53 = .ok (.if_icmp .eq 13, 3) := by decide +kernel
theorem dX12_lawOf_56 : decode cX12_lawOf 56 = .ok (.iload_n 2, 1) := by decide +kernel
theorem dX12_lawOf_57 : decode cX12_lawOf 57 = .ok (.iconst 1, 1) := by decide +kernel
theorem dX12_lawOf_58 : decode cX12_lawOf 58 = .ok (.if_icmp .ne 12, 3) := by decide +kernel
theorem dX12_lawOf_61 : decode cX12_lawOf 61 = .ok (.iload_n 3, 1) := by decide +kernel
theorem dX12_lawOf_62 : decode cX12_lawOf 62 = .ok (.iconst 4, 1) := by decide +kernel
theorem dX12_lawOf_63 : decode cX12_lawOf 63 = .ok (.if_icmp .ne 7, 3) := by decide +kernel
theorem dX12_lawOf_66 : decode cX12_lawOf 66 = .ok (.iconst 1, 1) := by decide +kernel
theorem dX12_lawOf_67 : decode cX12_lawOf 67 = .ok (.goto 4, 3) := by decide +kernel
theorem dX12_lawOf_70 : decode cX12_lawOf 70 = .ok (.iconst 0, 1) := by decide +kernel
theorem dX12_lawOf_71 : decode cX12_lawOf 71 = .ok (.ireturn, 1) := by decide +kernel
theorem dX12_law_0 : decode cX12_law 0 = .ok (.iload_n 1, 1) := by decide +kernel
theorem dX12_law_1 : decode cX12_law 1 = .ok (.iconst 0, 1) := by decide +kernel
theorem dX12_law_2 : decode cX12_law 2 = .ok (.iconst 1, 1) := by decide +kernel
theorem dX12_law_3 : decode cX12_law 3 = .ok (.invokestatic 41, 3) := by decide +kernel
theorem dX12_law_6 : decode cX12_law 6 = .ok (.ifCond .eq 15, 3) := by decide +kernel
theorem dX12_law_9 : decode cX12_law 9 = .ok (.aload_n 0, 1) := by decide +kernel
theorem dX12_law_10 : decode cX12_law 10 = .ok (.iload_n 1, 1) := by decide +kernel
theorem dX12_law_11 : decode cX12_law 11 = .ok (.iload_n 2, 1) := by decide +kernel
theorem dX12_law_12 : decode cX12_law 12 = .ok (.iload_n 3, 1) := by decide +kernel
theorem dX12_law_13 : decode cX12_law 13 = .ok (.iload 4, 2) := by decide +kernel
theorem dX12_law_15 : decode cX12_law 15 = .ok (.invokevirtual 145, 3) := by decide +kernel
theorem dX12_law_18 : decode cX12_law 18 = .ok (.goto 9, 3) := by decide +kernel
theorem dX12_law_21 : decode cX12_law 21 = .ok (.aload_n 0, 1) := by decide +kernel
theorem dX12_law_22 : decode cX12_law 22 = .ok (.ldc 45, 2) := by decide +kernel
theorem dX12_law_24 : decode cX12_law 24 = .ok (.invokevirtual 46, 3) := by decide +kernel
theorem dX12_law_27 : decode cX12_law 27 = .ok (.ireturn, 1) := by decide +kernel
theorem dX12_feed_0 : decode cX12_feed 0 = .ok (.iload_n 3, 1) := by decide +kernel
theorem dX12_feed_1 : decode cX12_feed 1 = .ok (.iconst 1, 1) := by decide +kernel
theorem dX12_feed_2 : decode cX12_feed 2 = .ok (.bipush 8, 2) := by decide +kernel
theorem dX12_feed_4 : decode cX12_feed 4 = .ok (.invokestatic 41, 3) := by decide +kernel
theorem dX12_feed_7 : decode cX12_feed 7 = .ok (.ifCond .ne 10, 3) := by decide +kernel
theorem dX12_feed_10 : decode cX12_feed 10 = .ok (.aload_n 0, 1) := by decide +kernel
theorem dX12_feed_11 : decode cX12_feed 11 = .ok (.ldc 45, 2) := by decide +kernel
theorem dX12_feed_13 : decode cX12_feed 13 = .ok (.invokevirtual 46, 3) := by decide +kernel
theorem dX12_feed_16 : decode cX12_feed 16 = .ok (.ireturn, 1) := by decide +kernel
theorem dX12_feed_17 : decode cX12_feed 17 = .ok (.aload_n 0, 1) := by decide +kernel
theorem dX12_feed_18 : decode cX12_feed 18 = .ok (.getfield 7, 3) := by decide +kernel
theorem dX12_feed_21 : decode cX12_feed 21 = .ok (.iconst 3, 1) := by decide +kernel
theorem dX12_feed_22 : decode cX12_feed 22 = .ok (.iaload, 1) := by decide +kernel
theorem dX12_feed_23 : decode cX12_feed 23 = .ok (.iload_n 3, 1) := by decide +kernel
theorem dX12_feed_24 : decode cX12_feed 24 = .ok (.iadd, 1) := by decide +kernel
theorem dX12_feed_25 : decode cX12_feed 25 = .ok (.bipush 50, 2) := by decide +kernel
theorem dX12_feed_27 : decode cX12_feed 27 = .ok (.if_icmp .le 10, 3) := by decide +kernel
theorem dX12_feed_30 : decode cX12_feed 30 = .ok (.aload_n 0, 1) := by decide +kernel
theorem dX12_feed_31 : decode cX12_feed 31 = .ok (.ldc 50, 2) := by decide +kernel
theorem dX12_feed_33 : decode cX12_feed 33 = .ok (.invokevirtual 46, 3) := by decide +kernel
theorem dX12_feed_36 : decode cX12_feed 36 = .ok (.ireturn, 1) := by decide +kernel
theorem dX12_feed_37 : decode cX12_feed 37 = .ok (.iconst 0, 1) := by decide +kernel
theorem dX12_feed_38 : decode cX12_feed 38 = .ok (.istore 4, 2) := by decide +kernel
theorem dX12_feed_40 : decode cX12_feed 40 = .ok (.iload 4, 2) := by decide +kernel
theorem dX12_feed_42 : decode cX12_feed 42 = .ok (.iload_n 3, 1) := by decide +kernel
theorem dX12_feed_43 : decode cX12_feed 43 = .ok (.if_icmp .ge 45, 3) := by decide +kernel
theorem dX12_feed_46 : decode cX12_feed 46 = .ok (.aload_n 0, 1) := by decide +kernel
theorem dX12_feed_47 : decode cX12_feed 47 = .ok (.getfield 7, 3) := by decide +kernel
theorem dX12_feed_50 : decode cX12_feed 50 = .ok (.bipush 70, 2) := by decide +kernel
theorem dX12_feed_52 : decode cX12_feed 52 = .ok (.aload_n 0, 1) := by decide +kernel
theorem dX12_feed_53 : decode cX12_feed 53 = .ok (.getfield 7, 3) := by decide +kernel
theorem dX12_feed_56 : decode cX12_feed 56 = .ok (.iconst 3, 1) := by decide +kernel
theorem dX12_feed_57 : decode cX12_feed 57 = .ok (.iaload, 1) := by decide +kernel
theorem dX12_feed_58 : decode cX12_feed 58 = .ok (.iadd, 1) := by decide +kernel
theorem dX12_feed_59 : decode cX12_feed 59 = .ok (.lload_n 1, 1) := by decide +kernel
theorem dX12_feed_60 : decode cX12_feed 60 = .ok (.bipush 8, 2) := by decide +kernel
theorem dX12_feed_62 : decode cX12_feed 62 = .ok (.iload 4, 2) := by decide +kernel
theorem dX12_feed_64 : decode cX12_feed 64 = .ok (.imul, 1) := by decide +kernel
theorem dX12_feed_65 : decode cX12_feed 65 = .ok (.lshr, 1) := by decide +kernel
theorem dX12_feed_66 : decode cX12_feed 66 = .ok (.ldc2_w 148, 3) := by decide +kernel
theorem dX12_feed_69 : decode cX12_feed 69 = .ok (.land, 1) := by decide +kernel
theorem dX12_feed_70 : decode cX12_feed 70 = .ok (.l2i, 1) := by decide +kernel
theorem dX12_feed_71 : decode cX12_feed 71 = .ok (.iastore, 1) := by decide +kernel
theorem dX12_feed_72 : decode cX12_feed 72 = .ok (.aload_n 0, 1) := by decide +kernel
theorem dX12_feed_73 : decode cX12_feed 73 = .ok (.getfield 7, 3) := by decide +kernel
theorem dX12_feed_76 : decode cX12_feed 76 = .ok (.iconst 3, 1) := by decide +kernel
theorem dX12_feed_77 : decode cX12_feed 77 = .ok (.dup2, 1) := by decide +kernel
theorem dX12_feed_78 : decode cX12_feed 78 = .ok (.iaload, 1) := by decide +kernel
theorem dX12_feed_79 : decode cX12_feed 79 = .ok (.iconst 1, 1) := by decide +kernel
theorem dX12_feed_80 : decode cX12_feed 80 = .ok (.iadd, 1) := by decide +kernel
theorem dX12_feed_81 : decode cX12_feed 81 = .ok (.iastore, 1) := by decide +kernel
theorem dX12_feed_82 : decode cX12_feed 82 = .ok (.iinc 4 1, 3) := by decide +kernel
theorem dX12_feed_85 : decode cX12_feed 85 = .ok (.goto (-45), 3) := by decide +kernel
theorem dX12_feed_88 : decode cX12_feed 88 = .ok (.aload_n 0, 1) := by decide +kernel
theorem dX12_feed_89 : decode cX12_feed 89 = .ok (.getfield 7, 3) := by decide +kernel
theorem dX12_feed_92 : decode cX12_feed 92 = .ok (.iconst 3, 1) := by decide +kernel
theorem dX12_feed_93 : decode cX12_feed 93 = .ok (.iaload, 1) := by decide +kernel
theorem dX12_feed_94 : decode cX12_feed 94 = .ok (.ireturn, 1) := by decide +kernel
theorem dX12_text_0 : decode cX12_text 0 = .ok (.iload_n 1, 1) := by decide +kernel
theorem dX12_text_1 : decode cX12_text 1 = .ok (.iconst 0, 1) := by decide +kernel
theorem dX12_text_2 : decode cX12_text 2 = .ok (.iconst 1, 1) := by decide +kernel
theorem dX12_text_3 : decode cX12_text 3 = .ok (.invokestatic 41, 3) := by decide +kernel
theorem dX12_text_6 : decode cX12_text 6 = .ok (.ifCond .ne 10, 3) := by decide +kernel
theorem dX12_text_9 : decode cX12_text 9 = .ok (.aload_n 0, 1) := by decide +kernel
theorem dX12_text_10 : decode cX12_text 10 = .ok (.ldc 45, 2) := by decide +kernel
theorem dX12_text_12 : decode cX12_text 12 = .ok (.invokevirtual 46, 3) := by decide +kernel
theorem dX12_text_15 : decode cX12_text 15 = .ok (.ireturn, 1) := by decide +kernel
theorem dX12_text_16 : decode cX12_text 16 = .ok (.aload_n 0, 1) := by decide +kernel
theorem dX12_text_17 : decode cX12_text 17 = .ok (.aload_n 0, 1) := by decide +kernel
theorem dX12_text_18 : decode cX12_text 18 = .ok (.getfield 7, 3) := by decide +kernel
theorem dX12_text_21 : decode cX12_text 21 = .ok (.aload_n 0, 1) := by decide +kernel
theorem dX12_text_22 : decode cX12_text 22 = .ok (.getfield 19, 3) := by decide +kernel
theorem dX12_text_25 : decode cX12_text 25 = .ok (.invokevirtual 150, 3) := by decide +kernel
theorem dX12_text_28 : decode cX12_text 28 = .ok (.iconst 0, 1) := by decide +kernel
theorem dX12_text_29 : decode cX12_text 29 = .ok (.istore_n 2, 1) := by decide +kernel
theorem dX12_text_30 : decode cX12_text 30 = .ok (.iload_n 2, 1) := by decide +kernel
theorem dX12_text_31 : decode cX12_text 31 = .ok (.bipush 50, 2) := by decide +kernel
theorem dX12_text_33 : decode cX12_text 33 = .ok (.if_icmp .ge 33, 3) := by decide +kernel
theorem dX12_text_36 : decode cX12_text 36 = .ok (.aload_n 0, 1) := by decide +kernel
theorem dX12_text_37 : decode cX12_text 37 = .ok (.getfield 7, 3) := by decide +kernel
theorem dX12_text_40 : decode cX12_text 40 = .ok (.sipush 140, 3) := by decide +kernel
theorem dX12_text_43 : decode cX12_text 43 = .ok (.bipush 50, 2) := by decide +kernel
theorem dX12_text_45 : decode cX12_text 45 = .ok (.iload_n 1, 1) := by decide +kernel
theorem dX12_text_46 : decode cX12_text 46 = .ok (.imul, 1) := by decide +kernel
theorem dX12_text_47 : decode cX12_text 47 = .ok (.iadd, 1) := by decide +kernel
theorem dX12_text_48 : decode cX12_text 48 = .ok (.iload_n 2, 1) := by decide +kernel
theorem dX12_text_49 : decode cX12_text 49 = .ok (.iadd, 1) := by decide +kernel
theorem dX12_text_50 : decode cX12_text 50 = .ok (.aload_n 0, 1) := by decide +kernel
theorem dX12_text_51 : decode cX12_text 51 = .ok (.getfield 7, 3) := by decide +kernel
theorem dX12_text_54 : decode cX12_text 54 = .ok (.bipush 70, 2) := by decide +kernel
theorem dX12_text_56 : decode cX12_text 56 = .ok (.iload_n 2, 1) := by decide +kernel
theorem dX12_text_57 : decode cX12_text 57 = .ok (.iadd, 1) := by decide +kernel
theorem dX12_text_58 : decode cX12_text 58 = .ok (.iaload, 1) := by decide +kernel
theorem dX12_text_59 : decode cX12_text 59 = .ok (.iastore, 1) := by decide +kernel
theorem dX12_text_60 : decode cX12_text 60 = .ok (.iinc 2 1, 3) := by decide +kernel
theorem dX12_text_63 : decode cX12_text 63 = .ok (.goto (-33), 3) := by decide +kernel
theorem dX12_text_66 : decode cX12_text 66 = .ok (.aload_n 0, 1) := by decide +kernel
theorem dX12_text_67 : decode cX12_text 67 = .ok (.getfield 7, 3) := by decide +kernel
theorem dX12_text_70 : decode cX12_text 70 = .ok (.iconst 5, 1) := by decide +kernel
theorem dX12_text_71 : decode cX12_text 71 = .ok (.iload_n 1, 1) := by decide +kernel
theorem dX12_text_72 : decode cX12_text 72 = .ok (.iadd, 1) := by decide +kernel
theorem dX12_text_73 : decode cX12_text 73 = .ok (.aload_n 0, 1) := by decide +kernel
theorem dX12_text_74 : decode cX12_text 74 = .ok (.getfield 7, 3) := by decide +kernel
theorem dX12_text_77 : decode cX12_text 77 = .ok (.iconst 3, 1) := by decide +kernel
theorem dX12_text_78 : decode cX12_text 78 = .ok (.iaload, 1) := by decide +kernel
theorem dX12_text_79 : decode cX12_text 79 = .ok (.iastore, 1) := by decide +kernel
theorem dX12_text_80 : decode cX12_text 80 = .ok (.aload_n 0, 1) := by decide +kernel
theorem dX12_text_81 : decode cX12_text 81 = .ok (.iload_n 1, 1) := by decide +kernel
theorem dX12_text_82 : decode cX12_text 82 = .ok (.iconst 1, 1) := by decide +kernel
theorem dX12_text_83 : decode cX12_text 83 = .ok (.iconst 1, 1) := by decide +kernel
theorem dX12_text_84 : decode cX12_text 84 = .ok (.iconst 1, 1) := by decide +kernel
theorem dX12_text_85 : decode cX12_text 85 = .ok (.invokevirtual 137, 3) := by decide +kernel
theorem dX12_text_88 : decode cX12_text 88 = .ok (.istore_n 2, 1) := by decide +kernel
theorem dX12_text_89 : decode cX12_text 89 = .ok (.aload_n 0, 1) := by decide +kernel
theorem dX12_text_90 : decode cX12_text 90 = .ok (.getfield 84, 3) := by decide +kernel
theorem dX12_text_93 : decode cX12_text 93 = .ok (.ifCond .eq 12, 3) := by decide +kernel
theorem dX12_text_96 : decode cX12_text 96 = .ok (.iload_n 2, 1) := by decide +kernel
theorem dX12_text_97 : decode cX12_text 97 = .ok (.iload_n 2, 1) := by decide +kernel
theorem dX12_text_98 : decode cX12_text 98 = .ok (.if_icmp .ne 7, 3) := by decide +kernel
theorem dX12_text_101 : decode cX12_text 101 = .ok (.iconst 1, 1) := by decide +kernel
theorem dX12_text_102 : decode cX12_text 102 = .ok (.goto 4, 3) := by decide +kernel
theorem dX12_text_105 : decode cX12_text 105 = .ok (.iconst 0, 1) := by decide +kernel
theorem dX12_text_106 : decode cX12_text 106 = .ok (.istore_n 3, 1) := by decide +kernel
theorem dX12_text_107 : decode cX12_text 107 = .ok (.aload_n 0, 1) := by decide +kernel
theorem dX12_text_108 : decode cX12_text 108 = .ok (.getfield 88, 3) := by decide +kernel
theorem dX12_text_111 : decode cX12_text 111 = .ok (.istore 4, 2) := by decide +kernel
theorem dX12_text_113 : decode cX12_text 113 = .ok (.iload_n 3, 1) := by decide +kernel
theorem dX12_text_114 : decode cX12_text 114 = .ok (.ifCond .ne 15, 3) := by decide +kernel
theorem dX12_text_117 : decode cX12_text 117 = .ok (.aload_n 0, 1) := by decide +kernel
theorem dX12_text_118 : decode cX12_text 118 = .ok (.aload_n 0, 1) := by decide +kernel
theorem dX12_text_119 : decode cX12_text 119 = .ok (.getfield 19, 3) := by decide +kernel
theorem dX12_text_122 : decode cX12_text 122 = .ok (.aload_n 0, 1) := by decide +kernel
theorem dX12_text_123 : decode cX12_text 123 = .ok (.getfield 7, 3) := by decide +kernel
theorem dX12_text_126 : decode cX12_text 126 = .ok (.invokevirtual 150, 3) := by decide +kernel
theorem dX12_text_129 : decode cX12_text 129 = .ok (.aload_n 0, 1) := by decide +kernel
theorem dX12_text_130 : decode cX12_text 130 = .ok (.getfield 7, 3) := by decide +kernel
theorem dX12_text_133 : decode cX12_text 133 = .ok (.iconst 3, 1) := by decide +kernel
theorem dX12_text_134 : decode cX12_text 134 = .ok (.iconst 0, 1) := by decide +kernel
theorem dX12_text_135 : decode cX12_text 135 = .ok (.iastore, 1) := by decide +kernel
theorem dX12_text_136 : decode cX12_text 136 = .ok (.iload_n 3, 1) := by decide +kernel
theorem dX12_text_137 : decode cX12_text 137 = .ok (.ifCond .eq 7, 3) := by decide +kernel
theorem dX12_text_140 : decode cX12_text 140 = .ok (.iconst 1, 1) := by decide +kernel
theorem dX12_text_141 : decode cX12_text 141 = .ok (.goto 8, 3) := by decide +kernel
theorem dX12_text_144 : decode cX12_text 144 = .ok (.bipush (-10), 2) := by decide +kernel
theorem dX12_text_146 : decode cX12_text 146 = .ok (.iload 4, 2) := by decide +kernel
theorem dX12_text_148 : decode cX12_text 148 = .ok (.isub, 1) := by decide +kernel
theorem dX12_text_149 : decode cX12_text 149 = .ok (.ireturn, 1) := by decide +kernel
theorem dX12_falling_0 : decode cX12_falling 0 = .ok (.aload_n 0, 1) := by decide +kernel
theorem dX12_falling_1 : decode cX12_falling 1 = .ok (.iload_n 1, 1) := by decide +kernel
theorem dX12_falling_2 : decode cX12_falling 2 = .ok (.iconst 1, 1) := by decide +kernel
theorem dX12_falling_3 : decode cX12_falling 3 = .ok (.invokevirtual 59, 3) := by decide +kernel
theorem dX12_falling_6 : decode cX12_falling 6 = .ok (.istore_n 2, 1) := by decide +kernel
theorem dX12_falling_7 : decode cX12_falling 7 = .ok (.aload_n 0, 1) := by decide +kernel
theorem dX12_falling_8 : decode cX12_falling 8 = .ok (.iconst 0, 1) := by decide +kernel
theorem dX12_falling_9 : decode cX12_falling 9 = .ok (.iload_n 1, 1) := by decide +kernel
theorem dX12_falling_10 : decode cX12_falling 10 = .ok (.aload_n 0, 1) := by decide +kernel
theorem dX12_falling_11 : decode cX12_falling 11 = .ok (.getfield 7, 3) := by decide +kernel
theorem dX12_falling_14 : decode cX12_falling 14 = .ok (.iconst 0, 1) := by decide +kernel
theorem dX12_falling_15 : decode cX12_falling 15 = .ok (.iaload, 1) := by decide +kernel
theorem dX12_falling_16 : decode cX12_falling 16 = .ok (.bipush 30, 2) := by decide +kernel
theorem dX12_falling_18 : decode cX12_falling 18 = .ok (.irem, 1) := by decide +kernel
theorem dX12_falling_19 : decode cX12_falling 19 = .ok (.aload_n 0, 1) := by decide +kernel
theorem dX12_falling_20 : decode cX12_falling 20 = .ok (.iload_n 1, 1) := by decide +kernel
theorem dX12_falling_21 : decode cX12_falling 21 = .ok (.iconst 2, 1) := by decide +kernel
theorem dX12_falling_22 : decode cX12_falling 22 = .ok (.invokevirtual 59, 3) := by decide +kernel
theorem dX12_falling_25 : decode cX12_falling 25 = .ok (.invokevirtual 145, 3) := by decide +kernel
theorem dX12_falling_28 : decode cX12_falling 28 = .ok (.istore_n 3, 1) := by decide +kernel
theorem dX12_falling_29 : decode cX12_falling 29 = .ok (.aload_n 0, 1) := by decide +kernel
theorem dX12_falling_30 : decode cX12_falling 30 = .ok (.iload_n 1, 1) := by decide +kernel
theorem dX12_falling_31 : decode cX12_falling 31 = .ok (.iconst 0, 1) := by decide +kernel
theorem dX12_falling_32 : decode cX12_falling 32 = .ok (.invokevirtual 59, 3) := by decide +kernel
theorem dX12_falling_35 : decode cX12_falling 35 = .ok (.tableswitch 123 1 6 #[37, 57, 91, 46, 64, 103], 37) := by decide +kernel
theorem dX12_falling_72 : decode cX12_falling 72 = .ok (.iload_n 3, 1) := by decide +kernel
theorem dX12_falling_73 : decode cX12_falling 73 = .ok (.iload_n 2, 1) := by decide +kernel
theorem dX12_falling_74 : decode cX12_falling 74 = .ok (.iconst 3, 1) := by decide +kernel
theorem dX12_falling_75 : decode cX12_falling 75 = .ok (.irem, 1) := by decide +kernel
theorem dX12_falling_76 : decode cX12_falling 76 = .ok (.isub, 1) := by decide +kernel
theorem dX12_falling_77 : decode cX12_falling 77 = .ok (.istore_n 3, 1) := by decide +kernel
theorem dX12_falling_78 : decode cX12_falling 78 = .ok (.goto 80, 3) := by decide +kernel
theorem dX12_falling_81 : decode cX12_falling 81 = .ok (.iconst 2, 1) := by decide +kernel
theorem dX12_falling_82 : decode cX12_falling 82 = .ok (.iload_n 3, 1) := by decide +kernel
theorem dX12_falling_83 : decode cX12_falling 83 = .ok (.iload_n 2, 1) := by decide +kernel
theorem dX12_falling_84 : decode cX12_falling 84 = .ok (.iconst 3, 1) := by decide +kernel
theorem dX12_falling_85 : decode cX12_falling 85 = .ok (.irem, 1) := by decide +kernel
theorem dX12_falling_86 : decode cX12_falling 86 = .ok (.isub, 1) := by decide +kernel
theorem dX12_falling_87 : decode cX12_falling 87 = .ok (.imul, 1) := by decide +kernel
theorem dX12_falling_88 : decode cX12_falling 88 = .ok (.istore_n 3, 1) := by decide +kernel
theorem dX12_falling_89 : decode cX12_falling 89 = .ok (.goto 69, 3) := by decide +kernel
theorem dX12_falling_92 : decode cX12_falling 92 = .ok (.iload_n 3, 1) := by decide +kernel
theorem dX12_falling_93 : decode cX12_falling 93 = .ok (.iconst 2, 1) := by decide +kernel
theorem dX12_falling_94 : decode cX12_falling 94 = .ok (.idiv, 1) := by decide +kernel
theorem dX12_falling_95 : decode cX12_falling 95 = .ok (.istore_n 3, 1) := by decide +kernel
theorem dX12_falling_96 : decode cX12_falling 96 = .ok (.goto 62, 3) := by decide +kernel
theorem dX12_falling_99 : decode cX12_falling 99 = .ok (.aload_n 0, 1) := by decide +kernel
theorem dX12_falling_100 : decode cX12_falling 100 = .ok (.getfield 7, 3) := by decide +kernel
theorem dX12_falling_103 : decode cX12_falling 103 = .ok (.iconst 0, 1) := by decide +kernel
theorem dX12_falling_104 : decode cX12_falling 104 = .ok (.iaload, 1) := by decide +kernel
theorem dX12_falling_105 : decode cX12_falling 105 = .ok (.bipush 7, 2) := by decide +kernel
theorem dX12_falling_107 : decode cX12_falling 107 = .ok (.irem, 1) := by decide +kernel
theorem dX12_falling_108 : decode cX12_falling 108 = .ok (.ifCond .ne 11, 3) := by decide +kernel
theorem dX12_falling_111 : decode cX12_falling 111 = .ok (.iload_n 3, 1) := by decide +kernel
theorem dX12_falling_112 : decode cX12_falling 112 = .ok (.iconst 2, 1) := by decide +kernel
theorem dX12_falling_113 : decode cX12_falling 113 = .ok (.idiv, 1) := by decide +kernel
theorem dX12_falling_114 : decode cX12_falling 114 = .ok (.iload_n 2, 1) := by decide +kernel
theorem dX12_falling_115 : decode cX12_falling 115 = .ok (.iadd, 1) := by decide +kernel
theorem dX12_falling_116 : decode cX12_falling 116 = .ok (.goto 6, 3) := by decide +kernel
theorem dX12_falling_119 : decode cX12_falling 119 = .ok (.iload_n 3, 1) := by decide +kernel
theorem dX12_falling_120 : decode cX12_falling 120 = .ok (.iconst 2, 1) := by decide +kernel
theorem dX12_falling_121 : decode cX12_falling 121 = .ok (.idiv, 1) := by decide +kernel
theorem dX12_falling_122 : decode cX12_falling 122 = .ok (.istore_n 3, 1) := by decide +kernel
theorem dX12_falling_123 : decode cX12_falling 123 = .ok (.goto 35, 3) := by decide +kernel
theorem dX12_falling_126 : decode cX12_falling 126 = .ok (.iload_n 3, 1) := by decide +kernel
theorem dX12_falling_127 : decode cX12_falling 127 = .ok (.aload_n 0, 1) := by decide +kernel
theorem dX12_falling_128 : decode cX12_falling 128 = .ok (.iload_n 1, 1) := by decide +kernel
theorem dX12_falling_129 : decode cX12_falling 129 = .ok (.iconst 3, 1) := by decide +kernel
theorem dX12_falling_130 : decode cX12_falling 130 = .ok (.invokevirtual 59, 3) := by decide +kernel
theorem dX12_falling_133 : decode cX12_falling 133 = .ok (.iadd, 1) := by decide +kernel
theorem dX12_falling_134 : decode cX12_falling 134 = .ok (.istore_n 3, 1) := by decide +kernel
theorem dX12_falling_135 : decode cX12_falling 135 = .ok (.goto 23, 3) := by decide +kernel
theorem dX12_falling_138 : decode cX12_falling 138 = .ok (.iload_n 3, 1) := by decide +kernel
theorem dX12_falling_139 : decode cX12_falling 139 = .ok (.aload_n 0, 1) := by decide +kernel
theorem dX12_falling_140 : decode cX12_falling 140 = .ok (.iload_n 1, 1) := by decide +kernel
theorem dX12_falling_141 : decode cX12_falling 141 = .ok (.iconst 3, 1) := by decide +kernel
theorem dX12_falling_142 : decode cX12_falling 142 = .ok (.invokevirtual 59, 3) := by decide +kernel
theorem dX12_falling_145 : decode cX12_falling 145 = .ok (.aload_n 0, 1) := by decide +kernel
theorem dX12_falling_146 : decode cX12_falling 146 = .ok (.getfield 7, 3) := by decide +kernel
theorem dX12_falling_149 : decode cX12_falling 149 = .ok (.bipush 7, 2) := by decide +kernel
theorem dX12_falling_151 : decode cX12_falling 151 = .ok (.iaload, 1) := by decide +kernel
theorem dX12_falling_152 : decode cX12_falling 152 = .ok (.iadd, 1) := by decide +kernel
theorem dX12_falling_153 : decode cX12_falling 153 = .ok (.iadd, 1) := by decide +kernel
theorem dX12_falling_154 : decode cX12_falling 154 = .ok (.istore_n 3, 1) := by decide +kernel
theorem dX12_falling_155 : decode cX12_falling 155 = .ok (.goto 3, 3) := by decide +kernel
theorem dX12_falling_158 : decode cX12_falling 158 = .ok (.iload_n 3, 1) := by decide +kernel
theorem dX12_falling_159 : decode cX12_falling 159 = .ok (.ifCond .ge 7, 3) := by decide +kernel
theorem dX12_falling_162 : decode cX12_falling 162 = .ok (.iconst 0, 1) := by decide +kernel
theorem dX12_falling_163 : decode cX12_falling 163 = .ok (.goto 4, 3) := by decide +kernel
theorem dX12_falling_166 : decode cX12_falling 166 = .ok (.iload_n 3, 1) := by decide +kernel
theorem dX12_falling_167 : decode cX12_falling 167 = .ok (.ireturn, 1) := by decide +kernel
theorem dX12_taken_0 : decode cX12_taken 0 = .ok (.aload_n 0, 1) := by decide +kernel
theorem dX12_taken_1 : decode cX12_taken 1 = .ok (.iload_n 1, 1) := by decide +kernel
theorem dX12_taken_2 : decode cX12_taken 2 = .ok (.iconst 2, 1) := by decide +kernel
theorem dX12_taken_3 : decode cX12_taken 3 = .ok (.invokevirtual 59, 3) := by decide +kernel
theorem dX12_taken_6 : decode cX12_taken 6 = .ok (.istore_n 2, 1) := by decide +kernel
theorem dX12_taken_7 : decode cX12_taken 7 = .ok (.iload_n 2, 1) := by decide +kernel
theorem dX12_taken_8 : decode cX12_taken 8 = .ok (.iload_n 2, 1) := by decide +kernel
theorem dX12_taken_9 : decode cX12_taken 9 = .ok (.iconst 2, 1) := by decide +kernel
theorem dX12_taken_10 : decode cX12_taken 10 = .ok (.irem, 1) := by decide +kernel
theorem dX12_taken_11 : decode cX12_taken 11 = .ok (.isub, 1) := by decide +kernel
theorem dX12_taken_12 : decode cX12_taken 12 = .ok (.istore_n 3, 1) := by decide +kernel
theorem dX12_taken_13 : decode cX12_taken 13 = .ok (.aload_n 0, 1) := by decide +kernel
theorem dX12_taken_14 : decode cX12_taken 14 = .ok (.iload_n 1, 1) := by decide +kernel
theorem dX12_taken_15 : decode cX12_taken 15 = .ok (.iconst 0, 1) := by decide +kernel
theorem dX12_taken_16 : decode cX12_taken 16 = .ok (.invokevirtual 59, 3) := by decide +kernel
theorem dX12_taken_19 : decode cX12_taken 19 = .ok (.tableswitch 90 1 6 #[37, 52, 77, 39, 56, 77], 37) := by decide +kernel
theorem dX12_taken_56 : decode cX12_taken 56 = .ok (.iload_n 3, 1) := by decide +kernel
theorem dX12_taken_57 : decode cX12_taken 57 = .ok (.ireturn, 1) := by decide +kernel
theorem dX12_taken_58 : decode cX12_taken 58 = .ok (.iload_n 3, 1) := by decide +kernel
theorem dX12_taken_59 : decode cX12_taken 59 = .ok (.bipush 99, 2) := by decide +kernel
theorem dX12_taken_61 : decode cX12_taken 61 = .ok (.if_icmp .ge 7, 3) := by decide +kernel
theorem dX12_taken_64 : decode cX12_taken 64 = .ok (.iload_n 3, 1) := by decide +kernel
theorem dX12_taken_65 : decode cX12_taken 65 = .ok (.goto 5, 3) := by decide +kernel
theorem dX12_taken_68 : decode cX12_taken 68 = .ok (.bipush 99, 2) := by decide +kernel
theorem dX12_taken_70 : decode cX12_taken 70 = .ok (.ireturn, 1) := by decide +kernel
theorem dX12_taken_71 : decode cX12_taken 71 = .ok (.iload_n 2, 1) := by decide +kernel
theorem dX12_taken_72 : decode cX12_taken 72 = .ok (.iconst 2, 1) := by decide +kernel
theorem dX12_taken_73 : decode cX12_taken 73 = .ok (.idiv, 1) := by decide +kernel
theorem dX12_taken_74 : decode cX12_taken 74 = .ok (.ireturn, 1) := by decide +kernel
theorem dX12_taken_75 : decode cX12_taken 75 = .ok (.iload_n 2, 1) := by decide +kernel
theorem dX12_taken_76 : decode cX12_taken 76 = .ok (.iconst 2, 1) := by decide +kernel
theorem dX12_taken_77 : decode cX12_taken 77 = .ok (.idiv, 1) := by decide +kernel
theorem dX12_taken_78 : decode cX12_taken 78 = .ok (.bipush 10, 2) := by decide +kernel
theorem dX12_taken_80 : decode cX12_taken 80 = .ok (.iadd, 1) := by decide +kernel
theorem dX12_taken_81 : decode cX12_taken 81 = .ok (.iload_n 2, 1) := by decide +kernel
theorem dX12_taken_82 : decode cX12_taken 82 = .ok (.if_icmp .ge 12, 3) := by decide +kernel
theorem dX12_taken_85 : decode cX12_taken 85 = .ok (.iload_n 2, 1) := by decide +kernel
theorem dX12_taken_86 : decode cX12_taken 86 = .ok (.iconst 2, 1) := by decide +kernel
theorem dX12_taken_87 : decode cX12_taken 87 = .ok (.idiv, 1) := by decide +kernel
theorem dX12_taken_88 : decode cX12_taken 88 = .ok (.bipush 10, 2) := by decide +kernel
theorem dX12_taken_90 : decode cX12_taken 90 = .ok (.iadd, 1) := by decide +kernel
theorem dX12_taken_91 : decode cX12_taken 91 = .ok (.goto 4, 3) := by decide +kernel
theorem dX12_taken_94 : decode cX12_taken 94 = .ok (.iload_n 2, 1) := by decide +kernel
theorem dX12_taken_95 : decode cX12_taken 95 = .ok (.ireturn, 1) := by decide +kernel
theorem dX12_taken_96 : decode cX12_taken 96 = .ok (.iload_n 2, 1) := by decide +kernel
theorem dX12_taken_97 : decode cX12_taken 97 = .ok (.bipush 50, 2) := by decide +kernel
theorem dX12_taken_99 : decode cX12_taken 99 = .ok (.if_icmp .ge 7, 3) := by decide +kernel
theorem dX12_taken_102 : decode cX12_taken 102 = .ok (.iload_n 2, 1) := by decide +kernel
theorem dX12_taken_103 : decode cX12_taken 103 = .ok (.goto 5, 3) := by decide +kernel
theorem dX12_taken_106 : decode cX12_taken 106 = .ok (.bipush 50, 2) := by decide +kernel
theorem dX12_taken_108 : decode cX12_taken 108 = .ok (.ireturn, 1) := by decide +kernel
theorem dX12_taken_109 : decode cX12_taken 109 = .ok (.iload_n 2, 1) := by decide +kernel
theorem dX12_taken_110 : decode cX12_taken 110 = .ok (.ireturn, 1) := by decide +kernel
theorem dX12_isSigned_0 : decode cX12_isSigned 0 = .ok (.aload_n 0, 1) := by decide +kernel
theorem dX12_isSigned_1 : decode cX12_isSigned 1 = .ok (.getfield 154, 3) := by decide +kernel
theorem dX12_isSigned_4 : decode cX12_isSigned 4 = .ok (.ifCond .le 20, 3) := by decide +kernel
theorem dX12_isSigned_7 : decode cX12_isSigned 7 = .ok (.iload_n 2, 1) := by decide +kernel
theorem dX12_isSigned_8 : decode cX12_isSigned 8 = .ok (.aload_n 0, 1) := by decide +kernel
theorem dX12_isSigned_9 : decode cX12_isSigned 9 = .ok (.getfield 154, 3) := by decide +kernel
theorem dX12_isSigned_12 : decode cX12_isSigned 12 = .ok (.irem, 1) := by decide +kernel
theorem dX12_isSigned_13 : decode cX12_isSigned 13 = .ok (.ifCond .ne 7, 3) := by decide +kernel
theorem dX12_isSigned_16 : decode cX12_isSigned 16 = .ok (.iconst 1, 1) := by decide +kernel
theorem dX12_isSigned_17 : decode cX12_isSigned 17 = .ok (.goto 29, 3) := by decide +kernel
theorem dX12_isSigned_20 : decode cX12_isSigned 20 = .ok (.iconst 0, 1) := by decide +kernel
theorem dX12_isSigned_21 : decode cX12_isSigned 21 = .ok (.goto 25, 3) := by decide +kernel
theorem dX12_isSigned_24 : decode cX12_isSigned 24 = .ok (.aload_n 0, 1) := by decide +kernel
theorem dX12_isSigned_25 : decode cX12_isSigned 25 = .ok (.iconst 1, 1) := by decide +kernel
theorem dX12_isSigned_26 : decode cX12_isSigned 26 = .ok (.iload_n 1, 1) := by decide +kernel
theorem dX12_isSigned_27 : decode cX12_isSigned 27 = .ok (.iload_n 2, 1) := by decide +kernel
theorem dX12_isSigned_28 : decode cX12_isSigned 28 = .ok (.bipush 7, 2) := by decide +kernel
theorem dX12_isSigned_30 : decode cX12_isSigned 30 = .ok (.irem, 1) := by decide +kernel
theorem dX12_isSigned_31 : decode cX12_isSigned 31 = .ok (.iload_n 2, 1) := by decide +kernel
theorem dX12_isSigned_32 : decode cX12_isSigned 32 = .ok (.bipush 30, 2) := by decide +kernel
theorem dX12_isSigned_34 : decode cX12_isSigned 34 = .ok (.irem, 1) := by decide +kernel
theorem dX12_isSigned_35 : decode cX12_isSigned 35 = .ok (.invokevirtual 145, 3) := by decide +kernel
theorem dX12_isSigned_38 : decode cX12_isSigned 38 = .ok (.ifCond .eq 7, 3) := by decide +kernel
theorem dX12_isSigned_41 : decode cX12_isSigned 41 = .ok (.iconst 1, 1) := by decide +kernel
theorem dX12_isSigned_42 : decode cX12_isSigned 42 = .ok (.goto 4, 3) := by decide +kernel
theorem dX12_isSigned_45 : decode cX12_isSigned 45 = .ok (.iconst 0, 1) := by decide +kernel
theorem dX12_isSigned_46 : decode cX12_isSigned 46 = .ok (.ireturn, 1) := by decide +kernel
theorem dX12_sign_0 : decode cX12_sign 0 = .ok (.iload_n 1, 1) := by decide +kernel
theorem dX12_sign_1 : decode cX12_sign 1 = .ok (.iconst 0, 1) := by decide +kernel
theorem dX12_sign_2 : decode cX12_sign 2 = .ok (.iconst 1, 1) := by decide +kernel
theorem dX12_sign_3 : decode cX12_sign 3 = .ok (.invokestatic 41, 3) := by decide +kernel
theorem dX12_sign_6 : decode cX12_sign 6 = .ok (.ifCond .eq 13, 3) := by decide +kernel
theorem dX12_sign_9 : decode cX12_sign 9 = .ok (.iload_n 2, 1) := by decide +kernel
theorem dX12_sign_10 : decode cX12_sign 10 = .ok (.iconst 0, 1) := by decide +kernel
theorem dX12_sign_11 : decode cX12_sign 11 = .ok (.bipush 99, 2) := by decide +kernel
theorem dX12_sign_13 : decode cX12_sign 13 = .ok (.invokestatic 41, 3) := by decide +kernel
theorem dX12_sign_16 : decode cX12_sign 16 = .ok (.ifCond .ne 10, 3) := by decide +kernel
theorem dX12_sign_19 : decode cX12_sign 19 = .ok (.aload_n 0, 1) := by decide +kernel
theorem dX12_sign_20 : decode cX12_sign 20 = .ok (.ldc 45, 2) := by decide +kernel
theorem dX12_sign_22 : decode cX12_sign 22 = .ok (.invokevirtual 46, 3) := by decide +kernel
theorem dX12_sign_25 : decode cX12_sign 25 = .ok (.ireturn, 1) := by decide +kernel
theorem dX12_sign_26 : decode cX12_sign 26 = .ok (.aload_n 0, 1) := by decide +kernel
theorem dX12_sign_27 : decode cX12_sign 27 = .ok (.iload_n 1, 1) := by decide +kernel
theorem dX12_sign_28 : decode cX12_sign 28 = .ok (.aload_n 0, 1) := by decide +kernel
theorem dX12_sign_29 : decode cX12_sign 29 = .ok (.getfield 7, 3) := by decide +kernel
theorem dX12_sign_32 : decode cX12_sign 32 = .ok (.iconst 0, 1) := by decide +kernel
theorem dX12_sign_33 : decode cX12_sign 33 = .ok (.iaload, 1) := by decide +kernel
theorem dX12_sign_34 : decode cX12_sign 34 = .ok (.iload_n 2, 1) := by decide +kernel
theorem dX12_sign_35 : decode cX12_sign 35 = .ok (.iadd, 1) := by decide +kernel
theorem dX12_sign_36 : decode cX12_sign 36 = .ok (.invokevirtual 157, 3) := by decide +kernel
theorem dX12_sign_39 : decode cX12_sign 39 = .ok (.ifCond .eq 7, 3) := by decide +kernel
theorem dX12_sign_42 : decode cX12_sign 42 = .ok (.iconst 1, 1) := by decide +kernel
theorem dX12_sign_43 : decode cX12_sign 43 = .ok (.goto 4, 3) := by decide +kernel
theorem dX12_sign_46 : decode cX12_sign 46 = .ok (.iconst 0, 1) := by decide +kernel
theorem dX12_sign_47 : decode cX12_sign 47 = .ok (.ireturn, 1) := by decide +kernel
theorem dX12_placesOn_0 : decode cX12_placesOn 0 = .ok (.iconst 0, 1) := by decide +kernel
theorem dX12_placesOn_1 : decode cX12_placesOn 1 = .ok (.istore_n 2, 1) := by decide +kernel
theorem dX12_placesOn_2 : decode cX12_placesOn 2 = .ok (.iload_n 1, 1) := by decide +kernel
theorem dX12_placesOn_3 : decode cX12_placesOn 3 = .ok (.istore_n 3, 1) := by decide +kernel
theorem dX12_placesOn_4 : decode cX12_placesOn 4 = .ok (.iload_n 3, 1) := by decide +kernel
theorem dX12_placesOn_5 : decode cX12_placesOn 5 = .ok (.aload_n 0, 1) := by decide +kernel
theorem dX12_placesOn_6 : decode cX12_placesOn 6 = .ok (.getfield 7, 3) := by decide +kernel
theorem dX12_placesOn_9 : decode cX12_placesOn 9 = .ok (.iconst 2, 1) := by decide +kernel
theorem dX12_placesOn_10 : decode cX12_placesOn 10 = .ok (.iaload, 1) := by decide +kernel
theorem dX12_placesOn_11 : decode cX12_placesOn 11 = .ok (.if_icmp .ge 20, 3) := by decide +kernel
theorem dX12_placesOn_14 : decode cX12_placesOn 14 = .ok (.iload_n 2, 1) := by decide +kernel
theorem dX12_placesOn_15 : decode cX12_placesOn 15 = .ok (.iconst 1, 1) := by decide +kernel
theorem dX12_placesOn_16 : decode cX12_placesOn 16 = .ok (.aload_n 0, 1) := by decide +kernel
theorem dX12_placesOn_17 : decode cX12_placesOn 17 = .ok (.iload_n 3, 1) := by decide +kernel
theorem dX12_placesOn_18 : decode cX12_placesOn 18 = .ok (.iconst 3, 1) := by decide +kernel
theorem dX12_placesOn_19 : decode cX12_placesOn 19 = .ok (.invokevirtual 59, 3) := by decide +kernel
theorem dX12_placesOn_22 : decode cX12_placesOn 22 = .ok (.isub, 1) := by decide +kernel
theorem dX12_placesOn_23 : decode cX12_placesOn 23 = .ok (.iadd, 1) := by decide +kernel
theorem dX12_placesOn_24 : decode cX12_placesOn 24 = .ok (.istore_n 2, 1) := by decide +kernel
theorem dX12_placesOn_25 : decode cX12_placesOn 25 = .ok (.iinc 3 2, 3) := by decide +kernel
theorem dX12_placesOn_28 : decode cX12_placesOn 28 = .ok (.goto (-24), 3) := by decide +kernel
theorem dX12_placesOn_31 : decode cX12_placesOn 31 = .ok (.iload_n 2, 1) := by decide +kernel
theorem dX12_placesOn_32 : decode cX12_placesOn 32 = .ok (.ireturn, 1) := by decide +kernel
theorem dX12_stayers_0 : decode cX12_stayers 0 = .ok (.iload_n 2, 1) := by decide +kernel
theorem dX12_stayers_1 : decode cX12_stayers 1 = .ok (.istore_n 3, 1) := by decide +kernel
theorem dX12_stayers_2 : decode cX12_stayers 2 = .ok (.iconst 0, 1) := by decide +kernel
theorem dX12_stayers_3 : decode cX12_stayers 3 = .ok (.istore 4, 2) := by decide +kernel
theorem dX12_stayers_5 : decode cX12_stayers 5 = .ok (.iload_n 1, 1) := by decide +kernel
theorem dX12_stayers_6 : decode cX12_stayers 6 = .ok (.istore 5, 2) := by decide +kernel
theorem dX12_stayers_8 : decode cX12_stayers 8 = .ok (.iload 5, 2) := by decide +kernel
theorem dX12_stayers_10 : decode cX12_stayers 10 = .ok (.aload_n 0, 1) := by decide +kernel
theorem dX12_stayers_11 : decode cX12_stayers 11 = .ok (.getfield 7, 3) := by decide +kernel
theorem dX12_stayers_14 : decode cX12_stayers 14 = .ok (.iconst 2, 1) := by decide +kernel
theorem dX12_stayers_15 : decode cX12_stayers 15 = .ok (.iaload, 1) := by decide +kernel
theorem dX12_stayers_16 : decode cX12_stayers 16 = .ok (.if_icmp .ge 90, 3) := by decide +kernel
theorem dX12_stayers_19 : decode cX12_stayers 19 = .ok (.aload_n 0, 1) := by decide +kernel
theorem dX12_stayers_20 : decode cX12_stayers 20 = .ok (.iload 5, 2) := by decide +kernel
theorem dX12_stayers_22 : decode cX12_stayers 22 = .ok (.iconst 3, 1) := by decide +kernel
theorem dX12_stayers_23 : decode cX12_stayers 23 = .ok (.invokevirtual 59, 3) := by decide +kernel
theorem dX12_stayers_26 : decode cX12_stayers 26 = .ok (.iconst 1, 1) := by decide +kernel
theorem dX12_stayers_27 : decode cX12_stayers 27 = .ok (.if_icmp .ne 28, 3) := by decide +kernel
theorem dX12_stayers_30 : decode cX12_stayers 30 = .ok (.aload_n 0, 1) := by decide +kernel
theorem dX12_stayers_31 : decode cX12_stayers 31 = .ok (.iload 5, 2) := by decide +kernel
theorem dX12_stayers_33 : decode cX12_stayers 33 = .ok (.iconst 4, 1) := by decide +kernel
theorem dX12_stayers_34 : decode cX12_stayers 34 = .ok (.invokevirtual 59, 3) := by decide +kernel
theorem dX12_stayers_37 : decode cX12_stayers 37 = .ok (.aload_n 0, 1) := by decide +kernel
theorem dX12_stayers_38 : decode cX12_stayers 38 = .ok (.getfield 7, 3) := by decide +kernel
theorem dX12_stayers_41 : decode cX12_stayers 41 = .ok (.bipush 8, 2) := by decide +kernel
theorem dX12_stayers_43 : decode cX12_stayers 43 = .ok (.iaload, 1) := by decide +kernel
theorem dX12_stayers_44 : decode cX12_stayers 44 = .ok (.if_icmp .ge 11, 3) := by decide +kernel
theorem dX12_stayers_47 : decode cX12_stayers 47 = .ok (.iload_n 3, 1) := by decide +kernel
theorem dX12_stayers_48 : decode cX12_stayers 48 = .ok (.ifCond .le 7, 3) := by decide +kernel
theorem dX12_stayers_51 : decode cX12_stayers 51 = .ok (.iconst 1, 1) := by decide +kernel
theorem dX12_stayers_52 : decode cX12_stayers 52 = .ok (.goto 4, 3) := by decide +kernel
theorem dX12_stayers_55 : decode cX12_stayers 55 = .ok (.iconst 0, 1) := by decide +kernel
theorem dX12_stayers_56 : decode cX12_stayers 56 = .ok (.istore 6, 2) := by decide +kernel
theorem dX12_stayers_58 : decode cX12_stayers 58 = .ok (.iload_n 3, 1) := by decide +kernel
theorem dX12_stayers_59 : decode cX12_stayers 59 = .ok (.iload 6, 2) := by decide +kernel
theorem dX12_stayers_61 : decode cX12_stayers 61 = .ok (.ifCond .eq 7, 3) := by decide +kernel
theorem dX12_stayers_64 : decode cX12_stayers 64 = .ok (.iconst 1, 1) := by decide +kernel
theorem dX12_stayers_65 : decode cX12_stayers 65 = .ok (.goto 4, 3) := by decide +kernel
theorem dX12_stayers_68 : decode cX12_stayers 68 = .ok (.iconst 0, 1) := by decide +kernel
theorem dX12_stayers_69 : decode cX12_stayers 69 = .ok (.isub, 1) := by decide +kernel
theorem dX12_stayers_70 : decode cX12_stayers 70 = .ok (.istore_n 3, 1) := by decide +kernel
theorem dX12_stayers_71 : decode cX12_stayers 71 = .ok (.iload 4, 2) := by decide +kernel
theorem dX12_stayers_73 : decode cX12_stayers 73 = .ok (.aload_n 0, 1) := by decide +kernel
theorem dX12_stayers_74 : decode cX12_stayers 74 = .ok (.iload 5, 2) := by decide +kernel
theorem dX12_stayers_76 : decode cX12_stayers 76 = .ok (.iconst 3, 1) := by decide +kernel
theorem dX12_stayers_77 : decode cX12_stayers 77 = .ok (.invokevirtual 59, 3) := by decide +kernel
theorem dX12_stayers_80 : decode cX12_stayers 80 = .ok (.iconst 1, 1) := by decide +kernel
theorem dX12_stayers_81 : decode cX12_stayers 81 = .ok (.if_icmp .ne 15, 3) := by decide +kernel
theorem dX12_stayers_84 : decode cX12_stayers 84 = .ok (.iload 6, 2) := by decide +kernel
theorem dX12_stayers_86 : decode cX12_stayers 86 = .ok (.ifCond .ne 10, 3) := by decide +kernel
theorem dX12_stayers_89 : decode cX12_stayers 89 = .ok (.iconst 1, 1) := by decide +kernel
theorem dX12_stayers_90 : decode cX12_stayers 90 = .ok (.iload 5, 2) := by decide +kernel
theorem dX12_stayers_92 : decode cX12_stayers 92 = .ok (.ishl, 1) := by decide +kernel
theorem dX12_stayers_93 : decode cX12_stayers 93 = .ok (.goto 4, 3) := by decide +kernel
theorem dX12_stayers_96 : decode cX12_stayers 96 = .ok (.iconst 0, 1) := by decide +kernel
theorem dX12_stayers_97 : decode cX12_stayers 97 = .ok (.ior, 1) := by decide +kernel
theorem dX12_stayers_98 : decode cX12_stayers 98 = .ok (.istore 4, 2) := by decide +kernel
theorem dX12_stayers_100 : decode cX12_stayers 100 = .ok (.iinc 5 2, 3) := by decide +kernel
theorem dX12_stayers_103 : decode cX12_stayers 103 = .ok (.goto (-95), 3) := by decide +kernel
theorem dX12_stayers_106 : decode cX12_stayers 106 = .ok (.iload 4, 2) := by decide +kernel
theorem dX12_stayers_108 : decode cX12_stayers 108 = .ok (.ireturn, 1) := by decide +kernel
theorem dX12_sweepsSide_0 : decode cX12_sweepsSide 0 = .ok (.aload_n 0, 1) := by decide +kernel
theorem dX12_sweepsSide_1 : decode cX12_sweepsSide 1 = .ok (.iload_n 1, 1) := by decide +kernel
theorem dX12_sweepsSide_2 : decode cX12_sweepsSide 2 = .ok (.iload_n 2, 1) := by decide +kernel
theorem dX12_sweepsSide_3 : decode cX12_sweepsSide 3 = .ok (.invokevirtual 161, 3) := by decide +kernel
theorem dX12_sweepsSide_6 : decode cX12_sweepsSide 6 = .ok (.istore_n 3, 1) := by decide +kernel
theorem dX12_sweepsSide_7 : decode cX12_sweepsSide 7 = .ok (.iload_n 1, 1) := by decide +kernel
theorem dX12_sweepsSide_8 : decode cX12_sweepsSide 8 = .ok (.istore 4, 2) := by decide +kernel
theorem dX12_sweepsSide_10 : decode cX12_sweepsSide 10 = .ok (.iload 4, 2) := by decide +kernel
theorem dX12_sweepsSide_12 : decode cX12_sweepsSide 12 = .ok (.aload_n 0, 1) := by decide +kernel
theorem dX12_sweepsSide_13 : decode cX12_sweepsSide 13 = .ok (.getfield 7, 3) := by decide +kernel
theorem dX12_sweepsSide_16 : decode cX12_sweepsSide 16 = .ok (.iconst 2, 1) := by decide +kernel
theorem dX12_sweepsSide_17 : decode cX12_sweepsSide 17 = .ok (.iaload, 1) := by decide +kernel
theorem dX12_sweepsSide_18 : decode cX12_sweepsSide 18 = .ok (.if_icmp .ge 71, 3) := by decide +kernel
theorem dX12_sweepsSide_21 : decode cX12_sweepsSide 21 = .ok (.iload_n 3, 1) := by decide +kernel
theorem dX12_sweepsSide_22 : decode cX12_sweepsSide 22 = .ok (.iload 4, 2) := by decide +kernel
theorem dX12_sweepsSide_24 : decode cX12_sweepsSide 24 = .ok (.ishr, 1) := by decide +kernel
theorem dX12_sweepsSide_25 : decode cX12_sweepsSide 25 = .ok (.iconst 1, 1) := by decide +kernel
theorem dX12_sweepsSide_26 : decode cX12_sweepsSide 26 = .ok (.iand, 1) := by decide +kernel
theorem dX12_sweepsSide_27 : decode cX12_sweepsSide 27 = .ok (.iconst 1, 1) := by decide +kernel
theorem dX12_sweepsSide_28 : decode cX12_sweepsSide 28 = .ok (.if_icmp .ne 34, 3) := by decide +kernel
theorem dX12_sweepsSide_31 : decode cX12_sweepsSide 31 = .ok (.aload_n 0, 1) := by decide +kernel
theorem dX12_sweepsSide_32 : decode cX12_sweepsSide 32 = .ok (.getfield 7, 3) := by decide +kernel
theorem dX12_sweepsSide_35 : decode cX12_sweepsSide 35 = .ok (.bipush 9, 2) := by decide +kernel
theorem dX12_sweepsSide_37 : decode cX12_sweepsSide 37 = .ok (.aload_n 0, 1) := by decide +kernel
theorem dX12_sweepsSide_38 : decode cX12_sweepsSide 38 = .ok (.getfield 7, 3) := by decide +kernel
theorem dX12_sweepsSide_41 : decode cX12_sweepsSide 41 = .ok (.bipush 9, 2) := by decide +kernel
theorem dX12_sweepsSide_43 : decode cX12_sweepsSide 43 = .ok (.iaload, 1) := by decide +kernel
theorem dX12_sweepsSide_44 : decode cX12_sweepsSide 44 = .ok (.aload_n 0, 1) := by decide +kernel
theorem dX12_sweepsSide_45 : decode cX12_sweepsSide 45 = .ok (.getfield 7, 3) := by decide +kernel
theorem dX12_sweepsSide_48 : decode cX12_sweepsSide 48 = .ok (.bipush 8, 2) := by decide +kernel
theorem dX12_sweepsSide_50 : decode cX12_sweepsSide 50 = .ok (.iaload, 1) := by decide +kernel
theorem dX12_sweepsSide_51 : decode cX12_sweepsSide 51 = .ok (.iadd, 1) := by decide +kernel
theorem dX12_sweepsSide_52 : decode cX12_sweepsSide 52 = .ok (.iconst 0, 1) := by decide +kernel
theorem dX12_sweepsSide_53 : decode cX12_sweepsSide 53 = .ok (.ldc 72, 2) := by decide +kernel
theorem dX12_sweepsSide_55 : decode cX12_sweepsSide 55 = .ok (.invokestatic 141, 3) := by decide +kernel
theorem dX12_sweepsSide_58 : decode cX12_sweepsSide 58 = .ok (.iastore, 1) := by decide +kernel
theorem dX12_sweepsSide_59 : decode cX12_sweepsSide 59 = .ok (.goto 24, 3) := by decide +kernel
theorem dX12_sweepsSide_62 : decode cX12_sweepsSide 62 = .ok (.aload_n 0, 1) := by decide +kernel
theorem dX12_sweepsSide_63 : decode cX12_sweepsSide 63 = .ok (.iload 4, 2) := by decide +kernel
theorem dX12_sweepsSide_65 : decode cX12_sweepsSide 65 = .ok (.iconst 2, 1) := by decide +kernel
theorem dX12_sweepsSide_66 : decode cX12_sweepsSide 66 = .ok (.aload_n 0, 1) := by decide +kernel
theorem dX12_sweepsSide_67 : decode cX12_sweepsSide 67 = .ok (.iload 4, 2) := by decide +kernel
theorem dX12_sweepsSide_69 : decode cX12_sweepsSide 69 = .ok (.iconst 2, 1) := by decide +kernel
theorem dX12_sweepsSide_70 : decode cX12_sweepsSide 70 = .ok (.invokevirtual 59, 3) := by decide +kernel
theorem dX12_sweepsSide_73 : decode cX12_sweepsSide 73 = .ok (.aload_n 0, 1) := by decide +kernel
theorem dX12_sweepsSide_74 : decode cX12_sweepsSide 74 = .ok (.iload 4, 2) := by decide +kernel
theorem dX12_sweepsSide_76 : decode cX12_sweepsSide 76 = .ok (.invokevirtual 66, 3) := by decide +kernel
theorem dX12_sweepsSide_79 : decode cX12_sweepsSide 79 = .ok (.isub, 1) := by decide +kernel
theorem dX12_sweepsSide_80 : decode cX12_sweepsSide 80 = .ok (.invokevirtual 51, 3) := by decide +kernel
theorem dX12_sweepsSide_83 : decode cX12_sweepsSide 83 = .ok (.iinc 4 2, 3) := by decide +kernel
theorem dX12_sweepsSide_86 : decode cX12_sweepsSide 86 = .ok (.goto (-76), 3) := by decide +kernel
theorem dX12_sweepsSide_89 : decode cX12_sweepsSide 89 = .ok (.return_, 1) := by decide +kernel
theorem dX12_oneDay_0 : decode cX12_oneDay 0 = .ok (.iconst 0, 1) := by decide +kernel
theorem dX12_oneDay_1 : decode cX12_oneDay 1 = .ok (.istore_n 1, 1) := by decide +kernel
theorem dX12_oneDay_2 : decode cX12_oneDay 2 = .ok (.iload_n 1, 1) := by decide +kernel
theorem dX12_oneDay_3 : decode cX12_oneDay 3 = .ok (.aload_n 0, 1) := by decide +kernel
theorem dX12_oneDay_4 : decode cX12_oneDay 4 = .ok (.getfield 7, 3) := by decide +kernel
theorem dX12_oneDay_7 : decode cX12_oneDay 7 = .ok (.iconst 2, 1) := by decide +kernel
theorem dX12_oneDay_8 : decode cX12_oneDay 8 = .ok (.iaload, 1) := by decide +kernel
theorem dX12_oneDay_9 : decode cX12_oneDay 9 = .ok (.if_icmp .ge 34, 3) := by decide +kernel
theorem dX12_oneDay_12 : decode cX12_oneDay 12 = .ok (.aload_n 0, 1) := by decide +kernel
theorem dX12_oneDay_13 : decode cX12_oneDay 13 = .ok (.iload_n 1, 1) := by decide +kernel
theorem dX12_oneDay_14 : decode cX12_oneDay 14 = .ok (.iconst 2, 1) := by decide +kernel
theorem dX12_oneDay_15 : decode cX12_oneDay 15 = .ok (.aload_n 0, 1) := by decide +kernel
theorem dX12_oneDay_16 : decode cX12_oneDay 16 = .ok (.iload_n 1, 1) := by decide +kernel
theorem dX12_oneDay_17 : decode cX12_oneDay 17 = .ok (.iconst 2, 1) := by decide +kernel
theorem dX12_oneDay_18 : decode cX12_oneDay 18 = .ok (.invokevirtual 59, 3) := by decide +kernel
theorem dX12_oneDay_21 : decode cX12_oneDay 21 = .ok (.aload_n 0, 1) := by decide +kernel
theorem dX12_oneDay_22 : decode cX12_oneDay 22 = .ok (.iload_n 1, 1) := by decide +kernel
theorem dX12_oneDay_23 : decode cX12_oneDay 23 = .ok (.invokevirtual 63, 3) := by decide +kernel
theorem dX12_oneDay_26 : decode cX12_oneDay 26 = .ok (.iadd, 1) := by decide +kernel
theorem dX12_oneDay_27 : decode cX12_oneDay 27 = .ok (.iconst 0, 1) := by decide +kernel
theorem dX12_oneDay_28 : decode cX12_oneDay 28 = .ok (.sipush 999, 3) := by decide +kernel
theorem dX12_oneDay_31 : decode cX12_oneDay 31 = .ok (.invokestatic 141, 3) := by decide +kernel
theorem dX12_oneDay_34 : decode cX12_oneDay 34 = .ok (.invokevirtual 51, 3) := by decide +kernel
theorem dX12_oneDay_37 : decode cX12_oneDay 37 = .ok (.iinc 1 1, 3) := by decide +kernel
theorem dX12_oneDay_40 : decode cX12_oneDay 40 = .ok (.goto (-38), 3) := by decide +kernel
theorem dX12_oneDay_43 : decode cX12_oneDay 43 = .ok (.iconst 1, 1) := by decide +kernel
theorem dX12_oneDay_44 : decode cX12_oneDay 44 = .ok (.istore_n 1, 1) := by decide +kernel
theorem dX12_oneDay_45 : decode cX12_oneDay 45 = .ok (.iload_n 1, 1) := by decide +kernel
theorem dX12_oneDay_46 : decode cX12_oneDay 46 = .ok (.aload_n 0, 1) := by decide +kernel
theorem dX12_oneDay_47 : decode cX12_oneDay 47 = .ok (.getfield 7, 3) := by decide +kernel
theorem dX12_oneDay_50 : decode cX12_oneDay 50 = .ok (.iconst 2, 1) := by decide +kernel
theorem dX12_oneDay_51 : decode cX12_oneDay 51 = .ok (.iaload, 1) := by decide +kernel
theorem dX12_oneDay_52 : decode cX12_oneDay 52 = .ok (.if_icmp .ge 66, 3) := by decide +kernel
theorem dX12_oneDay_55 : decode cX12_oneDay 55 = .ok (.aload_n 0, 1) := by decide +kernel
theorem dX12_oneDay_56 : decode cX12_oneDay 56 = .ok (.iload_n 1, 1) := by decide +kernel
theorem dX12_oneDay_57 : decode cX12_oneDay 57 = .ok (.iconst 2, 1) := by decide +kernel
theorem dX12_oneDay_58 : decode cX12_oneDay 58 = .ok (.invokevirtual 59, 3) := by decide +kernel
theorem dX12_oneDay_61 : decode cX12_oneDay 61 = .ok (.aload_n 0, 1) := by decide +kernel
theorem dX12_oneDay_62 : decode cX12_oneDay 62 = .ok (.getfield 7, 3) := by decide +kernel
theorem dX12_oneDay_65 : decode cX12_oneDay 65 = .ok (.bipush 7, 2) := by decide +kernel
theorem dX12_oneDay_67 : decode cX12_oneDay 67 = .ok (.iaload, 1) := by decide +kernel
theorem dX12_oneDay_68 : decode cX12_oneDay 68 = .ok (.imul, 1) := by decide +kernel
theorem dX12_oneDay_69 : decode cX12_oneDay 69 = .ok (.bipush 20, 2) := by decide +kernel
theorem dX12_oneDay_71 : decode cX12_oneDay 71 = .ok (.idiv, 1) := by decide +kernel
theorem dX12_oneDay_72 : decode cX12_oneDay 72 = .ok (.istore_n 2, 1) := by decide +kernel
theorem dX12_oneDay_73 : decode cX12_oneDay 73 = .ok (.aload_n 0, 1) := by decide +kernel
theorem dX12_oneDay_74 : decode cX12_oneDay 74 = .ok (.iload_n 1, 1) := by decide +kernel
theorem dX12_oneDay_75 : decode cX12_oneDay 75 = .ok (.iconst 2, 1) := by decide +kernel
theorem dX12_oneDay_76 : decode cX12_oneDay 76 = .ok (.aload_n 0, 1) := by decide +kernel
theorem dX12_oneDay_77 : decode cX12_oneDay 77 = .ok (.iload_n 1, 1) := by decide +kernel
theorem dX12_oneDay_78 : decode cX12_oneDay 78 = .ok (.iconst 2, 1) := by decide +kernel
theorem dX12_oneDay_79 : decode cX12_oneDay 79 = .ok (.invokevirtual 59, 3) := by decide +kernel
theorem dX12_oneDay_82 : decode cX12_oneDay 82 = .ok (.iload_n 2, 1) := by decide +kernel
theorem dX12_oneDay_83 : decode cX12_oneDay 83 = .ok (.isub, 1) := by decide +kernel
theorem dX12_oneDay_84 : decode cX12_oneDay 84 = .ok (.invokevirtual 51, 3) := by decide +kernel
theorem dX12_oneDay_87 : decode cX12_oneDay 87 = .ok (.aload_n 0, 1) := by decide +kernel
theorem dX12_oneDay_88 : decode cX12_oneDay 88 = .ok (.iload_n 1, 1) := by decide +kernel
theorem dX12_oneDay_89 : decode cX12_oneDay 89 = .ok (.iconst 1, 1) := by decide +kernel
theorem dX12_oneDay_90 : decode cX12_oneDay 90 = .ok (.isub, 1) := by decide +kernel
theorem dX12_oneDay_91 : decode cX12_oneDay 91 = .ok (.iconst 2, 1) := by decide +kernel
theorem dX12_oneDay_92 : decode cX12_oneDay 92 = .ok (.aload_n 0, 1) := by decide +kernel
theorem dX12_oneDay_93 : decode cX12_oneDay 93 = .ok (.iload_n 1, 1) := by decide +kernel
theorem dX12_oneDay_94 : decode cX12_oneDay 94 = .ok (.iconst 1, 1) := by decide +kernel
theorem dX12_oneDay_95 : decode cX12_oneDay 95 = .ok (.isub, 1) := by decide +kernel
theorem dX12_oneDay_96 : decode cX12_oneDay 96 = .ok (.iconst 2, 1) := by decide +kernel
theorem dX12_oneDay_97 : decode cX12_oneDay 97 = .ok (.invokevirtual 59, 3) := by decide +kernel
theorem dX12_oneDay_100 : decode cX12_oneDay 100 = .ok (.iload_n 2, 1) := by decide +kernel
theorem dX12_oneDay_101 : decode cX12_oneDay 101 = .ok (.iadd, 1) := by decide +kernel
theorem dX12_oneDay_102 : decode cX12_oneDay 102 = .ok (.iconst 0, 1) := by decide +kernel
theorem dX12_oneDay_103 : decode cX12_oneDay 103 = .ok (.sipush 999, 3) := by decide +kernel
theorem dX12_oneDay_106 : decode cX12_oneDay 106 = .ok (.invokestatic 141, 3) := by decide +kernel
theorem dX12_oneDay_109 : decode cX12_oneDay 109 = .ok (.invokevirtual 51, 3) := by decide +kernel
theorem dX12_oneDay_112 : decode cX12_oneDay 112 = .ok (.iinc 1 2, 3) := by decide +kernel
theorem dX12_oneDay_115 : decode cX12_oneDay 115 = .ok (.goto (-70), 3) := by decide +kernel
theorem dX12_oneDay_118 : decode cX12_oneDay 118 = .ok (.aload_n 0, 1) := by decide +kernel
theorem dX12_oneDay_119 : decode cX12_oneDay 119 = .ok (.iconst 0, 1) := by decide +kernel
theorem dX12_oneDay_120 : decode cX12_oneDay 120 = .ok (.aload_n 0, 1) := by decide +kernel
theorem dX12_oneDay_121 : decode cX12_oneDay 121 = .ok (.getfield 7, 3) := by decide +kernel
theorem dX12_oneDay_124 : decode cX12_oneDay 124 = .ok (.iconst 0, 1) := by decide +kernel
theorem dX12_oneDay_125 : decode cX12_oneDay 125 = .ok (.iaload, 1) := by decide +kernel
theorem dX12_oneDay_126 : decode cX12_oneDay 126 = .ok (.invokevirtual 157, 3) := by decide +kernel
theorem dX12_oneDay_129 : decode cX12_oneDay 129 = .ok (.istore_n 1, 1) := by decide +kernel
theorem dX12_oneDay_130 : decode cX12_oneDay 130 = .ok (.aload_n 0, 1) := by decide +kernel
theorem dX12_oneDay_131 : decode cX12_oneDay 131 = .ok (.iconst 1, 1) := by decide +kernel
theorem dX12_oneDay_132 : decode cX12_oneDay 132 = .ok (.aload_n 0, 1) := by decide +kernel
theorem dX12_oneDay_133 : decode cX12_oneDay 133 = .ok (.getfield 7, 3) := by decide +kernel
theorem dX12_oneDay_136 : decode cX12_oneDay 136 = .ok (.iconst 0, 1) := by decide +kernel
theorem dX12_oneDay_137 : decode cX12_oneDay 137 = .ok (.iaload, 1) := by decide +kernel
theorem dX12_oneDay_138 : decode cX12_oneDay 138 = .ok (.invokevirtual 157, 3) := by decide +kernel
theorem dX12_oneDay_141 : decode cX12_oneDay 141 = .ok (.istore_n 2, 1) := by decide +kernel
theorem dX12_oneDay_142 : decode cX12_oneDay 142 = .ok (.iload_n 1, 1) := by decide +kernel
theorem dX12_oneDay_143 : decode cX12_oneDay 143 = .ok (.ifCond .eq 21, 3) := by decide +kernel
theorem dX12_oneDay_146 : decode cX12_oneDay 146 = .ok (.aload_n 0, 1) := by decide +kernel
theorem dX12_oneDay_147 : decode cX12_oneDay 147 = .ok (.iconst 0, 1) := by decide +kernel
theorem dX12_oneDay_148 : decode cX12_oneDay 148 = .ok (.iload_n 2, 1) := by decide +kernel
theorem dX12_oneDay_149 : decode cX12_oneDay 149 = .ok (.ifCond .eq 7, 3) := by decide +kernel
theorem dX12_oneDay_152 : decode cX12_oneDay 152 = .ok (.iconst 0, 1) := by decide +kernel
theorem dX12_oneDay_153 : decode cX12_oneDay 153 = .ok (.goto 8, 3) := by decide +kernel
theorem dX12_oneDay_156 : decode cX12_oneDay 156 = .ok (.aload_n 0, 1) := by decide +kernel
theorem dX12_oneDay_157 : decode cX12_oneDay 157 = .ok (.iconst 1, 1) := by decide +kernel
theorem dX12_oneDay_158 : decode cX12_oneDay 158 = .ok (.invokevirtual 164, 3) := by decide +kernel
theorem dX12_oneDay_161 : decode cX12_oneDay 161 = .ok (.invokevirtual 167, 3) := by decide +kernel
theorem dX12_oneDay_164 : decode cX12_oneDay 164 = .ok (.iload_n 2, 1) := by decide +kernel
theorem dX12_oneDay_165 : decode cX12_oneDay 165 = .ok (.ifCond .eq 21, 3) := by decide +kernel
theorem dX12_oneDay_168 : decode cX12_oneDay 168 = .ok (.aload_n 0, 1) := by decide +kernel
theorem dX12_oneDay_169 : decode cX12_oneDay 169 = .ok (.iconst 1, 1) := by decide +kernel
theorem dX12_oneDay_170 : decode cX12_oneDay 170 = .ok (.iload_n 1, 1) := by decide +kernel
theorem dX12_oneDay_171 : decode cX12_oneDay 171 = .ok (.ifCond .eq 7, 3) := by decide +kernel
theorem dX12_oneDay_174 : decode cX12_oneDay 174 = .ok (.iconst 0, 1) := by decide +kernel
theorem dX12_oneDay_175 : decode cX12_oneDay 175 = .ok (.goto 8, 3) := by decide +kernel
theorem dX12_oneDay_178 : decode cX12_oneDay 178 = .ok (.aload_n 0, 1) := by decide +kernel
theorem dX12_oneDay_179 : decode cX12_oneDay 179 = .ok (.iconst 0, 1) := by decide +kernel
theorem dX12_oneDay_180 : decode cX12_oneDay 180 = .ok (.invokevirtual 164, 3) := by decide +kernel
theorem dX12_oneDay_183 : decode cX12_oneDay 183 = .ok (.invokevirtual 167, 3) := by decide +kernel
theorem dX12_oneDay_186 : decode cX12_oneDay 186 = .ok (.aload_n 0, 1) := by decide +kernel
theorem dX12_oneDay_187 : decode cX12_oneDay 187 = .ok (.getfield 7, 3) := by decide +kernel
theorem dX12_oneDay_190 : decode cX12_oneDay 190 = .ok (.iconst 0, 1) := by decide +kernel
theorem dX12_oneDay_191 : decode cX12_oneDay 191 = .ok (.dup2, 1) := by decide +kernel
theorem dX12_oneDay_192 : decode cX12_oneDay 192 = .ok (.iaload, 1) := by decide +kernel
theorem dX12_oneDay_193 : decode cX12_oneDay 193 = .ok (.iconst 1, 1) := by decide +kernel
theorem dX12_oneDay_194 : decode cX12_oneDay 194 = .ok (.iadd, 1) := by decide +kernel
theorem dX12_oneDay_195 : decode cX12_oneDay 195 = .ok (.iastore, 1) := by decide +kernel
theorem dX12_oneDay_196 : decode cX12_oneDay 196 = .ok (.return_, 1) := by decide +kernel
theorem dX12_passes_0 : decode cX12_passes 0 = .ok (.iconst 0, 1) := by decide +kernel
theorem dX12_passes_1 : decode cX12_passes 1 = .ok (.istore_n 2, 1) := by decide +kernel
theorem dX12_passes_2 : decode cX12_passes 2 = .ok (.iload_n 2, 1) := by decide +kernel
theorem dX12_passes_3 : decode cX12_passes 3 = .ok (.iload_n 1, 1) := by decide +kernel
theorem dX12_passes_4 : decode cX12_passes 4 = .ok (.if_icmp .ge 13, 3) := by decide +kernel
theorem dX12_passes_7 : decode cX12_passes 7 = .ok (.aload_n 0, 1) := by decide +kernel
theorem dX12_passes_8 : decode cX12_passes 8 = .ok (.invokevirtual 171, 3) := by decide +kernel
theorem dX12_passes_11 : decode cX12_passes 11 = .ok (.iinc 2 1, 3) := by decide +kernel
theorem dX12_passes_14 : decode cX12_passes 14 = .ok (.goto (-12), 3) := by decide +kernel
theorem dX12_passes_17 : decode cX12_passes 17 = .ok (.return_, 1) := by decide +kernel
theorem dX12_allDirt_0 : decode cX12_allDirt 0 = .ok (.iconst 0, 1) := by decide +kernel
theorem dX12_allDirt_1 : decode cX12_allDirt 1 = .ok (.istore_n 1, 1) := by decide +kernel
theorem dX12_allDirt_2 : decode cX12_allDirt 2 = .ok (.iconst 0, 1) := by decide +kernel
theorem dX12_allDirt_3 : decode cX12_allDirt 3 = .ok (.istore_n 2, 1) := by decide +kernel
theorem dX12_allDirt_4 : decode cX12_allDirt 4 = .ok (.iload_n 2, 1) := by decide +kernel
theorem dX12_allDirt_5 : decode cX12_allDirt 5 = .ok (.aload_n 0, 1) := by decide +kernel
theorem dX12_allDirt_6 : decode cX12_allDirt 6 = .ok (.getfield 7, 3) := by decide +kernel
theorem dX12_allDirt_9 : decode cX12_allDirt 9 = .ok (.iconst 2, 1) := by decide +kernel
theorem dX12_allDirt_10 : decode cX12_allDirt 10 = .ok (.iaload, 1) := by decide +kernel
theorem dX12_allDirt_11 : decode cX12_allDirt 11 = .ok (.if_icmp .ge 18, 3) := by decide +kernel
theorem dX12_allDirt_14 : decode cX12_allDirt 14 = .ok (.iload_n 1, 1) := by decide +kernel
theorem dX12_allDirt_15 : decode cX12_allDirt 15 = .ok (.aload_n 0, 1) := by decide +kernel
theorem dX12_allDirt_16 : decode cX12_allDirt 16 = .ok (.iload_n 2, 1) := by decide +kernel
theorem dX12_allDirt_17 : decode cX12_allDirt 17 = .ok (.iconst 2, 1) := by decide +kernel
theorem dX12_allDirt_18 : decode cX12_allDirt 18 = .ok (.invokevirtual 59, 3) := by decide +kernel
theorem dX12_allDirt_21 : decode cX12_allDirt 21 = .ok (.iadd, 1) := by decide +kernel
theorem dX12_allDirt_22 : decode cX12_allDirt 22 = .ok (.istore_n 1, 1) := by decide +kernel
theorem dX12_allDirt_23 : decode cX12_allDirt 23 = .ok (.iinc 2 1, 3) := by decide +kernel
theorem dX12_allDirt_26 : decode cX12_allDirt 26 = .ok (.goto (-22), 3) := by decide +kernel
theorem dX12_allDirt_29 : decode cX12_allDirt 29 = .ok (.iload_n 1, 1) := by decide +kernel
theorem dX12_allDirt_30 : decode cX12_allDirt 30 = .ok (.ireturn, 1) := by decide +kernel
theorem dX12_days_0 : decode cX12_days 0 = .ok (.iload_n 1, 1) := by decide +kernel
theorem dX12_days_1 : decode cX12_days 1 = .ok (.iconst 1, 1) := by decide +kernel
theorem dX12_days_2 : decode cX12_days 2 = .ok (.bipush 60, 2) := by decide +kernel
theorem dX12_days_4 : decode cX12_days 4 = .ok (.invokestatic 41, 3) := by decide +kernel
theorem dX12_days_7 : decode cX12_days 7 = .ok (.ifCond .ne 10, 3) := by decide +kernel
theorem dX12_days_10 : decode cX12_days 10 = .ok (.aload_n 0, 1) := by decide +kernel
theorem dX12_days_11 : decode cX12_days 11 = .ok (.ldc 45, 2) := by decide +kernel
theorem dX12_days_13 : decode cX12_days 13 = .ok (.invokevirtual 46, 3) := by decide +kernel
theorem dX12_days_16 : decode cX12_days 16 = .ok (.ireturn, 1) := by decide +kernel
theorem dX12_days_17 : decode cX12_days 17 = .ok (.aload_n 0, 1) := by decide +kernel
theorem dX12_days_18 : decode cX12_days 18 = .ok (.getfield 7, 3) := by decide +kernel
theorem dX12_days_21 : decode cX12_days 21 = .ok (.iconst 0, 1) := by decide +kernel
theorem dX12_days_22 : decode cX12_days 22 = .ok (.iaload, 1) := by decide +kernel
theorem dX12_days_23 : decode cX12_days 23 = .ok (.iload_n 1, 1) := by decide +kernel
theorem dX12_days_24 : decode cX12_days 24 = .ok (.iadd, 1) := by decide +kernel
theorem dX12_days_25 : decode cX12_days 25 = .ok (.sipush 9999, 3) := by decide +kernel
theorem dX12_days_28 : decode cX12_days 28 = .ok (.if_icmp .le 10, 3) := by decide +kernel
theorem dX12_days_31 : decode cX12_days 31 = .ok (.aload_n 0, 1) := by decide +kernel
theorem dX12_days_32 : decode cX12_days 32 = .ok (.ldc 174, 2) := by decide +kernel
theorem dX12_days_34 : decode cX12_days 34 = .ok (.invokevirtual 46, 3) := by decide +kernel
theorem dX12_days_37 : decode cX12_days 37 = .ok (.ireturn, 1) := by decide +kernel
theorem dX12_days_38 : decode cX12_days 38 = .ok (.aload_n 0, 1) := by decide +kernel
theorem dX12_days_39 : decode cX12_days 39 = .ok (.iload_n 1, 1) := by decide +kernel
theorem dX12_days_40 : decode cX12_days 40 = .ok (.invokevirtual 175, 3) := by decide +kernel
theorem dX12_days_43 : decode cX12_days 43 = .ok (.aload_n 0, 1) := by decide +kernel
theorem dX12_days_44 : decode cX12_days 44 = .ok (.invokevirtual 179, 3) := by decide +kernel
theorem dX12_days_47 : decode cX12_days 47 = .ok (.ireturn, 1) := by decide +kernel
theorem dX12_drawn_0 : decode cX12_drawn 0 = .ok (.aload_n 0, 1) := by decide +kernel
theorem dX12_drawn_1 : decode cX12_drawn 1 = .ok (.getfield 7, 3) := by decide +kernel
theorem dX12_drawn_4 : decode cX12_drawn 4 = .ok (.iconst 1, 1) := by decide +kernel
theorem dX12_drawn_5 : decode cX12_drawn 5 = .ok (.aload_n 0, 1) := by decide +kernel
theorem dX12_drawn_6 : decode cX12_drawn 6 = .ok (.getfield 7, 3) := by decide +kernel
theorem dX12_drawn_9 : decode cX12_drawn 9 = .ok (.iconst 1, 1) := by decide +kernel
theorem dX12_drawn_10 : decode cX12_drawn 10 = .ok (.iaload, 1) := by decide +kernel
theorem dX12_drawn_11 : decode cX12_drawn 11 = .ok (.ldc 182, 2) := by decide +kernel
theorem dX12_drawn_13 : decode cX12_drawn 13 = .ok (.imul, 1) := by decide +kernel
theorem dX12_drawn_14 : decode cX12_drawn 14 = .ok (.sipush 12345, 3) := by decide +kernel
theorem dX12_drawn_17 : decode cX12_drawn 17 = .ok (.iadd, 1) := by decide +kernel
theorem dX12_drawn_18 : decode cX12_drawn 18 = .ok (.iastore, 1) := by decide +kernel
theorem dX12_drawn_19 : decode cX12_drawn 19 = .ok (.aload_n 0, 1) := by decide +kernel
theorem dX12_drawn_20 : decode cX12_drawn 20 = .ok (.getfield 7, 3) := by decide +kernel
theorem dX12_drawn_23 : decode cX12_drawn 23 = .ok (.iconst 1, 1) := by decide +kernel
theorem dX12_drawn_24 : decode cX12_drawn 24 = .ok (.iaload, 1) := by decide +kernel
theorem dX12_drawn_25 : decode cX12_drawn 25 = .ok (.bipush 8, 2) := by decide +kernel
theorem dX12_drawn_27 : decode cX12_drawn 27 = .ok (.iushr, 1) := by decide +kernel
theorem dX12_drawn_28 : decode cX12_drawn 28 = .ok (.iload_n 1, 1) := by decide +kernel
theorem dX12_drawn_29 : decode cX12_drawn 29 = .ok (.irem, 1) := by decide +kernel
theorem dX12_drawn_30 : decode cX12_drawn 30 = .ok (.ireturn, 1) := by decide +kernel
theorem dX12_loose_0 : decode cX12_loose 0 = .ok (.iload_n 1, 1) := by decide +kernel
theorem dX12_loose_1 : decode cX12_loose 1 = .ok (.iconst 1, 1) := by decide +kernel
theorem dX12_loose_2 : decode cX12_loose 2 = .ok (.bipush 40, 2) := by decide +kernel
theorem dX12_loose_4 : decode cX12_loose 4 = .ok (.invokestatic 41, 3) := by decide +kernel
theorem dX12_loose_7 : decode cX12_loose 7 = .ok (.ifCond .ne 10, 3) := by decide +kernel
theorem dX12_loose_10 : decode cX12_loose 10 = .ok (.aload_n 0, 1) := by decide +kernel
theorem dX12_loose_11 : decode cX12_loose 11 = .ok (.ldc 45, 2) := by decide +kernel
theorem dX12_loose_13 : decode cX12_loose 13 = .ok (.invokevirtual 46, 3) := by decide +kernel
theorem dX12_loose_16 : decode cX12_loose 16 = .ok (.ireturn, 1) := by decide +kernel
theorem dX12_loose_17 : decode cX12_loose 17 = .ok (.aload_n 0, 1) := by decide +kernel
theorem dX12_loose_18 : decode cX12_loose 18 = .ok (.getfield 7, 3) := by decide +kernel
theorem dX12_loose_21 : decode cX12_loose 21 = .ok (.iconst 0, 1) := by decide +kernel
theorem dX12_loose_22 : decode cX12_loose 22 = .ok (.iaload, 1) := by decide +kernel
theorem dX12_loose_23 : decode cX12_loose 23 = .ok (.iload_n 1, 1) := by decide +kernel
theorem dX12_loose_24 : decode cX12_loose 24 = .ok (.iadd, 1) := by decide +kernel
theorem dX12_loose_25 : decode cX12_loose 25 = .ok (.sipush 9999, 3) := by decide +kernel
theorem dX12_loose_28 : decode cX12_loose 28 = .ok (.if_icmp .le 10, 3) := by decide +kernel
theorem dX12_loose_31 : decode cX12_loose 31 = .ok (.aload_n 0, 1) := by decide +kernel
theorem dX12_loose_32 : decode cX12_loose 32 = .ok (.ldc 174, 2) := by decide +kernel
theorem dX12_loose_34 : decode cX12_loose 34 = .ok (.invokevirtual 46, 3) := by decide +kernel
theorem dX12_loose_37 : decode cX12_loose 37 = .ok (.ireturn, 1) := by decide +kernel
theorem dX12_loose_38 : decode cX12_loose 38 = .ok (.iconst 0, 1) := by decide +kernel
theorem dX12_loose_39 : decode cX12_loose 39 = .ok (.istore_n 2, 1) := by decide +kernel
theorem dX12_loose_40 : decode cX12_loose 40 = .ok (.iload_n 2, 1) := by decide +kernel
theorem dX12_loose_41 : decode cX12_loose 41 = .ok (.iload_n 1, 1) := by decide +kernel
theorem dX12_loose_42 : decode cX12_loose 42 = .ok (.if_icmp .ge 73, 3) := by decide +kernel
theorem dX12_loose_45 : decode cX12_loose 45 = .ok (.aload_n 0, 1) := by decide +kernel
theorem dX12_loose_46 : decode cX12_loose 46 = .ok (.getfield 7, 3) := by decide +kernel
theorem dX12_loose_49 : decode cX12_loose 49 = .ok (.bipush 7, 2) := by decide +kernel
theorem dX12_loose_51 : decode cX12_loose 51 = .ok (.aload_n 0, 1) := by decide +kernel
theorem dX12_loose_52 : decode cX12_loose 52 = .ok (.bipush 10, 2) := by decide +kernel
theorem dX12_loose_54 : decode cX12_loose 54 = .ok (.invokevirtual 183, 3) := by decide +kernel
theorem dX12_loose_57 : decode cX12_loose 57 = .ok (.iastore, 1) := by decide +kernel
theorem dX12_loose_58 : decode cX12_loose 58 = .ok (.aload_n 0, 1) := by decide +kernel
theorem dX12_loose_59 : decode cX12_loose 59 = .ok (.aload_n 0, 1) := by decide +kernel
theorem dX12_loose_60 : decode cX12_loose 60 = .ok (.getfield 7, 3) := by decide +kernel
theorem dX12_loose_63 : decode cX12_loose 63 = .ok (.iconst 2, 1) := by decide +kernel
theorem dX12_loose_64 : decode cX12_loose 64 = .ok (.iaload, 1) := by decide +kernel
theorem dX12_loose_65 : decode cX12_loose 65 = .ok (.ifCond .le 12, 3) := by decide +kernel
theorem dX12_loose_68 : decode cX12_loose 68 = .ok (.aload_n 0, 1) := by decide +kernel
theorem dX12_loose_69 : decode cX12_loose 69 = .ok (.getfield 7, 3) := by decide +kernel
theorem dX12_loose_72 : decode cX12_loose 72 = .ok (.iconst 2, 1) := by decide +kernel
theorem dX12_loose_73 : decode cX12_loose 73 = .ok (.iaload, 1) := by decide +kernel
theorem dX12_loose_74 : decode cX12_loose 74 = .ok (.goto 4, 3) := by decide +kernel
theorem dX12_loose_77 : decode cX12_loose 77 = .ok (.iconst 1, 1) := by decide +kernel
theorem dX12_loose_78 : decode cX12_loose 78 = .ok (.invokevirtual 183, 3) := by decide +kernel
theorem dX12_loose_81 : decode cX12_loose 81 = .ok (.istore_n 3, 1) := by decide +kernel
theorem dX12_loose_82 : decode cX12_loose 82 = .ok (.aload_n 0, 1) := by decide +kernel
theorem dX12_loose_83 : decode cX12_loose 83 = .ok (.getfield 7, 3) := by decide +kernel
theorem dX12_loose_86 : decode cX12_loose 86 = .ok (.iconst 2, 1) := by decide +kernel
theorem dX12_loose_87 : decode cX12_loose 87 = .ok (.iaload, 1) := by decide +kernel
theorem dX12_loose_88 : decode cX12_loose 88 = .ok (.ifCond .le 17, 3) := by decide +kernel
theorem dX12_loose_91 : decode cX12_loose 91 = .ok (.aload_n 0, 1) := by decide +kernel
theorem dX12_loose_92 : decode cX12_loose 92 = .ok (.iload_n 3, 1) := by decide +kernel
theorem dX12_loose_93 : decode cX12_loose 93 = .ok (.iconst 3, 1) := by decide +kernel
theorem dX12_loose_94 : decode cX12_loose 94 = .ok (.iconst 1, 1) := by decide +kernel
theorem dX12_loose_95 : decode cX12_loose 95 = .ok (.aload_n 0, 1) := by decide +kernel
theorem dX12_loose_96 : decode cX12_loose 96 = .ok (.iload_n 3, 1) := by decide +kernel
theorem dX12_loose_97 : decode cX12_loose 97 = .ok (.iconst 3, 1) := by decide +kernel
theorem dX12_loose_98 : decode cX12_loose 98 = .ok (.invokevirtual 59, 3) := by decide +kernel
theorem dX12_loose_101 : decode cX12_loose 101 = .ok (.isub, 1) := by decide +kernel
theorem dX12_loose_102 : decode cX12_loose 102 = .ok (.invokevirtual 51, 3) := by decide +kernel
theorem dX12_loose_105 : decode cX12_loose 105 = .ok (.aload_n 0, 1) := by decide +kernel
theorem dX12_loose_106 : decode cX12_loose 106 = .ok (.invokevirtual 171, 3) := by decide +kernel
theorem dX12_loose_109 : decode cX12_loose 109 = .ok (.iinc 2 1, 3) := by decide +kernel
theorem dX12_loose_112 : decode cX12_loose 112 = .ok (.goto (-72), 3) := by decide +kernel
theorem dX12_loose_115 : decode cX12_loose 115 = .ok (.aload_n 0, 1) := by decide +kernel
theorem dX12_loose_116 : decode cX12_loose 116 = .ok (.invokevirtual 179, 3) := by decide +kernel
theorem dX12_loose_119 : decode cX12_loose 119 = .ok (.ireturn, 1) := by decide +kernel
theorem dX12_then_0 : decode cX12_then 0 = .ok (.iload_n 1, 1) := by decide +kernel
theorem dX12_then_1 : decode cX12_then 1 = .ok (.iconst 0, 1) := by decide +kernel
theorem dX12_then_2 : decode cX12_then 2 = .ok (.bipush 60, 2) := by decide +kernel
theorem dX12_then_4 : decode cX12_then 4 = .ok (.invokestatic 41, 3) := by decide +kernel
theorem dX12_then_7 : decode cX12_then 7 = .ok (.ifCond .eq 11, 3) := by decide +kernel
theorem dX12_then_10 : decode cX12_then 10 = .ok (.aload_n 0, 1) := by decide +kernel
theorem dX12_then_11 : decode cX12_then 11 = .ok (.iload_n 2, 1) := by decide +kernel
theorem dX12_then_12 : decode cX12_then 12 = .ok (.invokevirtual 55, 3) := by decide +kernel
theorem dX12_then_15 : decode cX12_then 15 = .ok (.ifCond .ne 10, 3) := by decide +kernel
theorem dX12_then_18 : decode cX12_then 18 = .ok (.aload_n 0, 1) := by decide +kernel
theorem dX12_then_19 : decode cX12_then 19 = .ok (.ldc 45, 2) := by decide +kernel
theorem dX12_then_21 : decode cX12_then 21 = .ok (.invokevirtual 46, 3) := by decide +kernel
theorem dX12_then_24 : decode cX12_then 24 = .ok (.ireturn, 1) := by decide +kernel
theorem dX12_then_25 : decode cX12_then 25 = .ok (.aload_n 0, 1) := by decide +kernel
theorem dX12_then_26 : decode cX12_then 26 = .ok (.aload_n 0, 1) := by decide +kernel
theorem dX12_then_27 : decode cX12_then 27 = .ok (.getfield 7, 3) := by decide +kernel
theorem dX12_then_30 : decode cX12_then 30 = .ok (.aload_n 0, 1) := by decide +kernel
theorem dX12_then_31 : decode cX12_then 31 = .ok (.getfield 16, 3) := by decide +kernel
theorem dX12_then_34 : decode cX12_then 34 = .ok (.invokevirtual 150, 3) := by decide +kernel
theorem dX12_then_37 : decode cX12_then 37 = .ok (.aload_n 0, 1) := by decide +kernel
theorem dX12_then_38 : decode cX12_then 38 = .ok (.iload_n 1, 1) := by decide +kernel
theorem dX12_then_39 : decode cX12_then 39 = .ok (.invokevirtual 175, 3) := by decide +kernel
theorem dX12_then_42 : decode cX12_then 42 = .ok (.aload_n 0, 1) := by decide +kernel
theorem dX12_then_43 : decode cX12_then 43 = .ok (.iload_n 2, 1) := by decide +kernel
theorem dX12_then_44 : decode cX12_then 44 = .ok (.iconst 2, 1) := by decide +kernel
theorem dX12_then_45 : decode cX12_then 45 = .ok (.invokevirtual 59, 3) := by decide +kernel
theorem dX12_then_48 : decode cX12_then 48 = .ok (.istore_n 3, 1) := by decide +kernel
theorem dX12_then_49 : decode cX12_then 49 = .ok (.aload_n 0, 1) := by decide +kernel
theorem dX12_then_50 : decode cX12_then 50 = .ok (.aload_n 0, 1) := by decide +kernel
theorem dX12_then_51 : decode cX12_then 51 = .ok (.getfield 16, 3) := by decide +kernel
theorem dX12_then_54 : decode cX12_then 54 = .ok (.aload_n 0, 1) := by decide +kernel
theorem dX12_then_55 : decode cX12_then 55 = .ok (.getfield 7, 3) := by decide +kernel
theorem dX12_then_58 : decode cX12_then 58 = .ok (.invokevirtual 150, 3) := by decide +kernel
theorem dX12_then_61 : decode cX12_then 61 = .ok (.iload_n 3, 1) := by decide +kernel
theorem dX12_then_62 : decode cX12_then 62 = .ok (.ireturn, 1) := by decide +kernel
theorem dX12_dirtyFrom_0 : decode cX12_dirtyFrom 0 = .ok (.iconst 0, 1) := by decide +kernel
theorem dX12_dirtyFrom_1 : decode cX12_dirtyFrom 1 = .ok (.istore_n 2, 1) := by decide +kernel
theorem dX12_dirtyFrom_2 : decode cX12_dirtyFrom 2 = .ok (.iload_n 2, 1) := by decide +kernel
theorem dX12_dirtyFrom_3 : decode cX12_dirtyFrom 3 = .ok (.aload_n 0, 1) := by decide +kernel
theorem dX12_dirtyFrom_4 : decode cX12_dirtyFrom 4 = .ok (.getfield 7, 3) := by decide +kernel
theorem dX12_dirtyFrom_7 : decode cX12_dirtyFrom 7 = .ok (.iconst 2, 1) := by decide +kernel
theorem dX12_dirtyFrom_8 : decode cX12_dirtyFrom 8 = .ok (.iaload, 1) := by decide +kernel
theorem dX12_dirtyFrom_9 : decode cX12_dirtyFrom 9 = .ok (.if_icmp .ge 19, 3) := by decide +kernel
theorem dX12_dirtyFrom_12 : decode cX12_dirtyFrom 12 = .ok (.aload_n 0, 1) := by decide +kernel
theorem dX12_dirtyFrom_13 : decode cX12_dirtyFrom 13 = .ok (.iload_n 2, 1) := by decide +kernel
theorem dX12_dirtyFrom_14 : decode cX12_dirtyFrom 14 = .ok (.iconst 2, 1) := by decide +kernel
theorem dX12_dirtyFrom_15 : decode cX12_dirtyFrom 15 = .ok (.invokevirtual 59, 3) := by decide +kernel
theorem dX12_dirtyFrom_18 : decode cX12_dirtyFrom 18 = .ok (.iload_n 1, 1) := by decide +kernel
theorem dX12_dirtyFrom_19 : decode cX12_dirtyFrom 19 = .ok (.if_icmp .ge 9, 3) := by decide +kernel
theorem dX12_dirtyFrom_22 : decode cX12_dirtyFrom 22 = .ok (.iinc 2 1, 3) := by decide +kernel
theorem dX12_dirtyFrom_25 : decode cX12_dirtyFrom 25 = .ok (.goto (-23), 3) := by decide +kernel
theorem dX12_dirtyFrom_28 : decode cX12_dirtyFrom 28 = .ok (.iload_n 2, 1) := by decide +kernel
theorem dX12_dirtyFrom_29 : decode cX12_dirtyFrom 29 = .ok (.ireturn, 1) := by decide +kernel
theorem dX12_worst_0 : decode cX12_worst 0 = .ok (.iload_n 1, 1) := by decide +kernel
theorem dX12_worst_1 : decode cX12_worst 1 = .ok (.iconst 1, 1) := by decide +kernel
theorem dX12_worst_2 : decode cX12_worst 2 = .ok (.sipush 999, 3) := by decide +kernel
theorem dX12_worst_5 : decode cX12_worst 5 = .ok (.invokestatic 41, 3) := by decide +kernel
theorem dX12_worst_8 : decode cX12_worst 8 = .ok (.ifCond .eq 12, 3) := by decide +kernel
theorem dX12_worst_11 : decode cX12_worst 11 = .ok (.iload_n 2, 1) := by decide +kernel
theorem dX12_worst_12 : decode cX12_worst 12 = .ok (.iconst 0, 1) := by decide +kernel
theorem dX12_worst_13 : decode cX12_worst 13 = .ok (.iconst 1, 1) := by decide +kernel
theorem dX12_worst_14 : decode cX12_worst 14 = .ok (.invokestatic 41, 3) := by decide +kernel
theorem dX12_worst_17 : decode cX12_worst 17 = .ok (.ifCond .ne 10, 3) := by decide +kernel
theorem dX12_worst_20 : decode cX12_worst 20 = .ok (.aload_n 0, 1) := by decide +kernel
theorem dX12_worst_21 : decode cX12_worst 21 = .ok (.ldc 45, 2) := by decide +kernel
theorem dX12_worst_23 : decode cX12_worst 23 = .ok (.invokevirtual 46, 3) := by decide +kernel
theorem dX12_worst_26 : decode cX12_worst 26 = .ok (.ireturn, 1) := by decide +kernel
theorem dX12_worst_27 : decode cX12_worst 27 = .ok (.aload_n 0, 1) := by decide +kernel
theorem dX12_worst_28 : decode cX12_worst 28 = .ok (.aload_n 0, 1) := by decide +kernel
theorem dX12_worst_29 : decode cX12_worst 29 = .ok (.getfield 7, 3) := by decide +kernel
theorem dX12_worst_32 : decode cX12_worst 32 = .ok (.aload_n 0, 1) := by decide +kernel
theorem dX12_worst_33 : decode cX12_worst 33 = .ok (.getfield 16, 3) := by decide +kernel
theorem dX12_worst_36 : decode cX12_worst 36 = .ok (.invokevirtual 150, 3) := by decide +kernel
theorem dX12_worst_39 : decode cX12_worst 39 = .ok (.iconst 0, 1) := by decide +kernel
theorem dX12_worst_40 : decode cX12_worst 40 = .ok (.istore_n 3, 1) := by decide +kernel
theorem dX12_worst_41 : decode cX12_worst 41 = .ok (.iload_n 3, 1) := by decide +kernel
theorem dX12_worst_42 : decode cX12_worst 42 = .ok (.bipush 60, 2) := by decide +kernel
theorem dX12_worst_44 : decode cX12_worst 44 = .ok (.if_icmp .gt 27, 3) := by decide +kernel
theorem dX12_worst_47 : decode cX12_worst 47 = .ok (.aload_n 0, 1) := by decide +kernel
theorem dX12_worst_48 : decode cX12_worst 48 = .ok (.iload_n 1, 1) := by decide +kernel
theorem dX12_worst_49 : decode cX12_worst 49 = .ok (.invokevirtual 186, 3) := by decide +kernel
theorem dX12_worst_52 : decode cX12_worst 52 = .ok (.aload_n 0, 1) := by decide +kernel
theorem dX12_worst_53 : decode cX12_worst 53 = .ok (.getfield 7, 3) := by decide +kernel
theorem dX12_worst_56 : decode cX12_worst 56 = .ok (.iconst 2, 1) := by decide +kernel
theorem dX12_worst_57 : decode cX12_worst 57 = .ok (.iaload, 1) := by decide +kernel
theorem dX12_worst_58 : decode cX12_worst 58 = .ok (.if_icmp .ne 13, 3) := by decide +kernel
theorem dX12_worst_61 : decode cX12_worst 61 = .ok (.aload_n 0, 1) := by decide +kernel
theorem dX12_worst_62 : decode cX12_worst 62 = .ok (.invokevirtual 171, 3) := by decide +kernel
theorem dX12_worst_65 : decode cX12_worst 65 = .ok (.iinc 3 1, 3) := by decide +kernel
theorem dX12_worst_68 : decode cX12_worst 68 = .ok (.goto (-27), 3) := by decide +kernel
theorem dX12_worst_71 : decode cX12_worst 71 = .ok (.aload_n 0, 1) := by decide +kernel
theorem dX12_worst_72 : decode cX12_worst 72 = .ok (.iload_n 1, 1) := by decide +kernel
theorem dX12_worst_73 : decode cX12_worst 73 = .ok (.invokevirtual 186, 3) := by decide +kernel
theorem dX12_worst_76 : decode cX12_worst 76 = .ok (.istore 4, 2) := by decide +kernel
theorem dX12_worst_78 : decode cX12_worst 78 = .ok (.aload_n 0, 1) := by decide +kernel
theorem dX12_worst_79 : decode cX12_worst 79 = .ok (.aload_n 0, 1) := by decide +kernel
theorem dX12_worst_80 : decode cX12_worst 80 = .ok (.getfield 16, 3) := by decide +kernel
theorem dX12_worst_83 : decode cX12_worst 83 = .ok (.aload_n 0, 1) := by decide +kernel
theorem dX12_worst_84 : decode cX12_worst 84 = .ok (.getfield 7, 3) := by decide +kernel
theorem dX12_worst_87 : decode cX12_worst 87 = .ok (.invokevirtual 150, 3) := by decide +kernel
theorem dX12_worst_90 : decode cX12_worst 90 = .ok (.iload_n 3, 1) := by decide +kernel
theorem dX12_worst_91 : decode cX12_worst 91 = .ok (.bipush 60, 2) := by decide +kernel
theorem dX12_worst_93 : decode cX12_worst 93 = .ok (.if_icmp .le 10, 3) := by decide +kernel
theorem dX12_worst_96 : decode cX12_worst 96 = .ok (.aload_n 0, 1) := by decide +kernel
theorem dX12_worst_97 : decode cX12_worst 97 = .ok (.ldc 189, 2) := by decide +kernel
theorem dX12_worst_99 : decode cX12_worst 99 = .ok (.invokevirtual 46, 3) := by decide +kernel
theorem dX12_worst_102 : decode cX12_worst 102 = .ok (.ireturn, 1) := by decide +kernel
theorem dX12_worst_103 : decode cX12_worst 103 = .ok (.iload_n 2, 1) := by decide +kernel
theorem dX12_worst_104 : decode cX12_worst 104 = .ok (.ifCond .ne 7, 3) := by decide +kernel
theorem dX12_worst_107 : decode cX12_worst 107 = .ok (.iload_n 3, 1) := by decide +kernel
theorem dX12_worst_108 : decode cX12_worst 108 = .ok (.goto 5, 3) := by decide +kernel
theorem dX12_worst_111 : decode cX12_worst 111 = .ok (.iload 4, 2) := by decide +kernel
theorem dX12_worst_113 : decode cX12_worst 113 = .ok (.ireturn, 1) := by decide +kernel
theorem dX12_stay_0 : decode cX12_stay 0 = .ok (.aload_n 0, 1) := by decide +kernel
theorem dX12_stay_1 : decode cX12_stay 1 = .ok (.iconst 0, 1) := by decide +kernel
theorem dX12_stay_2 : decode cX12_stay 2 = .ok (.aload_n 0, 1) := by decide +kernel
theorem dX12_stay_3 : decode cX12_stay 3 = .ok (.iconst 1, 1) := by decide +kernel
theorem dX12_stay_4 : decode cX12_stay 4 = .ok (.invokevirtual 164, 3) := by decide +kernel
theorem dX12_stay_7 : decode cX12_stay 7 = .ok (.invokevirtual 161, 3) := by decide +kernel
theorem dX12_stay_10 : decode cX12_stay 10 = .ok (.aload_n 0, 1) := by decide +kernel
theorem dX12_stay_11 : decode cX12_stay 11 = .ok (.iconst 1, 1) := by decide +kernel
theorem dX12_stay_12 : decode cX12_stay 12 = .ok (.aload_n 0, 1) := by decide +kernel
theorem dX12_stay_13 : decode cX12_stay 13 = .ok (.iconst 0, 1) := by decide +kernel
theorem dX12_stay_14 : decode cX12_stay 14 = .ok (.invokevirtual 164, 3) := by decide +kernel
theorem dX12_stay_17 : decode cX12_stay 17 = .ok (.invokevirtual 161, 3) := by decide +kernel
theorem dX12_stay_20 : decode cX12_stay 20 = .ok (.ior, 1) := by decide +kernel
theorem dX12_stay_21 : decode cX12_stay 21 = .ok (.ireturn, 1) := by decide +kernel
theorem dX12_dirtSwept_0 : decode cX12_dirtSwept 0 = .ok (.aload_n 0, 1) := by decide +kernel
theorem dX12_dirtSwept_1 : decode cX12_dirtSwept 1 = .ok (.aload_n 0, 1) := by decide +kernel
theorem dX12_dirtSwept_2 : decode cX12_dirtSwept 2 = .ok (.getfield 7, 3) := by decide +kernel
theorem dX12_dirtSwept_5 : decode cX12_dirtSwept 5 = .ok (.aload_n 0, 1) := by decide +kernel
theorem dX12_dirtSwept_6 : decode cX12_dirtSwept 6 = .ok (.getfield 16, 3) := by decide +kernel
theorem dX12_dirtSwept_9 : decode cX12_dirtSwept 9 = .ok (.invokevirtual 150, 3) := by decide +kernel
theorem dX12_dirtSwept_12 : decode cX12_dirtSwept 12 = .ok (.aload_n 0, 1) := by decide +kernel
theorem dX12_dirtSwept_13 : decode cX12_dirtSwept 13 = .ok (.iload_n 1, 1) := by decide +kernel
theorem dX12_dirtSwept_14 : decode cX12_dirtSwept 14 = .ok (.aload_n 0, 1) := by decide +kernel
theorem dX12_dirtSwept_15 : decode cX12_dirtSwept 15 = .ok (.iconst 1, 1) := by decide +kernel
theorem dX12_dirtSwept_16 : decode cX12_dirtSwept 16 = .ok (.iload_n 1, 1) := by decide +kernel
theorem dX12_dirtSwept_17 : decode cX12_dirtSwept 17 = .ok (.isub, 1) := by decide +kernel
theorem dX12_dirtSwept_18 : decode cX12_dirtSwept 18 = .ok (.invokevirtual 164, 3) := by decide +kernel
theorem dX12_dirtSwept_21 : decode cX12_dirtSwept 21 = .ok (.invokevirtual 167, 3) := by decide +kernel
theorem dX12_dirtSwept_24 : decode cX12_dirtSwept 24 = .ok (.aload_n 0, 1) := by decide +kernel
theorem dX12_dirtSwept_25 : decode cX12_dirtSwept 25 = .ok (.invokevirtual 179, 3) := by decide +kernel
theorem dX12_dirtSwept_28 : decode cX12_dirtSwept 28 = .ok (.istore_n 2, 1) := by decide +kernel
theorem dX12_dirtSwept_29 : decode cX12_dirtSwept 29 = .ok (.aload_n 0, 1) := by decide +kernel
theorem dX12_dirtSwept_30 : decode cX12_dirtSwept 30 = .ok (.aload_n 0, 1) := by decide +kernel
theorem dX12_dirtSwept_31 : decode cX12_dirtSwept 31 = .ok (.getfield 16, 3) := by decide +kernel
theorem dX12_dirtSwept_34 : decode cX12_dirtSwept 34 = .ok (.aload_n 0, 1) := by decide +kernel
theorem dX12_dirtSwept_35 : decode cX12_dirtSwept 35 = .ok (.getfield 7, 3) := by decide +kernel
theorem dX12_dirtSwept_38 : decode cX12_dirtSwept 38 = .ok (.invokevirtual 150, 3) := by decide +kernel
theorem dX12_dirtSwept_41 : decode cX12_dirtSwept 41 = .ok (.iload_n 2, 1) := by decide +kernel
theorem dX12_dirtSwept_42 : decode cX12_dirtSwept 42 = .ok (.ireturn, 1) := by decide +kernel
theorem dX12_side_0 : decode cX12_side 0 = .ok (.iload_n 1, 1) := by decide +kernel
theorem dX12_side_1 : decode cX12_side 1 = .ok (.iconst 0, 1) := by decide +kernel
theorem dX12_side_2 : decode cX12_side 2 = .ok (.iconst 1, 1) := by decide +kernel
theorem dX12_side_3 : decode cX12_side 3 = .ok (.invokestatic 41, 3) := by decide +kernel
theorem dX12_side_6 : decode cX12_side 6 = .ok (.ifCond .ne 10, 3) := by decide +kernel
theorem dX12_side_9 : decode cX12_side 9 = .ok (.aload_n 0, 1) := by decide +kernel
theorem dX12_side_10 : decode cX12_side 10 = .ok (.ldc 45, 2) := by decide +kernel
theorem dX12_side_12 : decode cX12_side 12 = .ok (.invokevirtual 46, 3) := by decide +kernel
theorem dX12_side_15 : decode cX12_side 15 = .ok (.ireturn, 1) := by decide +kernel
theorem dX12_side_16 : decode cX12_side 16 = .ok (.aload_n 0, 1) := by decide +kernel
theorem dX12_side_17 : decode cX12_side 17 = .ok (.iconst 0, 1) := by decide +kernel
theorem dX12_side_18 : decode cX12_side 18 = .ok (.invokevirtual 190, 3) := by decide +kernel
theorem dX12_side_21 : decode cX12_side 21 = .ok (.istore_n 2, 1) := by decide +kernel
theorem dX12_side_22 : decode cX12_side 22 = .ok (.aload_n 0, 1) := by decide +kernel
theorem dX12_side_23 : decode cX12_side 23 = .ok (.iconst 1, 1) := by decide +kernel
theorem dX12_side_24 : decode cX12_side 24 = .ok (.invokevirtual 190, 3) := by decide +kernel
theorem dX12_side_27 : decode cX12_side 27 = .ok (.istore_n 3, 1) := by decide +kernel
theorem dX12_side_28 : decode cX12_side 28 = .ok (.iload_n 1, 1) := by decide +kernel
theorem dX12_side_29 : decode cX12_side 29 = .ok (.ifCond .ne 16, 3) := by decide +kernel
theorem dX12_side_32 : decode cX12_side 32 = .ok (.iload_n 3, 1) := by decide +kernel
theorem dX12_side_33 : decode cX12_side 33 = .ok (.iload_n 2, 1) := by decide +kernel
theorem dX12_side_34 : decode cX12_side 34 = .ok (.if_icmp .ge 7, 3) := by decide +kernel
theorem dX12_side_37 : decode cX12_side 37 = .ok (.iconst 1, 1) := by decide +kernel
theorem dX12_side_38 : decode cX12_side 38 = .ok (.goto 17, 3) := by decide +kernel
theorem dX12_side_41 : decode cX12_side 41 = .ok (.iconst 0, 1) := by decide +kernel
theorem dX12_side_42 : decode cX12_side 42 = .ok (.goto 13, 3) := by decide +kernel
theorem dX12_side_45 : decode cX12_side 45 = .ok (.iload_n 3, 1) := by decide +kernel
theorem dX12_side_46 : decode cX12_side 46 = .ok (.iload_n 2, 1) := by decide +kernel
theorem dX12_side_47 : decode cX12_side 47 = .ok (.if_icmp .ge 7, 3) := by decide +kernel
theorem dX12_side_50 : decode cX12_side 50 = .ok (.iload_n 3, 1) := by decide +kernel
theorem dX12_side_51 : decode cX12_side 51 = .ok (.goto 4, 3) := by decide +kernel
theorem dX12_side_54 : decode cX12_side 54 = .ok (.iload_n 2, 1) := by decide +kernel
theorem dX12_side_55 : decode cX12_side 55 = .ok (.ireturn, 1) := by decide +kernel
theorem dX12_seldom_0 : decode cX12_seldom 0 = .ok (.iload_n 1, 1) := by decide +kernel
theorem dX12_seldom_1 : decode cX12_seldom 1 = .ok (.iconst 1, 1) := by decide +kernel
theorem dX12_seldom_2 : decode cX12_seldom 2 = .ok (.sipush 999, 3) := by decide +kernel
theorem dX12_seldom_5 : decode cX12_seldom 5 = .ok (.invokestatic 41, 3) := by decide +kernel
theorem dX12_seldom_8 : decode cX12_seldom 8 = .ok (.ifCond .ne 10, 3) := by decide +kernel
theorem dX12_seldom_11 : decode cX12_seldom 11 = .ok (.aload_n 0, 1) := by decide +kernel
theorem dX12_seldom_12 : decode cX12_seldom 12 = .ok (.ldc 45, 2) := by decide +kernel
theorem dX12_seldom_14 : decode cX12_seldom 14 = .ok (.invokevirtual 46, 3) := by decide +kernel
theorem dX12_seldom_17 : decode cX12_seldom 17 = .ok (.ireturn, 1) := by decide +kernel
theorem dX12_seldom_18 : decode cX12_seldom 18 = .ok (.iconst (-1), 1) := by decide +kernel
theorem dX12_seldom_19 : decode cX12_seldom 19 = .ok (.istore_n 2, 1) := by decide +kernel
theorem dX12_seldom_20 : decode cX12_seldom 20 = .ok (.aload_n 0, 1) := by decide +kernel
theorem dX12_seldom_21 : decode cX12_seldom 21 = .ok (.aload_n 0, 1) := by decide +kernel
theorem dX12_seldom_22 : decode cX12_seldom 22 = .ok (.getfield 7, 3) := by decide +kernel
theorem dX12_seldom_25 : decode cX12_seldom 25 = .ok (.aload_n 0, 1) := by decide +kernel
theorem dX12_seldom_26 : decode cX12_seldom 26 = .ok (.getfield 16, 3) := by decide +kernel
theorem dX12_seldom_29 : decode cX12_seldom 29 = .ok (.invokevirtual 150, 3) := by decide +kernel
theorem dX12_seldom_32 : decode cX12_seldom 32 = .ok (.aload_n 0, 1) := by decide +kernel
theorem dX12_seldom_33 : decode cX12_seldom 33 = .ok (.iconst 1, 1) := by decide +kernel
theorem dX12_seldom_34 : decode cX12_seldom 34 = .ok (.putfield 154, 3) := by decide +kernel
theorem dX12_seldom_37 : decode cX12_seldom 37 = .ok (.aload_n 0, 1) := by decide +kernel
theorem dX12_seldom_38 : decode cX12_seldom 38 = .ok (.getfield 154, 3) := by decide +kernel
theorem dX12_seldom_41 : decode cX12_seldom 41 = .ok (.bipush 14, 2) := by decide +kernel
theorem dX12_seldom_43 : decode cX12_seldom 43 = .ok (.if_icmp .gt 87, 3) := by decide +kernel
theorem dX12_seldom_46 : decode cX12_seldom 46 = .ok (.iconst 1, 1) := by decide +kernel
theorem dX12_seldom_47 : decode cX12_seldom 47 = .ok (.istore_n 3, 1) := by decide +kernel
theorem dX12_seldom_48 : decode cX12_seldom 48 = .ok (.iconst 0, 1) := by decide +kernel
theorem dX12_seldom_49 : decode cX12_seldom 49 = .ok (.istore 4, 2) := by decide +kernel
theorem dX12_seldom_51 : decode cX12_seldom 51 = .ok (.iload 4, 2) := by decide +kernel
theorem dX12_seldom_53 : decode cX12_seldom 53 = .ok (.bipush 28, 2) := by decide +kernel
theorem dX12_seldom_55 : decode cX12_seldom 55 = .ok (.if_icmp .ge 37, 3) := by decide +kernel
theorem dX12_seldom_58 : decode cX12_seldom 58 = .ok (.iload_n 3, 1) := by decide +kernel
theorem dX12_seldom_59 : decode cX12_seldom 59 = .ok (.ifCond .eq 33, 3) := by decide +kernel
theorem dX12_seldom_62 : decode cX12_seldom 62 = .ok (.aload_n 0, 1) := by decide +kernel
theorem dX12_seldom_63 : decode cX12_seldom 63 = .ok (.invokevirtual 171, 3) := by decide +kernel
theorem dX12_seldom_66 : decode cX12_seldom 66 = .ok (.aload_n 0, 1) := by decide +kernel
theorem dX12_seldom_67 : decode cX12_seldom 67 = .ok (.iload_n 1, 1) := by decide +kernel
theorem dX12_seldom_68 : decode cX12_seldom 68 = .ok (.invokevirtual 186, 3) := by decide +kernel
theorem dX12_seldom_71 : decode cX12_seldom 71 = .ok (.aload_n 0, 1) := by decide +kernel
theorem dX12_seldom_72 : decode cX12_seldom 72 = .ok (.getfield 7, 3) := by decide +kernel
theorem dX12_seldom_75 : decode cX12_seldom 75 = .ok (.iconst 2, 1) := by decide +kernel
theorem dX12_seldom_76 : decode cX12_seldom 76 = .ok (.iaload, 1) := by decide +kernel
theorem dX12_seldom_77 : decode cX12_seldom 77 = .ok (.if_icmp .ne 7, 3) := by decide +kernel
theorem dX12_seldom_80 : decode cX12_seldom 80 = .ok (.iconst 1, 1) := by decide +kernel
theorem dX12_seldom_81 : decode cX12_seldom 81 = .ok (.goto 4, 3) := by decide +kernel
theorem dX12_seldom_84 : decode cX12_seldom 84 = .ok (.iconst 0, 1) := by decide +kernel
theorem dX12_seldom_85 : decode cX12_seldom 85 = .ok (.istore_n 3, 1) := by decide +kernel
theorem dX12_seldom_86 : decode cX12_seldom 86 = .ok (.iinc 4 1, 3) := by decide +kernel
theorem dX12_seldom_89 : decode cX12_seldom 89 = .ok (.goto (-38), 3) := by decide +kernel
theorem dX12_seldom_92 : decode cX12_seldom 92 = .ok (.iload_n 3, 1) := by decide +kernel
theorem dX12_seldom_93 : decode cX12_seldom 93 = .ok (.ifCond .eq 10, 3) := by decide +kernel
theorem dX12_seldom_96 : decode cX12_seldom 96 = .ok (.aload_n 0, 1) := by decide +kernel
theorem dX12_seldom_97 : decode cX12_seldom 97 = .ok (.getfield 154, 3) := by decide +kernel
theorem dX12_seldom_100 : decode cX12_seldom 100 = .ok (.goto 4, 3) := by decide +kernel
theorem dX12_seldom_103 : decode cX12_seldom 103 = .ok (.iload_n 2, 1) := by decide +kernel
theorem dX12_seldom_104 : decode cX12_seldom 104 = .ok (.istore_n 2, 1) := by decide +kernel
theorem dX12_seldom_105 : decode cX12_seldom 105 = .ok (.aload_n 0, 1) := by decide +kernel
theorem dX12_seldom_106 : decode cX12_seldom 106 = .ok (.aload_n 0, 1) := by decide +kernel
theorem dX12_seldom_107 : decode cX12_seldom 107 = .ok (.getfield 16, 3) := by decide +kernel
theorem dX12_seldom_110 : decode cX12_seldom 110 = .ok (.aload_n 0, 1) := by decide +kernel
theorem dX12_seldom_111 : decode cX12_seldom 111 = .ok (.getfield 7, 3) := by decide +kernel
theorem dX12_seldom_114 : decode cX12_seldom 114 = .ok (.invokevirtual 150, 3) := by decide +kernel
theorem dX12_seldom_117 : decode cX12_seldom 117 = .ok (.aload_n 0, 1) := by decide +kernel
theorem dX12_seldom_118 : decode cX12_seldom 118 = .ok (.dup, 1) := by decide +kernel
theorem dX12_seldom_119 : decode cX12_seldom 119 = .ok (.getfield 154, 3) := by decide +kernel
theorem dX12_seldom_122 : decode cX12_seldom 122 = .ok (.iconst 1, 1) := by decide +kernel
theorem dX12_seldom_123 : decode cX12_seldom 123 = .ok (.iadd, 1) := by decide +kernel
theorem dX12_seldom_124 : decode cX12_seldom 124 = .ok (.putfield 154, 3) := by decide +kernel
theorem dX12_seldom_127 : decode cX12_seldom 127 = .ok (.goto (-90), 3) := by decide +kernel
theorem dX12_seldom_130 : decode cX12_seldom 130 = .ok (.aload_n 0, 1) := by decide +kernel
theorem dX12_seldom_131 : decode cX12_seldom 131 = .ok (.iconst 0, 1) := by decide +kernel
theorem dX12_seldom_132 : decode cX12_seldom 132 = .ok (.putfield 154, 3) := by decide +kernel
theorem dX12_seldom_135 : decode cX12_seldom 135 = .ok (.iload_n 2, 1) := by decide +kernel
theorem dX12_seldom_136 : decode cX12_seldom 136 = .ok (.ifCond .ge 12, 3) := by decide +kernel
theorem dX12_seldom_139 : decode cX12_seldom 139 = .ok (.aload_n 0, 1) := by decide +kernel
theorem dX12_seldom_140 : decode cX12_seldom 140 = .ok (.ldc 189, 2) := by decide +kernel
theorem dX12_seldom_142 : decode cX12_seldom 142 = .ok (.invokevirtual 46, 3) := by decide +kernel
theorem dX12_seldom_145 : decode cX12_seldom 145 = .ok (.goto 4, 3) := by decide +kernel
theorem dX12_seldom_148 : decode cX12_seldom 148 = .ok (.iload_n 2, 1) := by decide +kernel
theorem dX12_seldom_149 : decode cX12_seldom 149 = .ok (.ireturn, 1) := by decide +kernel
theorem dX12_leastFine_0 : decode cX12_leastFine 0 = .ok (.iload_n 1, 1) := by decide +kernel
theorem dX12_leastFine_1 : decode cX12_leastFine 1 = .ok (.iconst 0, 1) := by decide +kernel
theorem dX12_leastFine_2 : decode cX12_leastFine 2 = .ok (.iconst 1, 1) := by decide +kernel
theorem dX12_leastFine_3 : decode cX12_leastFine 3 = .ok (.invokestatic 41, 3) := by decide +kernel
theorem dX12_leastFine_6 : decode cX12_leastFine 6 = .ok (.ifCond .ne 10, 3) := by decide +kernel
theorem dX12_leastFine_9 : decode cX12_leastFine 9 = .ok (.aload_n 0, 1) := by decide +kernel
theorem dX12_leastFine_10 : decode cX12_leastFine 10 = .ok (.ldc 45, 2) := by decide +kernel
theorem dX12_leastFine_12 : decode cX12_leastFine 12 = .ok (.invokevirtual 46, 3) := by decide +kernel
theorem dX12_leastFine_15 : decode cX12_leastFine 15 = .ok (.ireturn, 1) := by decide +kernel
theorem dX12_leastFine_16 : decode cX12_leastFine 16 = .ok (.aload_n 0, 1) := by decide +kernel
theorem dX12_leastFine_17 : decode cX12_leastFine 17 = .ok (.getfield 7, 3) := by decide +kernel
theorem dX12_leastFine_20 : decode cX12_leastFine 20 = .ok (.bipush 8, 2) := by decide +kernel
theorem dX12_leastFine_22 : decode cX12_leastFine 22 = .ok (.iaload, 1) := by decide +kernel
theorem dX12_leastFine_23 : decode cX12_leastFine 23 = .ok (.istore_n 2, 1) := by decide +kernel
theorem dX12_leastFine_24 : decode cX12_leastFine 24 = .ok (.iconst 0, 1) := by decide +kernel
theorem dX12_leastFine_25 : decode cX12_leastFine 25 = .ok (.istore_n 3, 1) := by decide +kernel
theorem dX12_leastFine_26 : decode cX12_leastFine 26 = .ok (.aload_n 0, 1) := by decide +kernel
theorem dX12_leastFine_27 : decode cX12_leastFine 27 = .ok (.getfield 7, 3) := by decide +kernel
theorem dX12_leastFine_30 : decode cX12_leastFine 30 = .ok (.bipush 8, 2) := by decide +kernel
theorem dX12_leastFine_32 : decode cX12_leastFine 32 = .ok (.iload_n 3, 1) := by decide +kernel
theorem dX12_leastFine_33 : decode cX12_leastFine 33 = .ok (.iastore, 1) := by decide +kernel
theorem dX12_leastFine_34 : decode cX12_leastFine 34 = .ok (.iload_n 3, 1) := by decide +kernel
theorem dX12_leastFine_35 : decode cX12_leastFine 35 = .ok (.bipush 99, 2) := by decide +kernel
theorem dX12_leastFine_37 : decode cX12_leastFine 37 = .ok (.if_icmp .gt 32, 3) := by decide +kernel
theorem dX12_leastFine_40 : decode cX12_leastFine 40 = .ok (.aload_n 0, 1) := by decide +kernel
theorem dX12_leastFine_41 : decode cX12_leastFine 41 = .ok (.iload_n 1, 1) := by decide +kernel
theorem dX12_leastFine_42 : decode cX12_leastFine 42 = .ok (.aload_n 0, 1) := by decide +kernel
theorem dX12_leastFine_43 : decode cX12_leastFine 43 = .ok (.iconst 1, 1) := by decide +kernel
theorem dX12_leastFine_44 : decode cX12_leastFine 44 = .ok (.iload_n 1, 1) := by decide +kernel
theorem dX12_leastFine_45 : decode cX12_leastFine 45 = .ok (.isub, 1) := by decide +kernel
theorem dX12_leastFine_46 : decode cX12_leastFine 46 = .ok (.invokevirtual 164, 3) := by decide +kernel
theorem dX12_leastFine_49 : decode cX12_leastFine 49 = .ok (.invokevirtual 161, 3) := by decide +kernel
theorem dX12_leastFine_52 : decode cX12_leastFine 52 = .ok (.ifCond .eq 17, 3) := by decide +kernel
theorem dX12_leastFine_55 : decode cX12_leastFine 55 = .ok (.iinc 3 1, 3) := by decide +kernel
theorem dX12_leastFine_58 : decode cX12_leastFine 58 = .ok (.aload_n 0, 1) := by decide +kernel
theorem dX12_leastFine_59 : decode cX12_leastFine 59 = .ok (.getfield 7, 3) := by decide +kernel
theorem dX12_leastFine_62 : decode cX12_leastFine 62 = .ok (.bipush 8, 2) := by decide +kernel
theorem dX12_leastFine_64 : decode cX12_leastFine 64 = .ok (.iload_n 3, 1) := by decide +kernel
theorem dX12_leastFine_65 : decode cX12_leastFine 65 = .ok (.iastore, 1) := by decide +kernel
theorem dX12_leastFine_66 : decode cX12_leastFine 66 = .ok (.goto (-32), 3) := by decide +kernel
theorem dX12_leastFine_69 : decode cX12_leastFine 69 = .ok (.aload_n 0, 1) := by decide +kernel
theorem dX12_leastFine_70 : decode cX12_leastFine 70 = .ok (.getfield 7, 3) := by decide +kernel
theorem dX12_leastFine_73 : decode cX12_leastFine 73 = .ok (.bipush 8, 2) := by decide +kernel
theorem dX12_leastFine_75 : decode cX12_leastFine 75 = .ok (.iload_n 2, 1) := by decide +kernel
theorem dX12_leastFine_76 : decode cX12_leastFine 76 = .ok (.iastore, 1) := by decide +kernel
theorem dX12_leastFine_77 : decode cX12_leastFine 77 = .ok (.iload_n 3, 1) := by decide +kernel
theorem dX12_leastFine_78 : decode cX12_leastFine 78 = .ok (.bipush 99, 2) := by decide +kernel
theorem dX12_leastFine_80 : decode cX12_leastFine 80 = .ok (.if_icmp .le 12, 3) := by decide +kernel
theorem dX12_leastFine_83 : decode cX12_leastFine 83 = .ok (.aload_n 0, 1) := by decide +kernel
theorem dX12_leastFine_84 : decode cX12_leastFine 84 = .ok (.ldc 189, 2) := by decide +kernel
theorem dX12_leastFine_86 : decode cX12_leastFine 86 = .ok (.invokevirtual 46, 3) := by decide +kernel
theorem dX12_leastFine_89 : decode cX12_leastFine 89 = .ok (.goto 4, 3) := by decide +kernel
theorem dX12_leastFine_92 : decode cX12_leastFine 92 = .ok (.iload_n 3, 1) := by decide +kernel
theorem dX12_leastFine_93 : decode cX12_leastFine 93 = .ok (.ireturn, 1) := by decide +kernel
theorem dX12_carSet_0 : decode cX12_carSet 0 = .ok (.iconst 0, 1) := by decide +kernel
theorem dX12_carSet_1 : decode cX12_carSet 1 = .ok (.istore_n 1, 1) := by decide +kernel
theorem dX12_carSet_2 : decode cX12_carSet 2 = .ok (.iconst 0, 1) := by decide +kernel
theorem dX12_carSet_3 : decode cX12_carSet 3 = .ok (.istore_n 2, 1) := by decide +kernel
theorem dX12_carSet_4 : decode cX12_carSet 4 = .ok (.iload_n 2, 1) := by decide +kernel
theorem dX12_carSet_5 : decode cX12_carSet 5 = .ok (.aload_n 0, 1) := by decide +kernel
theorem dX12_carSet_6 : decode cX12_carSet 6 = .ok (.getfield 7, 3) := by decide +kernel
theorem dX12_carSet_9 : decode cX12_carSet 9 = .ok (.iconst 2, 1) := by decide +kernel
theorem dX12_carSet_10 : decode cX12_carSet 10 = .ok (.iaload, 1) := by decide +kernel
theorem dX12_carSet_11 : decode cX12_carSet 11 = .ok (.if_icmp .ge 20, 3) := by decide +kernel
theorem dX12_carSet_14 : decode cX12_carSet 14 = .ok (.iload_n 1, 1) := by decide +kernel
theorem dX12_carSet_15 : decode cX12_carSet 15 = .ok (.aload_n 0, 1) := by decide +kernel
theorem dX12_carSet_16 : decode cX12_carSet 16 = .ok (.iload_n 2, 1) := by decide +kernel
theorem dX12_carSet_17 : decode cX12_carSet 17 = .ok (.iconst 3, 1) := by decide +kernel
theorem dX12_carSet_18 : decode cX12_carSet 18 = .ok (.invokevirtual 59, 3) := by decide +kernel
theorem dX12_carSet_21 : decode cX12_carSet 21 = .ok (.iload_n 2, 1) := by decide +kernel
theorem dX12_carSet_22 : decode cX12_carSet 22 = .ok (.ishl, 1) := by decide +kernel
theorem dX12_carSet_23 : decode cX12_carSet 23 = .ok (.ior, 1) := by decide +kernel
theorem dX12_carSet_24 : decode cX12_carSet 24 = .ok (.istore_n 1, 1) := by decide +kernel
theorem dX12_carSet_25 : decode cX12_carSet 25 = .ok (.iinc 2 1, 3) := by decide +kernel
theorem dX12_carSet_28 : decode cX12_carSet 28 = .ok (.goto (-24), 3) := by decide +kernel
theorem dX12_carSet_31 : decode cX12_carSet 31 = .ok (.iload_n 1, 1) := by decide +kernel
theorem dX12_carSet_32 : decode cX12_carSet 32 = .ok (.ireturn, 1) := by decide +kernel
theorem dX12_isClean_0 : decode cX12_isClean 0 = .ok (.aload_n 0, 1) := by decide +kernel
theorem dX12_isClean_1 : decode cX12_isClean 1 = .ok (.aload_n 0, 1) := by decide +kernel
theorem dX12_isClean_2 : decode cX12_isClean 2 = .ok (.getfield 7, 3) := by decide +kernel
theorem dX12_isClean_5 : decode cX12_isClean 5 = .ok (.aload_n 0, 1) := by decide +kernel
theorem dX12_isClean_6 : decode cX12_isClean 6 = .ok (.getfield 16, 3) := by decide +kernel
theorem dX12_isClean_9 : decode cX12_isClean 9 = .ok (.invokevirtual 150, 3) := by decide +kernel
theorem dX12_isClean_12 : decode cX12_isClean 12 = .ok (.iload 4, 2) := by decide +kernel
theorem dX12_isClean_14 : decode cX12_isClean 14 = .ok (.ifCond .lt 19, 3) := by decide +kernel
theorem dX12_isClean_17 : decode cX12_isClean 17 = .ok (.aload_n 0, 1) := by decide +kernel
theorem dX12_isClean_18 : decode cX12_isClean 18 = .ok (.iload 4, 2) := by decide +kernel
theorem dX12_isClean_20 : decode cX12_isClean 20 = .ok (.iconst 3, 1) := by decide +kernel
theorem dX12_isClean_21 : decode cX12_isClean 21 = .ok (.iconst 0, 1) := by decide +kernel
theorem dX12_isClean_22 : decode cX12_isClean 22 = .ok (.invokevirtual 51, 3) := by decide +kernel
theorem dX12_isClean_25 : decode cX12_isClean 25 = .ok (.aload_n 0, 1) := by decide +kernel
theorem dX12_isClean_26 : decode cX12_isClean 26 = .ok (.iload 5, 2) := by decide +kernel
theorem dX12_isClean_28 : decode cX12_isClean 28 = .ok (.iconst 3, 1) := by decide +kernel
theorem dX12_isClean_29 : decode cX12_isClean 29 = .ok (.iconst 0, 1) := by decide +kernel
theorem dX12_isClean_30 : decode cX12_isClean 30 = .ok (.invokevirtual 51, 3) := by decide +kernel
theorem dX12_isClean_33 : decode cX12_isClean 33 = .ok (.aload_n 0, 1) := by decide +kernel
theorem dX12_isClean_34 : decode cX12_isClean 34 = .ok (.iload_n 3, 1) := by decide +kernel
theorem dX12_isClean_35 : decode cX12_isClean 35 = .ok (.invokevirtual 175, 3) := by decide +kernel
theorem dX12_isClean_38 : decode cX12_isClean 38 = .ok (.aload_n 0, 1) := by decide +kernel
theorem dX12_isClean_39 : decode cX12_isClean 39 = .ok (.iload_n 1, 1) := by decide +kernel
theorem dX12_isClean_40 : decode cX12_isClean 40 = .ok (.iconst 2, 1) := by decide +kernel
theorem dX12_isClean_41 : decode cX12_isClean 41 = .ok (.invokevirtual 59, 3) := by decide +kernel
theorem dX12_isClean_44 : decode cX12_isClean 44 = .ok (.iload_n 2, 1) := by decide +kernel
theorem dX12_isClean_45 : decode cX12_isClean 45 = .ok (.if_icmp .ge 7, 3) := by decide +kernel
theorem dX12_isClean_48 : decode cX12_isClean 48 = .ok (.iconst 1, 1) := by decide +kernel
theorem dX12_isClean_49 : decode cX12_isClean 49 = .ok (.goto 4, 3) := by decide +kernel
theorem dX12_isClean_52 : decode cX12_isClean 52 = .ok (.iconst 0, 1) := by decide +kernel
theorem dX12_isClean_53 : decode cX12_isClean 53 = .ok (.istore 6, 2) := by decide +kernel
theorem dX12_isClean_55 : decode cX12_isClean 55 = .ok (.aload_n 0, 1) := by decide +kernel
theorem dX12_isClean_56 : decode cX12_isClean 56 = .ok (.aload_n 0, 1) := by decide +kernel
theorem dX12_isClean_57 : decode cX12_isClean 57 = .ok (.getfield 16, 3) := by decide +kernel
theorem dX12_isClean_60 : decode cX12_isClean 60 = .ok (.aload_n 0, 1) := by decide +kernel
theorem dX12_isClean_61 : decode cX12_isClean 61 = .ok (.getfield 7, 3) := by decide +kernel
theorem dX12_isClean_64 : decode cX12_isClean 64 = .ok (.invokevirtual 150, 3) := by decide +kernel
theorem dX12_isClean_67 : decode cX12_isClean 67 = .ok (.iload 6, 2) := by decide +kernel
theorem dX12_isClean_69 : decode cX12_isClean 69 = .ok (.ireturn, 1) := by decide +kernel
theorem dX12_tow_0 : decode cX12_tow 0 = .ok (.aload_n 0, 1) := by decide +kernel
theorem dX12_tow_1 : decode cX12_tow 1 = .ok (.iload_n 1, 1) := by decide +kernel
theorem dX12_tow_2 : decode cX12_tow 2 = .ok (.invokevirtual 55, 3) := by decide +kernel
theorem dX12_tow_5 : decode cX12_tow 5 = .ok (.ifCond .eq 24, 3) := by decide +kernel
theorem dX12_tow_8 : decode cX12_tow 8 = .ok (.iload_n 2, 1) := by decide +kernel
theorem dX12_tow_9 : decode cX12_tow 9 = .ok (.iconst 1, 1) := by decide +kernel
theorem dX12_tow_10 : decode cX12_tow 10 = .ok (.sipush 999, 3) := by decide +kernel
theorem dX12_tow_13 : decode cX12_tow 13 = .ok (.invokestatic 41, 3) := by decide +kernel
theorem dX12_tow_16 : decode cX12_tow 16 = .ok (.ifCond .eq 13, 3) := by decide +kernel
theorem dX12_tow_19 : decode cX12_tow 19 = .ok (.iload_n 3, 1) := by decide +kernel
theorem dX12_tow_20 : decode cX12_tow 20 = .ok (.iconst 0, 1) := by decide +kernel
theorem dX12_tow_21 : decode cX12_tow 21 = .ok (.bipush 20, 2) := by decide +kernel
theorem dX12_tow_23 : decode cX12_tow 23 = .ok (.invokestatic 41, 3) := by decide +kernel
theorem dX12_tow_26 : decode cX12_tow 26 = .ok (.ifCond .ne 10, 3) := by decide +kernel
theorem dX12_tow_29 : decode cX12_tow 29 = .ok (.aload_n 0, 1) := by decide +kernel
theorem dX12_tow_30 : decode cX12_tow 30 = .ok (.ldc 45, 2) := by decide +kernel
theorem dX12_tow_32 : decode cX12_tow 32 = .ok (.invokevirtual 46, 3) := by decide +kernel
theorem dX12_tow_35 : decode cX12_tow 35 = .ok (.ireturn, 1) := by decide +kernel
theorem dX12_tow_36 : decode cX12_tow 36 = .ok (.aload_n 0, 1) := by decide +kernel
theorem dX12_tow_37 : decode cX12_tow 37 = .ok (.iload_n 1, 1) := by decide +kernel
theorem dX12_tow_38 : decode cX12_tow 38 = .ok (.iload_n 2, 1) := by decide +kernel
theorem dX12_tow_39 : decode cX12_tow 39 = .ok (.iload_n 3, 1) := by decide +kernel
theorem dX12_tow_40 : decode cX12_tow 40 = .ok (.iconst (-1), 1) := by decide +kernel
theorem dX12_tow_41 : decode cX12_tow 41 = .ok (.iconst (-1), 1) := by decide +kernel
theorem dX12_tow_42 : decode cX12_tow 42 = .ok (.invokevirtual 193, 3) := by decide +kernel
theorem dX12_tow_45 : decode cX12_tow 45 = .ok (.ifCond .eq 5, 3) := by decide +kernel
theorem dX12_tow_48 : decode cX12_tow 48 = .ok (.iconst 0, 1) := by decide +kernel
theorem dX12_tow_49 : decode cX12_tow 49 = .ok (.ireturn, 1) := by decide +kernel
theorem dX12_tow_50 : decode cX12_tow 50 = .ok (.aload_n 0, 1) := by decide +kernel
theorem dX12_tow_51 : decode cX12_tow 51 = .ok (.invokevirtual 197, 3) := by decide +kernel
theorem dX12_tow_54 : decode cX12_tow 54 = .ok (.istore 4, 2) := by decide +kernel
theorem dX12_tow_56 : decode cX12_tow 56 = .ok (.iconst (-1), 1) := by decide +kernel
theorem dX12_tow_57 : decode cX12_tow 57 = .ok (.istore 5, 2) := by decide +kernel
theorem dX12_tow_59 : decode cX12_tow 59 = .ok (.iconst (-1), 1) := by decide +kernel
theorem dX12_tow_60 : decode cX12_tow 60 = .ok (.istore 6, 2) := by decide +kernel
theorem dX12_tow_62 : decode cX12_tow 62 = .ok (.aload_n 0, 1) := by decide +kernel
theorem dX12_tow_63 : decode cX12_tow 63 = .ok (.getfield 7, 3) := by decide +kernel
theorem dX12_tow_66 : decode cX12_tow 66 = .ok (.iconst 2, 1) := by decide +kernel
theorem dX12_tow_67 : decode cX12_tow 67 = .ok (.iaload, 1) := by decide +kernel
theorem dX12_tow_68 : decode cX12_tow 68 = .ok (.iconst 1, 1) := by decide +kernel
theorem dX12_tow_69 : decode cX12_tow 69 = .ok (.isub, 1) := by decide +kernel
theorem dX12_tow_70 : decode cX12_tow 70 = .ok (.istore 7, 2) := by decide +kernel
theorem dX12_tow_72 : decode cX12_tow 72 = .ok (.iload 7, 2) := by decide +kernel
theorem dX12_tow_74 : decode cX12_tow 74 = .ok (.ifCond .lt 130, 3) := by decide +kernel
theorem dX12_tow_77 : decode cX12_tow 77 = .ok (.iload 7, 2) := by decide +kernel
theorem dX12_tow_79 : decode cX12_tow 79 = .ok (.istore 8, 2) := by decide +kernel
theorem dX12_tow_81 : decode cX12_tow 81 = .ok (.iload 8, 2) := by decide +kernel
theorem dX12_tow_83 : decode cX12_tow 83 = .ok (.ifCond .lt 115, 3) := by decide +kernel
theorem dX12_tow_86 : decode cX12_tow 86 = .ok (.iload 4, 2) := by decide +kernel
theorem dX12_tow_88 : decode cX12_tow 88 = .ok (.iload 7, 2) := by decide +kernel
theorem dX12_tow_90 : decode cX12_tow 90 = .ok (.ishr, 1) := by decide +kernel
theorem dX12_tow_91 : decode cX12_tow 91 = .ok (.iconst 1, 1) := by decide +kernel
theorem dX12_tow_92 : decode cX12_tow 92 = .ok (.iand, 1) := by decide +kernel
theorem dX12_tow_93 : decode cX12_tow 93 = .ok (.iconst 1, 1) := by decide +kernel
theorem dX12_tow_94 : decode cX12_tow 94 = .ok (.if_icmp .ne 44, 3) := by decide +kernel
theorem dX12_tow_97 : decode cX12_tow 97 = .ok (.iload 4, 2) := by decide +kernel
theorem dX12_tow_99 : decode cX12_tow 99 = .ok (.iload 8, 2) := by decide +kernel
theorem dX12_tow_101 : decode cX12_tow 101 = .ok (.ishr, 1) := by decide +kernel
theorem dX12_tow_102 : decode cX12_tow 102 = .ok (.iconst 1, 1) := by decide +kernel
theorem dX12_tow_103 : decode cX12_tow 103 = .ok (.iand, 1) := by decide +kernel
theorem dX12_tow_104 : decode cX12_tow 104 = .ok (.iconst 1, 1) := by decide +kernel
theorem dX12_tow_105 : decode cX12_tow 105 = .ok (.if_icmp .ne 33, 3) := by decide +kernel
theorem dX12_tow_108 : decode cX12_tow 108 = .ok (.iload 7, 2) := by decide +kernel
theorem dX12_tow_110 : decode cX12_tow 110 = .ok (.iload 8, 2) := by decide +kernel
theorem dX12_tow_112 : decode cX12_tow 112 = .ok (.if_icmp .eq 8, 3) := by decide +kernel
theorem dX12_tow_115 : decode cX12_tow 115 = .ok (.iload 5, 2) := by decide +kernel
theorem dX12_tow_117 : decode cX12_tow 117 = .ok (.ifCond .ge 21, 3) := by decide +kernel
theorem dX12_tow_120 : decode cX12_tow 120 = .ok (.aload_n 0, 1) := by decide +kernel
theorem dX12_tow_121 : decode cX12_tow 121 = .ok (.iload_n 1, 1) := by decide +kernel
theorem dX12_tow_122 : decode cX12_tow 122 = .ok (.iload_n 2, 1) := by decide +kernel
theorem dX12_tow_123 : decode cX12_tow 123 = .ok (.iload_n 3, 1) := by decide +kernel
theorem dX12_tow_124 : decode cX12_tow 124 = .ok (.iload 7, 2) := by decide +kernel
theorem dX12_tow_126 : decode cX12_tow 126 = .ok (.iload 8, 2) := by decide +kernel
theorem dX12_tow_128 : decode cX12_tow 128 = .ok (.invokevirtual 193, 3) := by decide +kernel
theorem dX12_tow_131 : decode cX12_tow 131 = .ok (.ifCond .eq 7, 3) := by decide +kernel
theorem dX12_tow_134 : decode cX12_tow 134 = .ok (.iconst 1, 1) := by decide +kernel
theorem dX12_tow_135 : decode cX12_tow 135 = .ok (.goto 4, 3) := by decide +kernel
theorem dX12_tow_138 : decode cX12_tow 138 = .ok (.iconst 0, 1) := by decide +kernel
theorem dX12_tow_139 : decode cX12_tow 139 = .ok (.istore 9, 2) := by decide +kernel
theorem dX12_tow_141 : decode cX12_tow 141 = .ok (.iload 9, 2) := by decide +kernel
theorem dX12_tow_143 : decode cX12_tow 143 = .ok (.ifCond .eq 17, 3) := by decide +kernel
theorem dX12_tow_146 : decode cX12_tow 146 = .ok (.iload 7, 2) := by decide +kernel
theorem dX12_tow_148 : decode cX12_tow 148 = .ok (.iload 8, 2) := by decide +kernel
theorem dX12_tow_150 : decode cX12_tow 150 = .ok (.if_icmp .ne 10, 3) := by decide +kernel
theorem dX12_tow_153 : decode cX12_tow 153 = .ok (.iconst 1, 1) := by decide +kernel
theorem dX12_tow_154 : decode cX12_tow 154 = .ok (.iload 7, 2) := by decide +kernel
theorem dX12_tow_156 : decode cX12_tow 156 = .ok (.ishl, 1) := by decide +kernel
theorem dX12_tow_157 : decode cX12_tow 157 = .ok (.goto 5, 3) := by decide +kernel
theorem dX12_tow_160 : decode cX12_tow 160 = .ok (.iload 5, 2) := by decide +kernel
theorem dX12_tow_162 : decode cX12_tow 162 = .ok (.istore 5, 2) := by decide +kernel
theorem dX12_tow_164 : decode cX12_tow 164 = .ok (.iload 9, 2) := by decide +kernel
theorem dX12_tow_166 : decode cX12_tow 166 = .ok (.ifCond .eq 22, 3) := by decide +kernel
theorem dX12_tow_169 : decode cX12_tow 169 = .ok (.iload 7, 2) := by decide +kernel
theorem dX12_tow_171 : decode cX12_tow 171 = .ok (.iload 8, 2) := by decide +kernel
theorem dX12_tow_173 : decode cX12_tow 173 = .ok (.if_icmp .eq 15, 3) := by decide +kernel
theorem dX12_tow_176 : decode cX12_tow 176 = .ok (.iconst 1, 1) := by decide +kernel
theorem dX12_tow_177 : decode cX12_tow 177 = .ok (.iload 7, 2) := by decide +kernel
theorem dX12_tow_179 : decode cX12_tow 179 = .ok (.ishl, 1) := by decide +kernel
theorem dX12_tow_180 : decode cX12_tow 180 = .ok (.iconst 1, 1) := by decide +kernel
theorem dX12_tow_181 : decode cX12_tow 181 = .ok (.iload 8, 2) := by decide +kernel
theorem dX12_tow_183 : decode cX12_tow 183 = .ok (.ishl, 1) := by decide +kernel
theorem dX12_tow_184 : decode cX12_tow 184 = .ok (.ior, 1) := by decide +kernel
theorem dX12_tow_185 : decode cX12_tow 185 = .ok (.goto 5, 3) := by decide +kernel
