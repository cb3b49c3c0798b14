theorem dX9_seen_9 : decode cX9_seen 9 = .ok (.invokestatic 154, 3) := by decide +kernel
theorem dX9_seen_12 : decode cX9_seen 12 = .ok (.ifCond .eq 14, 3) := by decide +kernel
theorem dX9_seen_15 : decode cX9_seen 15 = .ok (.iload 4, 2) := by decide +kernel
theorem dX9_seen_17 : decode cX9_seen 17 = .ok (.iconst 0, 1) := by decide +kernel
theorem dX9_seen_18 : decode cX9_seen 18 = .ok (.bipush 8, 2) := by decide +kernel
theorem dX9_seen_20 : decode cX9_seen 20 = .ok (.invokestatic 107, 3) := by decide +kernel
theorem dX9_seen_23 : decode cX9_seen 23 = .ok (.ifCond .ne 6, 3) := by decide +kernel
theorem dX9_seen_26 : decode cX9_seen 26 = .ok (.bipush (-2), 2) := by decide +kernel
theorem dX9_seen_28 : decode cX9_seen 28 = .ok (.ireturn, 1) := by decide +kernel
theorem dX9_seen_29 : decode cX9_seen 29 = .ok (.aload_n 0, 1) := by decide +kernel
theorem dX9_seen_30 : decode cX9_seen 30 = .ok (.getfield 305, 3) := by decide +kernel
theorem dX9_seen_33 : decode cX9_seen 33 = .ok (.bipush 8, 2) := by decide +kernel
theorem dX9_seen_35 : decode cX9_seen 35 = .ok (.if_icmp .ne 6, 3) := by decide +kernel
theorem dX9_seen_38 : decode cX9_seen 38 = .ok (.bipush (-4), 2) := by decide +kernel
theorem dX9_seen_40 : decode cX9_seen 40 = .ok (.ireturn, 1) := by decide +kernel
theorem dX9_seen_41 : decode cX9_seen 41 = .ok (.aload_n 0, 1) := by decide +kernel
theorem dX9_seen_42 : decode cX9_seen 42 = .ok (.getfield 74, 3) := by decide +kernel
theorem dX9_seen_45 : decode cX9_seen 45 = .ok (.aload_n 0, 1) := by decide +kernel
theorem dX9_seen_46 : decode cX9_seen 46 = .ok (.getfield 305, 3) := by decide +kernel
theorem dX9_seen_49 : decode cX9_seen 49 = .ok (.iload_n 1, 1) := by decide +kernel
theorem dX9_seen_50 : decode cX9_seen 50 = .ok (.iastore, 1) := by decide +kernel
theorem dX9_seen_51 : decode cX9_seen 51 = .ok (.aload_n 0, 1) := by decide +kernel
theorem dX9_seen_52 : decode cX9_seen 52 = .ok (.getfield 77, 3) := by decide +kernel
theorem dX9_seen_55 : decode cX9_seen 55 = .ok (.aload_n 0, 1) := by decide +kernel
theorem dX9_seen_56 : decode cX9_seen 56 = .ok (.getfield 305, 3) := by decide +kernel
theorem dX9_seen_59 : decode cX9_seen 59 = .ok (.bipush 8, 2) := by decide +kernel
theorem dX9_seen_61 : decode cX9_seen 61 = .ok (.iload_n 2, 1) := by decide +kernel
theorem dX9_seen_62 : decode cX9_seen 62 = .ok (.imul, 1) := by decide +kernel
theorem dX9_seen_63 : decode cX9_seen 63 = .ok (.iload_n 3, 1) := by decide +kernel
theorem dX9_seen_64 : decode cX9_seen 64 = .ok (.iadd, 1) := by decide +kernel
theorem dX9_seen_65 : decode cX9_seen 65 = .ok (.iastore, 1) := by decide +kernel
theorem dX9_seen_66 : decode cX9_seen 66 = .ok (.aload_n 0, 1) := by decide +kernel
theorem dX9_seen_67 : decode cX9_seen 67 = .ok (.getfield 80, 3) := by decide +kernel
theorem dX9_seen_70 : decode cX9_seen 70 = .ok (.aload_n 0, 1) := by decide +kernel
theorem dX9_seen_71 : decode cX9_seen 71 = .ok (.getfield 305, 3) := by decide +kernel
theorem dX9_seen_74 : decode cX9_seen 74 = .ok (.iload 4, 2) := by decide +kernel
theorem dX9_seen_76 : decode cX9_seen 76 = .ok (.iastore, 1) := by decide +kernel
theorem dX9_seen_77 : decode cX9_seen 77 = .ok (.aload_n 0, 1) := by decide +kernel
theorem dX9_seen_78 : decode cX9_seen 78 = .ok (.dup, 1) := by decide +kernel
theorem dX9_seen_79 : decode cX9_seen 79 = .ok (.getfield 305, 3) := by decide +kernel
theorem dX9_seen_82 : decode cX9_seen 82 = .ok (.iconst 1, 1) := by decide +kernel
theorem dX9_seen_83 : decode cX9_seen 83 = .ok (.iadd, 1) := by decide +kernel
theorem dX9_seen_84 : decode cX9_seen 84 = .ok (.putfield 305, 3) := by decide +kernel
theorem dX9_seen_87 : decode cX9_seen 87 = .ok (.aload_n 0, 1) := by decide +kernel
theorem dX9_seen_88 : decode cX9_seen 88 = .ok (.getfield 305, 3) := by decide +kernel
theorem dX9_seen_91 : decode cX9_seen 91 = .ok (.ireturn, 1) := by decide +kernel
theorem dX9_forget_0 : decode cX9_forget 0 = .ok (.aload_n 0, 1) := by decide +kernel
theorem dX9_forget_1 : decode cX9_forget 1 = .ok (.getfield 305, 3) := by decide +kernel
theorem dX9_forget_4 : decode cX9_forget 4 = .ok (.istore_n 1, 1) := by decide +kernel
theorem dX9_forget_5 : decode cX9_forget 5 = .ok (.aload_n 0, 1) := by decide +kernel
theorem dX9_forget_6 : decode cX9_forget 6 = .ok (.iconst 0, 1) := by decide +kernel
theorem dX9_forget_7 : decode cX9_forget 7 = .ok (.putfield 305, 3) := by decide +kernel
theorem dX9_forget_10 : decode cX9_forget 10 = .ok (.iload_n 1, 1) := by decide +kernel
theorem dX9_forget_11 : decode cX9_forget 11 = .ok (.ireturn, 1) := by decide +kernel
theorem dX9_isSeen_0 : decode cX9_isSeen 0 = .ok (.aload_n 0, 1) := by decide +kernel
theorem dX9_isSeen_1 : decode cX9_isSeen 1 = .ok (.invokevirtual 259, 3) := by decide +kernel
theorem dX9_isSeen_4 : decode cX9_isSeen 4 = .ok (.iconst 1, 1) := by decide +kernel
theorem dX9_isSeen_5 : decode cX9_isSeen 5 = .ok (.istore_n 1, 1) := by decide +kernel
theorem dX9_isSeen_6 : decode cX9_isSeen 6 = .ok (.iconst 0, 1) := by decide +kernel
theorem dX9_isSeen_7 : decode cX9_isSeen 7 = .ok (.istore_n 2, 1) := by decide +kernel
theorem dX9_isSeen_8 : decode cX9_isSeen 8 = .ok (.iload_n 2, 1) := by decide +kernel
theorem dX9_isSeen_9 : decode cX9_isSeen 9 = .ok (.aload_n 0, 1) := by decide +kernel
theorem dX9_isSeen_10 : decode cX9_isSeen 10 = .ok (.getfield 305, 3) := by decide +kernel
theorem dX9_isSeen_13 : decode cX9_isSeen 13 = .ok (.if_icmp .ge 61, 3) := by decide +kernel
theorem dX9_isSeen_16 : decode cX9_isSeen 16 = .ok (.iload_n 1, 1) := by decide +kernel
theorem dX9_isSeen_17 : decode cX9_isSeen 17 = .ok (.ifCond .eq 57, 3) := by decide +kernel
theorem dX9_isSeen_20 : decode cX9_isSeen 20 = .ok (.aload_n 0, 1) := by decide +kernel
theorem dX9_isSeen_21 : decode cX9_isSeen 21 = .ok (.getfield 55, 3) := by decide +kernel
theorem dX9_isSeen_24 : decode cX9_isSeen 24 = .ok (.bipush 40, 2) := by decide +kernel
theorem dX9_isSeen_26 : decode cX9_isSeen 26 = .ok (.aload_n 0, 1) := by decide +kernel
theorem dX9_isSeen_27 : decode cX9_isSeen 27 = .ok (.getfield 74, 3) := by decide +kernel
theorem dX9_isSeen_30 : decode cX9_isSeen 30 = .ok (.iload_n 2, 1) := by decide +kernel
theorem dX9_isSeen_31 : decode cX9_isSeen 31 = .ok (.iaload, 1) := by decide +kernel
theorem dX9_isSeen_32 : decode cX9_isSeen 32 = .ok (.imul, 1) := by decide +kernel
theorem dX9_isSeen_33 : decode cX9_isSeen 33 = .ok (.aload_n 0, 1) := by decide +kernel
theorem dX9_isSeen_34 : decode cX9_isSeen 34 = .ok (.getfield 77, 3) := by decide +kernel
theorem dX9_isSeen_37 : decode cX9_isSeen 37 = .ok (.iload_n 2, 1) := by decide +kernel
theorem dX9_isSeen_38 : decode cX9_isSeen 38 = .ok (.iaload, 1) := by decide +kernel
theorem dX9_isSeen_39 : decode cX9_isSeen 39 = .ok (.iadd, 1) := by decide +kernel
theorem dX9_isSeen_40 : decode cX9_isSeen 40 = .ok (.iaload, 1) := by decide +kernel
theorem dX9_isSeen_41 : decode cX9_isSeen 41 = .ok (.istore_n 3, 1) := by decide +kernel
theorem dX9_isSeen_42 : decode cX9_isSeen 42 = .ok (.iload_n 3, 1) := by decide +kernel
theorem dX9_isSeen_43 : decode cX9_isSeen 43 = .ok (.iconst (-1), 1) := by decide +kernel
theorem dX9_isSeen_44 : decode cX9_isSeen 44 = .ok (.if_icmp .ne 8, 3) := by decide +kernel
theorem dX9_isSeen_47 : decode cX9_isSeen 47 = .ok (.bipush 8, 2) := by decide +kernel
theorem dX9_isSeen_49 : decode cX9_isSeen 49 = .ok (.goto 4, 3) := by decide +kernel
theorem dX9_isSeen_52 : decode cX9_isSeen 52 = .ok (.iload_n 3, 1) := by decide +kernel
theorem dX9_isSeen_53 : decode cX9_isSeen 53 = .ok (.aload_n 0, 1) := by decide +kernel
theorem dX9_isSeen_54 : decode cX9_isSeen 54 = .ok (.getfield 80, 3) := by decide +kernel
theorem dX9_isSeen_57 : decode cX9_isSeen 57 = .ok (.iload_n 2, 1) := by decide +kernel
theorem dX9_isSeen_58 : decode cX9_isSeen 58 = .ok (.iaload, 1) := by decide +kernel
theorem dX9_isSeen_59 : decode cX9_isSeen 59 = .ok (.if_icmp .ne 7, 3) := by decide +kernel
theorem dX9_isSeen_62 : decode cX9_isSeen 62 = .ok (.iconst 1, 1) := by decide +kernel
theorem dX9_isSeen_63 : decode cX9_isSeen 63 = .ok (.goto 4, 3) := by decide +kernel
theorem dX9_isSeen_66 : decode cX9_isSeen 66 = .ok (.iconst 0, 1) := by decide +kernel
theorem dX9_isSeen_67 : decode cX9_isSeen 67 = .ok (.istore_n 1, 1) := by decide +kernel
theorem dX9_isSeen_68 : decode cX9_isSeen 68 = .ok (.iinc 2 1, 3) := by decide +kernel
theorem dX9_isSeen_71 : decode cX9_isSeen 71 = .ok (.goto (-63), 3) := by decide +kernel
theorem dX9_isSeen_74 : decode cX9_isSeen 74 = .ok (.iload_n 1, 1) := by decide +kernel
theorem dX9_isSeen_75 : decode cX9_isSeen 75 = .ok (.ireturn, 1) := by decide +kernel
theorem dX9_neverNow_0 : decode cX9_neverNow 0 = .ok (.aload_n 0, 1) := by decide +kernel
theorem dX9_neverNow_1 : decode cX9_neverNow 1 = .ok (.invokevirtual 256, 3) := by decide +kernel
theorem dX9_neverNow_4 : decode cX9_neverNow 4 = .ok (.iconst 0, 1) := by decide +kernel
theorem dX9_neverNow_5 : decode cX9_neverNow 5 = .ok (.istore_n 1, 1) := by decide +kernel
theorem dX9_neverNow_6 : decode cX9_neverNow 6 = .ok (.iconst 0, 1) := by decide +kernel
theorem dX9_neverNow_7 : decode cX9_neverNow 7 = .ok (.istore_n 2, 1) := by decide +kernel
theorem dX9_neverNow_8 : decode cX9_neverNow 8 = .ok (.iload_n 2, 1) := by decide +kernel
theorem dX9_neverNow_9 : decode cX9_neverNow 9 = .ok (.aload_n 0, 1) := by decide +kernel
theorem dX9_neverNow_10 : decode cX9_neverNow 10 = .ok (.getfield 170, 3) := by decide +kernel
theorem dX9_neverNow_13 : decode cX9_neverNow 13 = .ok (.if_icmp .ge 33, 3) := by decide +kernel
theorem dX9_neverNow_16 : decode cX9_neverNow 16 = .ok (.aload_n 0, 1) := by decide +kernel
theorem dX9_neverNow_17 : decode cX9_neverNow 17 = .ok (.iconst 1, 1) := by decide +kernel
theorem dX9_neverNow_18 : decode cX9_neverNow 18 = .ok (.iload_n 2, 1) := by decide +kernel
theorem dX9_neverNow_19 : decode cX9_neverNow 19 = .ok (.ishl, 1) := by decide +kernel
theorem dX9_neverNow_20 : decode cX9_neverNow 20 = .ok (.putfield 188, 3) := by decide +kernel
theorem dX9_neverNow_23 : decode cX9_neverNow 23 = .ok (.iload_n 1, 1) := by decide +kernel
theorem dX9_neverNow_24 : decode cX9_neverNow 24 = .ok (.aload_n 0, 1) := by decide +kernel
theorem dX9_neverNow_25 : decode cX9_neverNow 25 = .ok (.invokevirtual 308, 3) := by decide +kernel
theorem dX9_neverNow_28 : decode cX9_neverNow 28 = .ok (.ifCond .eq 9, 3) := by decide +kernel
theorem dX9_neverNow_31 : decode cX9_neverNow 31 = .ok (.iconst 1, 1) := by decide +kernel
theorem dX9_neverNow_32 : decode cX9_neverNow 32 = .ok (.iload_n 2, 1) := by decide +kernel
theorem dX9_neverNow_33 : decode cX9_neverNow 33 = .ok (.ishl, 1) := by decide +kernel
theorem dX9_neverNow_34 : decode cX9_neverNow 34 = .ok (.goto 4, 3) := by decide +kernel
theorem dX9_neverNow_37 : decode cX9_neverNow 37 = .ok (.iconst 0, 1) := by decide +kernel
theorem dX9_neverNow_38 : decode cX9_neverNow 38 = .ok (.ior, 1) := by decide +kernel
theorem dX9_neverNow_39 : decode cX9_neverNow 39 = .ok (.istore_n 1, 1) := by decide +kernel
theorem dX9_neverNow_40 : decode cX9_neverNow 40 = .ok (.iinc 2 1, 3) := by decide +kernel
theorem dX9_neverNow_43 : decode cX9_neverNow 43 = .ok (.goto (-35), 3) := by decide +kernel
theorem dX9_neverNow_46 : decode cX9_neverNow 46 = .ok (.iload_n 1, 1) := by decide +kernel
theorem dX9_neverNow_47 : decode cX9_neverNow 47 = .ok (.ireturn, 1) := by decide +kernel
theorem dX9_never_0 : decode cX9_never 0 = .ok (.aload_n 0, 1) := by decide +kernel
theorem dX9_never_1 : decode cX9_never 1 = .ok (.invokevirtual 312, 3) := by decide +kernel
theorem dX9_never_4 : decode cX9_never 4 = .ok (.ireturn, 1) := by decide +kernel
theorem dX9_strongBy_0 : decode cX9_strongBy 0 = .ok (.aload_n 0, 1) := by decide +kernel
theorem dX9_strongBy_1 : decode cX9_strongBy 1 = .ok (.invokevirtual 256, 3) := by decide +kernel
theorem dX9_strongBy_4 : decode cX9_strongBy 4 = .ok (.aload_n 0, 1) := by decide +kernel
theorem dX9_strongBy_5 : decode cX9_strongBy 5 = .ok (.getfield 22, 3) := by decide +kernel
theorem dX9_strongBy_8 : decode cX9_strongBy 8 = .ok (.iload_n 1, 1) := by decide +kernel
theorem dX9_strongBy_9 : decode cX9_strongBy 9 = .ok (.iaload, 1) := by decide +kernel
theorem dX9_strongBy_10 : decode cX9_strongBy 10 = .ok (.istore_n 2, 1) := by decide +kernel
theorem dX9_strongBy_11 : decode cX9_strongBy 11 = .ok (.iconst 0, 1) := by decide +kernel
theorem dX9_strongBy_12 : decode cX9_strongBy 12 = .ok (.istore_n 3, 1) := by decide +kernel
theorem dX9_strongBy_13 : decode cX9_strongBy 13 = .ok (.iconst 1, 1) := by decide +kernel
theorem dX9_strongBy_14 : decode cX9_strongBy 14 = .ok (.istore 4, 2) := by decide +kernel
theorem dX9_strongBy_16 : decode cX9_strongBy 16 = .ok (.iload 4, 2) := by decide +kernel
theorem dX9_strongBy_18 : decode cX9_strongBy 18 = .ok (.bipush 10, 2) := by decide +kernel
theorem dX9_strongBy_20 : decode cX9_strongBy 20 = .ok (.if_icmp .ge 71, 3) := by decide +kernel
theorem dX9_strongBy_23 : decode cX9_strongBy 23 = .ok (.aload_n 0, 1) := by decide +kernel
theorem dX9_strongBy_24 : decode cX9_strongBy 24 = .ok (.getfield 22, 3) := by decide +kernel
theorem dX9_strongBy_27 : decode cX9_strongBy 27 = .ok (.iload_n 1, 1) := by decide +kernel
theorem dX9_strongBy_28 : decode cX9_strongBy 28 = .ok (.iload 4, 2) := by decide +kernel
theorem dX9_strongBy_30 : decode cX9_strongBy 30 = .ok (.iastore, 1) := by decide +kernel
theorem dX9_strongBy_31 : decode cX9_strongBy 31 = .ok (.iload_n 3, 1) := by decide +kernel
theorem dX9_strongBy_32 : decode cX9_strongBy 32 = .ok (.aload_n 0, 1) := by decide +kernel
theorem dX9_strongBy_33 : decode cX9_strongBy 33 = .ok (.invokevirtual 308, 3) := by decide +kernel
theorem dX9_strongBy_36 : decode cX9_strongBy 36 = .ok (.ifCond .eq 10, 3) := by decide +kernel
theorem dX9_strongBy_39 : decode cX9_strongBy 39 = .ok (.iconst 1, 1) := by decide +kernel
theorem dX9_strongBy_40 : decode cX9_strongBy 40 = .ok (.iload 4, 2) := by decide +kernel
theorem dX9_strongBy_42 : decode cX9_strongBy 42 = .ok (.ishl, 1) := by decide +kernel
theorem dX9_strongBy_43 : decode cX9_strongBy 43 = .ok (.goto 4, 3) := by decide +kernel
theorem dX9_strongBy_46 : decode cX9_strongBy 46 = .ok (.iconst 0, 1) := by decide +kernel
theorem dX9_strongBy_47 : decode cX9_strongBy 47 = .ok (.ior, 1) := by decide +kernel
theorem dX9_strongBy_48 : decode cX9_strongBy 48 = .ok (.istore_n 3, 1) := by decide +kernel
theorem dX9_strongBy_49 : decode cX9_strongBy 49 = .ok (.iconst 0, 1) := by decide +kernel
theorem dX9_strongBy_50 : decode cX9_strongBy 50 = .ok (.istore 5, 2) := by decide +kernel
theorem dX9_strongBy_52 : decode cX9_strongBy 52 = .ok (.iload 5, 2) := by decide +kernel
theorem dX9_strongBy_54 : decode cX9_strongBy 54 = .ok (.bipush 20, 2) := by decide +kernel
theorem dX9_strongBy_56 : decode cX9_strongBy 56 = .ok (.if_icmp .ge 29, 3) := by decide +kernel
theorem dX9_strongBy_59 : decode cX9_strongBy 59 = .ok (.aload_n 0, 1) := by decide +kernel
theorem dX9_strongBy_60 : decode cX9_strongBy 60 = .ok (.getfield 83, 3) := by decide +kernel
theorem dX9_strongBy_63 : decode cX9_strongBy 63 = .ok (.bipush 20, 2) := by decide +kernel
theorem dX9_strongBy_65 : decode cX9_strongBy 65 = .ok (.iload 4, 2) := by decide +kernel
theorem dX9_strongBy_67 : decode cX9_strongBy 67 = .ok (.imul, 1) := by decide +kernel
theorem dX9_strongBy_68 : decode cX9_strongBy 68 = .ok (.iload 5, 2) := by decide +kernel
theorem dX9_strongBy_70 : decode cX9_strongBy 70 = .ok (.iadd, 1) := by decide +kernel
theorem dX9_strongBy_71 : decode cX9_strongBy 71 = .ok (.aload_n 0, 1) := by decide +kernel
theorem dX9_strongBy_72 : decode cX9_strongBy 72 = .ok (.getfield 64, 3) := by decide +kernel
theorem dX9_strongBy_75 : decode cX9_strongBy 75 = .ok (.iload 5, 2) := by decide +kernel
theorem dX9_strongBy_77 : decode cX9_strongBy 77 = .ok (.iaload, 1) := by decide +kernel
theorem dX9_strongBy_78 : decode cX9_strongBy 78 = .ok (.iastore, 1) := by decide +kernel
theorem dX9_strongBy_79 : decode cX9_strongBy 79 = .ok (.iinc 5 1, 3) := by decide +kernel
theorem dX9_strongBy_82 : decode cX9_strongBy 82 = .ok (.goto (-30), 3) := by decide +kernel
theorem dX9_strongBy_85 : decode cX9_strongBy 85 = .ok (.iinc 4 1, 3) := by decide +kernel
theorem dX9_strongBy_88 : decode cX9_strongBy 88 = .ok (.goto (-72), 3) := by decide +kernel
theorem dX9_strongBy_91 : decode cX9_strongBy 91 = .ok (.aload_n 0, 1) := by decide +kernel
theorem dX9_strongBy_92 : decode cX9_strongBy 92 = .ok (.getfield 22, 3) := by decide +kernel
theorem dX9_strongBy_95 : decode cX9_strongBy 95 = .ok (.iload_n 1, 1) := by decide +kernel
theorem dX9_strongBy_96 : decode cX9_strongBy 96 = .ok (.iload_n 2, 1) := by decide +kernel
theorem dX9_strongBy_97 : decode cX9_strongBy 97 = .ok (.iastore, 1) := by decide +kernel
theorem dX9_strongBy_98 : decode cX9_strongBy 98 = .ok (.iload_n 3, 1) := by decide +kernel
theorem dX9_strongBy_99 : decode cX9_strongBy 99 = .ok (.ireturn, 1) := by decide +kernel
theorem dX9_moodBy_0 : decode cX9_moodBy 0 = .ok (.aload_n 0, 1) := by decide +kernel
theorem dX9_moodBy_1 : decode cX9_moodBy 1 = .ok (.invokevirtual 256, 3) := by decide +kernel
theorem dX9_moodBy_4 : decode cX9_moodBy 4 = .ok (.aload_n 0, 1) := by decide +kernel
theorem dX9_moodBy_5 : decode cX9_moodBy 5 = .ok (.getfield 19, 3) := by decide +kernel
theorem dX9_moodBy_8 : decode cX9_moodBy 8 = .ok (.iload_n 1, 1) := by decide +kernel
theorem dX9_moodBy_9 : decode cX9_moodBy 9 = .ok (.iaload, 1) := by decide +kernel
theorem dX9_moodBy_10 : decode cX9_moodBy 10 = .ok (.istore_n 2, 1) := by decide +kernel
theorem dX9_moodBy_11 : decode cX9_moodBy 11 = .ok (.iconst 0, 1) := by decide +kernel
theorem dX9_moodBy_12 : decode cX9_moodBy 12 = .ok (.istore_n 3, 1) := by decide +kernel
theorem dX9_moodBy_13 : decode cX9_moodBy 13 = .ok (.iconst 0, 1) := by decide +kernel
theorem dX9_moodBy_14 : decode cX9_moodBy 14 = .ok (.istore 4, 2) := by decide +kernel
theorem dX9_moodBy_16 : decode cX9_moodBy 16 = .ok (.iload 4, 2) := by decide +kernel
theorem dX9_moodBy_18 : decode cX9_moodBy 18 = .ok (.iconst 4, 1) := by decide +kernel
theorem dX9_moodBy_19 : decode cX9_moodBy 19 = .ok (.if_icmp .ge 35, 3) := by decide +kernel
theorem dX9_moodBy_22 : decode cX9_moodBy 22 = .ok (.aload_n 0, 1) := by decide +kernel
theorem dX9_moodBy_23 : decode cX9_moodBy 23 = .ok (.getfield 19, 3) := by decide +kernel
theorem dX9_moodBy_26 : decode cX9_moodBy 26 = .ok (.iload_n 1, 1) := by decide +kernel
theorem dX9_moodBy_27 : decode cX9_moodBy 27 = .ok (.iload 4, 2) := by decide +kernel
theorem dX9_moodBy_29 : decode cX9_moodBy 29 = .ok (.iastore, 1) := by decide +kernel
theorem dX9_moodBy_30 : decode cX9_moodBy 30 = .ok (.iload_n 3, 1) := by decide +kernel
theorem dX9_moodBy_31 : decode cX9_moodBy 31 = .ok (.aload_n 0, 1) := by decide +kernel
theorem dX9_moodBy_32 : decode cX9_moodBy 32 = .ok (.invokevirtual 308, 3) := by decide +kernel
theorem dX9_moodBy_35 : decode cX9_moodBy 35 = .ok (.ifCond .eq 10, 3) := by decide +kernel
theorem dX9_moodBy_38 : decode cX9_moodBy 38 = .ok (.iconst 1, 1) := by decide +kernel
theorem dX9_moodBy_39 : decode cX9_moodBy 39 = .ok (.iload 4, 2) := by decide +kernel
theorem dX9_moodBy_41 : decode cX9_moodBy 41 = .ok (.ishl, 1) := by decide +kernel
theorem dX9_moodBy_42 : decode cX9_moodBy 42 = .ok (.goto 4, 3) := by decide +kernel
theorem dX9_moodBy_45 : decode cX9_moodBy 45 = .ok (.iconst 0, 1) := by decide +kernel
theorem dX9_moodBy_46 : decode cX9_moodBy 46 = .ok (.ior, 1) := by decide +kernel
theorem dX9_moodBy_47 : decode cX9_moodBy 47 = .ok (.istore_n 3, 1) := by decide +kernel
theorem dX9_moodBy_48 : decode cX9_moodBy 48 = .ok (.iinc 4 1, 3) := by decide +kernel
theorem dX9_moodBy_51 : decode cX9_moodBy 51 = .ok (.goto (-35), 3) := by decide +kernel
theorem dX9_moodBy_54 : decode cX9_moodBy 54 = .ok (.aload_n 0, 1) := by decide +kernel
theorem dX9_moodBy_55 : decode cX9_moodBy 55 = .ok (.getfield 19, 3) := by decide +kernel
theorem dX9_moodBy_58 : decode cX9_moodBy 58 = .ok (.iload_n 1, 1) := by decide +kernel
theorem dX9_moodBy_59 : decode cX9_moodBy 59 = .ok (.iload_n 2, 1) := by decide +kernel
theorem dX9_moodBy_60 : decode cX9_moodBy 60 = .ok (.iastore, 1) := by decide +kernel
theorem dX9_moodBy_61 : decode cX9_moodBy 61 = .ok (.iload_n 3, 1) := by decide +kernel
theorem dX9_moodBy_62 : decode cX9_moodBy 62 = .ok (.ireturn, 1) := by decide +kernel
theorem dX9_was_0 : decode cX9_was 0 = .ok (.aload_n 0, 1) := by decide +kernel
theorem dX9_was_1 : decode cX9_was 1 = .ok (.iload_n 1, 1) := by decide +kernel
theorem dX9_was_2 : decode cX9_was 2 = .ok (.invokevirtual 161, 3) := by decide +kernel
theorem dX9_was_5 : decode cX9_was 5 = .ok (.ifCond .eq 32, 3) := by decide +kernel
theorem dX9_was_8 : decode cX9_was 8 = .ok (.iload_n 2, 1) := by decide +kernel
theorem dX9_was_9 : decode cX9_was 9 = .ok (.iconst 0, 1) := by decide +kernel
theorem dX9_was_10 : decode cX9_was 10 = .ok (.iconst 1, 1) := by decide +kernel
theorem dX9_was_11 : decode cX9_was 11 = .ok (.invokestatic 107, 3) := by decide +kernel
theorem dX9_was_14 : decode cX9_was 14 = .ok (.ifCond .eq 23, 3) := by decide +kernel
theorem dX9_was_17 : decode cX9_was 17 = .ok (.iload_n 2, 1) := by decide +kernel
theorem dX9_was_18 : decode cX9_was 18 = .ok (.ifCond .ne 11, 3) := by decide +kernel
theorem dX9_was_21 : decode cX9_was 21 = .ok (.aload_n 0, 1) := by decide +kernel
theorem dX9_was_22 : decode cX9_was 22 = .ok (.iload_n 1, 1) := by decide +kernel
theorem dX9_was_23 : decode cX9_was 23 = .ok (.invokevirtual 315, 3) := by decide +kernel
theorem dX9_was_26 : decode cX9_was 26 = .ok (.goto 13, 3) := by decide +kernel
theorem dX9_was_29 : decode cX9_was 29 = .ok (.aload_n 0, 1) := by decide +kernel
theorem dX9_was_30 : decode cX9_was 30 = .ok (.iload_n 1, 1) := by decide +kernel
theorem dX9_was_31 : decode cX9_was 31 = .ok (.invokevirtual 318, 3) := by decide +kernel
theorem dX9_was_34 : decode cX9_was 34 = .ok (.goto 5, 3) := by decide +kernel
theorem dX9_was_37 : decode cX9_was 37 = .ok (.bipush (-2), 2) := by decide +kernel
theorem dX9_was_39 : decode cX9_was 39 = .ok (.ireturn, 1) := by decide +kernel
theorem dX9_askOf_0 : decode cX9_askOf 0 = .ok (.aload_n 0, 1) := by decide +kernel
theorem dX9_askOf_1 : decode cX9_askOf 1 = .ok (.iload_n 1, 1) := by decide +kernel
theorem dX9_askOf_2 : decode cX9_askOf 2 = .ok (.invokevirtual 315, 3) := by decide +kernel
theorem dX9_askOf_5 : decode cX9_askOf 5 = .ok (.istore_n 2, 1) := by decide +kernel
theorem dX9_askOf_6 : decode cX9_askOf 6 = .ok (.iconst (-1), 1) := by decide +kernel
theorem dX9_askOf_7 : decode cX9_askOf 7 = .ok (.istore_n 3, 1) := by decide +kernel
theorem dX9_askOf_8 : decode cX9_askOf 8 = .ok (.iconst 0, 1) := by decide +kernel
theorem dX9_askOf_9 : decode cX9_askOf 9 = .ok (.istore 4, 2) := by decide +kernel
theorem dX9_askOf_11 : decode cX9_askOf 11 = .ok (.iconst 0, 1) := by decide +kernel
theorem dX9_askOf_12 : decode cX9_askOf 12 = .ok (.istore 5, 2) := by decide +kernel
theorem dX9_askOf_14 : decode cX9_askOf 14 = .ok (.iload 5, 2) := by decide +kernel
theorem dX9_askOf_16 : decode cX9_askOf 16 = .ok (.bipush 20, 2) := by decide +kernel
theorem dX9_askOf_18 : decode cX9_askOf 18 = .ok (.if_icmp .ge 165, 3) := by decide +kernel
theorem dX9_askOf_21 : decode cX9_askOf 21 = .ok (.iconst 0, 1) := by decide +kernel
theorem dX9_askOf_22 : decode cX9_askOf 22 = .ok (.istore 6, 2) := by decide +kernel
theorem dX9_askOf_24 : decode cX9_askOf 24 = .ok (.iconst 1, 1) := by decide +kernel
theorem dX9_askOf_25 : decode cX9_askOf 25 = .ok (.istore 7, 2) := by decide +kernel
theorem dX9_askOf_27 : decode cX9_askOf 27 = .ok (.iload 7, 2) := by decide +kernel
theorem dX9_askOf_29 : decode cX9_askOf 29 = .ok (.bipush 10, 2) := by decide +kernel
theorem dX9_askOf_31 : decode cX9_askOf 31 = .ok (.if_icmp .ge 101, 3) := by decide +kernel
theorem dX9_askOf_34 : decode cX9_askOf 34 = .ok (.iconst 0, 1) := by decide +kernel
theorem dX9_askOf_35 : decode cX9_askOf 35 = .ok (.istore 8, 2) := by decide +kernel
theorem dX9_askOf_37 : decode cX9_askOf 37 = .ok (.iconst 1, 1) := by decide +kernel
theorem dX9_askOf_38 : decode cX9_askOf 38 = .ok (.istore 9, 2) := by decide +kernel
theorem dX9_askOf_40 : decode cX9_askOf 40 = .ok (.iload 9, 2) := by decide +kernel
theorem dX9_askOf_42 : decode cX9_askOf 42 = .ok (.bipush 10, 2) := by decide +kernel
theorem dX9_askOf_44 : decode cX9_askOf 44 = .ok (.if_icmp .ge 66, 3) := by decide +kernel
theorem dX9_askOf_47 : decode cX9_askOf 47 = .ok (.iload 8, 2) := by decide +kernel
theorem dX9_askOf_49 : decode cX9_askOf 49 = .ok (.iload_n 2, 1) := by decide +kernel
theorem dX9_askOf_50 : decode cX9_askOf 50 = .ok (.iload 7, 2) := by decide +kernel
theorem dX9_askOf_52 : decode cX9_askOf 52 = .ok (.invokestatic 237, 3) := by decide +kernel
theorem dX9_askOf_55 : decode cX9_askOf 55 = .ok (.ifCond .eq 45, 3) := by decide +kernel
theorem dX9_askOf_58 : decode cX9_askOf 58 = .ok (.iload_n 2, 1) := by decide +kernel
theorem dX9_askOf_59 : decode cX9_askOf 59 = .ok (.iload 9, 2) := by decide +kernel
theorem dX9_askOf_61 : decode cX9_askOf 61 = .ok (.invokestatic 237, 3) := by decide +kernel
theorem dX9_askOf_64 : decode cX9_askOf 64 = .ok (.ifCond .eq 36, 3) := by decide +kernel
theorem dX9_askOf_67 : decode cX9_askOf 67 = .ok (.aload_n 0, 1) := by decide +kernel
theorem dX9_askOf_68 : decode cX9_askOf 68 = .ok (.getfield 83, 3) := by decide +kernel
theorem dX9_askOf_71 : decode cX9_askOf 71 = .ok (.bipush 20, 2) := by decide +kernel
theorem dX9_askOf_73 : decode cX9_askOf 73 = .ok (.iload 7, 2) := by decide +kernel
theorem dX9_askOf_75 : decode cX9_askOf 75 = .ok (.imul, 1) := by decide +kernel
theorem dX9_askOf_76 : decode cX9_askOf 76 = .ok (.iload 5, 2) := by decide +kernel
theorem dX9_askOf_78 : decode cX9_askOf 78 = .ok (.iadd, 1) := by decide +kernel
theorem dX9_askOf_79 : decode cX9_askOf 79 = .ok (.iaload, 1) := by decide +kernel
theorem dX9_askOf_80 : decode cX9_askOf 80 = .ok (.aload_n 0, 1) := by decide +kernel
theorem dX9_askOf_81 : decode cX9_askOf 81 = .ok (.getfield 83, 3) := by decide +kernel
theorem dX9_askOf_84 : decode cX9_askOf 84 = .ok (.bipush 20, 2) := by decide +kernel
theorem dX9_askOf_86 : decode cX9_askOf 86 = .ok (.iload 9, 2) := by decide +kernel
theorem dX9_askOf_88 : decode cX9_askOf 88 = .ok (.imul, 1) := by decide +kernel
theorem dX9_askOf_89 : decode cX9_askOf 89 = .ok (.iload 5, 2) := by decide +kernel
theorem dX9_askOf_91 : decode cX9_askOf 91 = .ok (.iadd, 1) := by decide +kernel
theorem dX9_askOf_92 : decode cX9_askOf 92 = .ok (.iaload, 1) := by decide +kernel
theorem dX9_askOf_93 : decode cX9_askOf 93 = .ok (.if_icmp .ne 7, 3) := by decide +kernel
theorem dX9_askOf_96 : decode cX9_askOf 96 = .ok (.iconst 1, 1) := by decide +kernel
theorem dX9_askOf_97 : decode cX9_askOf 97 = .ok (.goto 4, 3) := by decide +kernel
theorem dX9_askOf_100 : decode cX9_askOf 100 = .ok (.iconst 0, 1) := by decide +kernel
theorem dX9_askOf_101 : decode cX9_askOf 101 = .ok (.iadd, 1) := by decide +kernel
theorem dX9_askOf_102 : decode cX9_askOf 102 = .ok (.istore 8, 2) := by decide +kernel
theorem dX9_askOf_104 : decode cX9_askOf 104 = .ok (.iinc 9 1, 3) := by decide +kernel
theorem dX9_askOf_107 : decode cX9_askOf 107 = .ok (.goto (-67), 3) := by decide +kernel
theorem dX9_askOf_110 : decode cX9_askOf 110 = .ok (.iload 8, 2) := by decide +kernel
theorem dX9_askOf_112 : decode cX9_askOf 112 = .ok (.iload 6, 2) := by decide +kernel
theorem dX9_askOf_114 : decode cX9_askOf 114 = .ok (.if_icmp .le 8, 3) := by decide +kernel
theorem dX9_askOf_117 : decode cX9_askOf 117 = .ok (.iload 8, 2) := by decide +kernel
theorem dX9_askOf_119 : decode cX9_askOf 119 = .ok (.goto 5, 3) := by decide +kernel
theorem dX9_askOf_122 : decode cX9_askOf 122 = .ok (.iload 6, 2) := by decide +kernel
theorem dX9_askOf_124 : decode cX9_askOf 124 = .ok (.istore 6, 2) := by decide +kernel
theorem dX9_askOf_126 : decode cX9_askOf 126 = .ok (.iinc 7 1, 3) := by decide +kernel
theorem dX9_askOf_129 : decode cX9_askOf 129 = .ok (.goto (-102), 3) := by decide +kernel
theorem dX9_askOf_132 : decode cX9_askOf 132 = .ok (.iload_n 3, 1) := by decide +kernel
theorem dX9_askOf_133 : decode cX9_askOf 133 = .ok (.iconst (-1), 1) := by decide +kernel
theorem dX9_askOf_134 : decode cX9_askOf 134 = .ok (.if_icmp .eq 10, 3) := by decide +kernel
theorem dX9_askOf_137 : decode cX9_askOf 137 = .ok (.iload 6, 2) := by decide +kernel
theorem dX9_askOf_139 : decode cX9_askOf 139 = .ok (.iload 4, 2) := by decide +kernel
theorem dX9_askOf_141 : decode cX9_askOf 141 = .ok (.if_icmp .ge 7, 3) := by decide +kernel
theorem dX9_askOf_144 : decode cX9_askOf 144 = .ok (.iconst 1, 1) := by decide +kernel
theorem dX9_askOf_145 : decode cX9_askOf 145 = .ok (.goto 4, 3) := by decide +kernel
theorem dX9_askOf_148 : decode cX9_askOf 148 = .ok (.iconst 0, 1) := by decide +kernel
theorem dX9_askOf_149 : decode cX9_askOf 149 = .ok (.istore 7, 2) := by decide +kernel
theorem dX9_askOf_151 : decode cX9_askOf 151 = .ok (.iload 7, 2) := by decide +kernel
theorem dX9_askOf_153 : decode cX9_askOf 153 = .ok (.ifCond .eq 8, 3) := by decide +kernel
theorem dX9_askOf_156 : decode cX9_askOf 156 = .ok (.iload 5, 2) := by decide +kernel
theorem dX9_askOf_158 : decode cX9_askOf 158 = .ok (.goto 4, 3) := by decide +kernel
theorem dX9_askOf_161 : decode cX9_askOf 161 = .ok (.iload_n 3, 1) := by decide +kernel
theorem dX9_askOf_162 : decode cX9_askOf 162 = .ok (.istore_n 3, 1) := by decide +kernel
theorem dX9_askOf_163 : decode cX9_askOf 163 = .ok (.iload 7, 2) := by decide +kernel
theorem dX9_askOf_165 : decode cX9_askOf 165 = .ok (.ifCond .eq 8, 3) := by decide +kernel
theorem dX9_askOf_168 : decode cX9_askOf 168 = .ok (.iload 6, 2) := by decide +kernel
theorem dX9_askOf_170 : decode cX9_askOf 170 = .ok (.goto 5, 3) := by decide +kernel
theorem dX9_askOf_173 : decode cX9_askOf 173 = .ok (.iload 4, 2) := by decide +kernel
theorem dX9_askOf_175 : decode cX9_askOf 175 = .ok (.istore 4, 2) := by decide +kernel
theorem dX9_askOf_177 : decode cX9_askOf 177 = .ok (.iinc 5 1, 3) := by decide +kernel
theorem dX9_askOf_180 : decode cX9_askOf 180 = .ok (.goto (-166), 3) := by decide +kernel
theorem dX9_askOf_183 : decode cX9_askOf 183 = .ok (.iload_n 3, 1) := by decide +kernel
theorem dX9_askOf_184 : decode cX9_askOf 184 = .ok (.ireturn, 1) := by decide +kernel
theorem dX9_ask_0 : decode cX9_ask 0 = .ok (.aload_n 0, 1) := by decide +kernel
theorem dX9_ask_1 : decode cX9_ask 1 = .ok (.iload_n 1, 1) := by decide +kernel
theorem dX9_ask_2 : decode cX9_ask 2 = .ok (.invokevirtual 161, 3) := by decide +kernel
theorem dX9_ask_5 : decode cX9_ask 5 = .ok (.ifCond .eq 11, 3) := by decide +kernel
theorem dX9_ask_8 : decode cX9_ask 8 = .ok (.aload_n 0, 1) := by decide +kernel
theorem dX9_ask_9 : decode cX9_ask 9 = .ok (.iload_n 1, 1) := by decide +kernel
theorem dX9_ask_10 : decode cX9_ask 10 = .ok (.invokevirtual 321, 3) := by decide +kernel
theorem dX9_ask_13 : decode cX9_ask 13 = .ok (.goto 5, 3) := by decide +kernel
theorem dX9_ask_16 : decode cX9_ask 16 = .ok (.bipush (-2), 2) := by decide +kernel
theorem dX9_ask_18 : decode cX9_ask 18 = .ok (.ireturn, 1) := by decide +kernel
theorem dX9_luckOf_0 : decode cX9_luckOf 0 = .ok (.aload_n 0, 1) := by decide +kernel
theorem dX9_luckOf_1 : decode cX9_luckOf 1 = .ok (.invokevirtual 256, 3) := by decide +kernel
theorem dX9_luckOf_4 : decode cX9_luckOf 4 = .ok (.lconst 0, 1) := by decide +kernel
theorem dX9_luckOf_5 : decode cX9_luckOf 5 = .ok (.lstore_n 3, 1) := by decide +kernel
theorem dX9_luckOf_6 : decode cX9_luckOf 6 = .ok (.iconst 0, 1) := by decide +kernel
theorem dX9_luckOf_7 : decode cX9_luckOf 7 = .ok (.istore 5, 2) := by decide +kernel
theorem dX9_luckOf_9 : decode cX9_luckOf 9 = .ok (.iload 5, 2) := by decide +kernel
theorem dX9_luckOf_11 : decode cX9_luckOf 11 = .ok (.iconst 1, 1) := by decide +kernel
theorem dX9_luckOf_12 : decode cX9_luckOf 12 = .ok (.aload_n 0, 1) := by decide +kernel
theorem dX9_luckOf_13 : decode cX9_luckOf 13 = .ok (.getfield 170, 3) := by decide +kernel
theorem dX9_luckOf_16 : decode cX9_luckOf 16 = .ok (.ishl, 1) := by decide +kernel
theorem dX9_luckOf_17 : decode cX9_luckOf 17 = .ok (.if_icmp .ge 81, 3) := by decide +kernel
theorem dX9_luckOf_20 : decode cX9_luckOf 20 = .ok (.lconst 1, 1) := by decide +kernel
theorem dX9_luckOf_21 : decode cX9_luckOf 21 = .ok (.lstore 6, 2) := by decide +kernel
theorem dX9_luckOf_23 : decode cX9_luckOf 23 = .ok (.iconst 0, 1) := by decide +kernel
theorem dX9_luckOf_24 : decode cX9_luckOf 24 = .ok (.istore 8, 2) := by decide +kernel
theorem dX9_luckOf_26 : decode cX9_luckOf 26 = .ok (.iload 8, 2) := by decide +kernel
theorem dX9_luckOf_28 : decode cX9_luckOf 28 = .ok (.aload_n 0, 1) := by decide +kernel
theorem dX9_luckOf_29 : decode cX9_luckOf 29 = .ok (.getfield 170, 3) := by decide +kernel
theorem dX9_luckOf_32 : decode cX9_luckOf 32 = .ok (.if_icmp .ge 34, 3) := by decide +kernel
theorem dX9_luckOf_35 : decode cX9_luckOf 35 = .ok (.lload 6, 2) := by decide +kernel
theorem dX9_luckOf_37 : decode cX9_luckOf 37 = .ok (.iload 5, 2) := by decide +kernel
theorem dX9_luckOf_39 : decode cX9_luckOf 39 = .ok (.iload 8, 2) := by decide +kernel
theorem dX9_luckOf_41 : decode cX9_luckOf 41 = .ok (.invokestatic 237, 3) := by decide +kernel
theorem dX9_luckOf_44 : decode cX9_luckOf 44 = .ok (.ifCond .eq 11, 3) := by decide +kernel
theorem dX9_luckOf_47 : decode cX9_luckOf 47 = .ok (.bipush 16, 2) := by decide +kernel
theorem dX9_luckOf_49 : decode cX9_luckOf 49 = .ok (.iload_n 1, 1) := by decide +kernel
theorem dX9_luckOf_50 : decode cX9_luckOf 50 = .ok (.isub, 1) := by decide +kernel
theorem dX9_luckOf_51 : decode cX9_luckOf 51 = .ok (.i2l, 1) := by decide +kernel
theorem dX9_luckOf_52 : decode cX9_luckOf 52 = .ok (.goto 5, 3) := by decide +kernel
theorem dX9_luckOf_55 : decode cX9_luckOf 55 = .ok (.iload_n 1, 1) := by decide +kernel
theorem dX9_luckOf_56 : decode cX9_luckOf 56 = .ok (.i2l, 1) := by decide +kernel
theorem dX9_luckOf_57 : decode cX9_luckOf 57 = .ok (.lmul, 1) := by decide +kernel
theorem dX9_luckOf_58 : decode cX9_luckOf 58 = .ok (.lstore 6, 2) := by decide +kernel
theorem dX9_luckOf_60 : decode cX9_luckOf 60 = .ok (.iinc 8 1, 3) := by decide +kernel
theorem dX9_luckOf_63 : decode cX9_luckOf 63 = .ok (.goto (-37), 3) := by decide +kernel
theorem dX9_luckOf_66 : decode cX9_luckOf 66 = .ok (.aload_n 0, 1) := by decide +kernel
theorem dX9_luckOf_67 : decode cX9_luckOf 67 = .ok (.iload 5, 2) := by decide +kernel
theorem dX9_luckOf_69 : decode cX9_luckOf 69 = .ok (.putfield 188, 3) := by decide +kernel
theorem dX9_luckOf_72 : decode cX9_luckOf 72 = .ok (.aload_n 0, 1) := by decide +kernel
theorem dX9_luckOf_73 : decode cX9_luckOf 73 = .ok (.invokevirtual 259, 3) := by decide +kernel
theorem dX9_luckOf_76 : decode cX9_luckOf 76 = .ok (.lload_n 3, 1) := by decide +kernel
theorem dX9_luckOf_77 : decode cX9_luckOf 77 = .ok (.aload_n 0, 1) := by decide +kernel
theorem dX9_luckOf_78 : decode cX9_luckOf 78 = .ok (.getfield 234, 3) := by decide +kernel
theorem dX9_luckOf_81 : decode cX9_luckOf 81 = .ok (.ifCond .ne 8, 3) := by decide +kernel
theorem dX9_luckOf_84 : decode cX9_luckOf 84 = .ok (.lload 6, 2) := by decide +kernel
theorem dX9_luckOf_86 : decode cX9_luckOf 86 = .ok (.goto 4, 3) := by decide +kernel
theorem dX9_luckOf_89 : decode cX9_luckOf 89 = .ok (.lconst 0, 1) := by decide +kernel
theorem dX9_luckOf_90 : decode cX9_luckOf 90 = .ok (.ladd, 1) := by decide +kernel
theorem dX9_luckOf_91 : decode cX9_luckOf 91 = .ok (.lstore_n 3, 1) := by decide +kernel
theorem dX9_luckOf_92 : decode cX9_luckOf 92 = .ok (.iinc 5 1, 3) := by decide +kernel
theorem dX9_luckOf_95 : decode cX9_luckOf 95 = .ok (.goto (-86), 3) := by decide +kernel
theorem dX9_luckOf_98 : decode cX9_luckOf 98 = .ok (.lload_n 3, 1) := by decide +kernel
theorem dX9_luckOf_99 : decode cX9_luckOf 99 = .ok (.lconst 1, 1) := by decide +kernel
theorem dX9_luckOf_100 : decode cX9_luckOf 100 = .ok (.iconst 4, 1) := by decide +kernel
theorem dX9_luckOf_101 : decode cX9_luckOf 101 = .ok (.aload_n 0, 1) := by decide +kernel
theorem dX9_luckOf_102 : decode cX9_luckOf 102 = .ok (.getfield 170, 3) := by decide +kernel
theorem dX9_luckOf_105 : decode cX9_luckOf 105 = .ok (.imul, 1) := by decide +kernel
theorem dX9_luckOf_106 : decode cX9_luckOf 106 = .ok (.lshl, 1) := by decide +kernel
theorem dX9_luckOf_107 : decode cX9_luckOf 107 = .ok (.iload_n 2, 1) := by decide +kernel
theorem dX9_luckOf_108 : decode cX9_luckOf 108 = .ok (.invokestatic 324, 3) := by decide +kernel
theorem dX9_luckOf_111 : decode cX9_luckOf 111 = .ok (.lreturn, 1) := by decide +kernel
theorem dX9_luck_0 : decode cX9_luck 0 = .ok (.iload_n 1, 1) := by decide +kernel
theorem dX9_luck_1 : decode cX9_luck 1 = .ok (.iconst 0, 1) := by decide +kernel
theorem dX9_luck_2 : decode cX9_luck 2 = .ok (.bipush 16, 2) := by decide +kernel
theorem dX9_luck_4 : decode cX9_luck 4 = .ok (.invokestatic 107, 3) := by decide +kernel
theorem dX9_luck_7 : decode cX9_luck 7 = .ok (.ifCond .eq 21, 3) := by decide +kernel
theorem dX9_luck_10 : decode cX9_luck 10 = .ok (.iload_n 2, 1) := by decide +kernel
theorem dX9_luck_11 : decode cX9_luck 11 = .ok (.iconst 0, 1) := by decide +kernel
theorem dX9_luck_12 : decode cX9_luck 12 = .ok (.iconst 1, 1) := by decide +kernel
theorem dX9_luck_13 : decode cX9_luck 13 = .ok (.invokestatic 107, 3) := by decide +kernel
theorem dX9_luck_16 : decode cX9_luck 16 = .ok (.ifCond .eq 12, 3) := by decide +kernel
theorem dX9_luck_19 : decode cX9_luck 19 = .ok (.aload_n 0, 1) := by decide +kernel
theorem dX9_luck_20 : decode cX9_luck 20 = .ok (.iload_n 1, 1) := by decide +kernel
theorem dX9_luck_21 : decode cX9_luck 21 = .ok (.iload_n 2, 1) := by decide +kernel
theorem dX9_luck_22 : decode cX9_luck 22 = .ok (.invokevirtual 328, 3) := by decide +kernel
theorem dX9_luck_25 : decode cX9_luck 25 = .ok (.goto 8, 3) := by decide +kernel
theorem dX9_luck_28 : decode cX9_luck 28 = .ok (.bipush (-2), 2) := by decide +kernel
theorem dX9_luck_30 : decode cX9_luck 30 = .ok (.invokestatic 332, 3) := by decide +kernel
theorem dX9_luck_33 : decode cX9_luck 33 = .ok (.lreturn, 1) := by decide +kernel
theorem dX9_agesOf_0 : decode cX9_agesOf 0 = .ok (.aload_n 0, 1) := by decide +kernel
theorem dX9_agesOf_1 : decode cX9_agesOf 1 = .ok (.invokevirtual 256, 3) := by decide +kernel
theorem dX9_agesOf_4 : decode cX9_agesOf 4 = .ok (.iload_n 1, 1) := by decide +kernel
theorem dX9_agesOf_5 : decode cX9_agesOf 5 = .ok (.istore 4, 2) := by decide +kernel
theorem dX9_agesOf_7 : decode cX9_agesOf 7 = .ok (.aload_n 0, 1) := by decide +kernel
theorem dX9_agesOf_8 : decode cX9_agesOf 8 = .ok (.iload_n 2, 1) := by decide +kernel
theorem dX9_agesOf_9 : decode cX9_agesOf 9 = .ok (.putfield 185, 3) := by decide +kernel
theorem dX9_agesOf_12 : decode cX9_agesOf 12 = .ok (.iconst 0, 1) := by decide +kernel
theorem dX9_agesOf_13 : decode cX9_agesOf 13 = .ok (.istore 5, 2) := by decide +kernel
theorem dX9_agesOf_15 : decode cX9_agesOf 15 = .ok (.iload 5, 2) := by decide +kernel
theorem dX9_agesOf_17 : decode cX9_agesOf 17 = .ok (.iload_n 2, 1) := by decide +kernel
theorem dX9_agesOf_18 : decode cX9_agesOf 18 = .ok (.if_icmp .ge 65, 3) := by decide +kernel
theorem dX9_agesOf_21 : decode cX9_agesOf 21 = .ok (.ldc_w 336, 3) := by decide +kernel
theorem dX9_agesOf_24 : decode cX9_agesOf 24 = .ok (.iload 4, 2) := by decide +kernel
theorem dX9_agesOf_26 : decode cX9_agesOf 26 = .ok (.imul, 1) := by decide +kernel
theorem dX9_agesOf_27 : decode cX9_agesOf 27 = .ok (.sipush 12345, 3) := by decide +kernel
theorem dX9_agesOf_30 : decode cX9_agesOf 30 = .ok (.iadd, 1) := by decide +kernel
theorem dX9_agesOf_31 : decode cX9_agesOf 31 = .ok (.istore 4, 2) := by decide +kernel
theorem dX9_agesOf_33 : decode cX9_agesOf 33 = .ok (.aload_n 0, 1) := by decide +kernel
theorem dX9_agesOf_34 : decode cX9_agesOf 34 = .ok (.getfield 43, 3) := by decide +kernel
theorem dX9_agesOf_37 : decode cX9_agesOf 37 = .ok (.iload 5, 2) := by decide +kernel
theorem dX9_agesOf_39 : decode cX9_agesOf 39 = .ok (.iload 4, 2) := by decide +kernel
theorem dX9_agesOf_41 : decode cX9_agesOf 41 = .ok (.bipush 16, 2) := by decide +kernel
theorem dX9_agesOf_43 : decode cX9_agesOf 43 = .ok (.iushr, 1) := by decide +kernel
theorem dX9_agesOf_44 : decode cX9_agesOf 44 = .ok (.bipush 20, 2) := by decide +kernel
theorem dX9_agesOf_46 : decode cX9_agesOf 46 = .ok (.irem, 1) := by decide +kernel
theorem dX9_agesOf_47 : decode cX9_agesOf 47 = .ok (.iastore, 1) := by decide +kernel
theorem dX9_agesOf_48 : decode cX9_agesOf 48 = .ok (.ldc_w 336, 3) := by decide +kernel
theorem dX9_agesOf_51 : decode cX9_agesOf 51 = .ok (.iload 4, 2) := by decide +kernel
theorem dX9_agesOf_53 : decode cX9_agesOf 53 = .ok (.imul, 1) := by decide +kernel
theorem dX9_agesOf_54 : decode cX9_agesOf 54 = .ok (.sipush 12345, 3) := by decide +kernel
theorem dX9_agesOf_57 : decode cX9_agesOf 57 = .ok (.iadd, 1) := by decide +kernel
theorem dX9_agesOf_58 : decode cX9_agesOf 58 = .ok (.istore 4, 2) := by decide +kernel
theorem dX9_agesOf_60 : decode cX9_agesOf 60 = .ok (.aload_n 0, 1) := by decide +kernel
theorem dX9_agesOf_61 : decode cX9_agesOf 61 = .ok (.getfield 46, 3) := by decide +kernel
theorem dX9_agesOf_64 : decode cX9_agesOf 64 = .ok (.iload 5, 2) := by decide +kernel
theorem dX9_agesOf_66 : decode cX9_agesOf 66 = .ok (.iload 4, 2) := by decide +kernel
theorem dX9_agesOf_68 : decode cX9_agesOf 68 = .ok (.bipush 16, 2) := by decide +kernel
theorem dX9_agesOf_70 : decode cX9_agesOf 70 = .ok (.iushr, 1) := by decide +kernel
theorem dX9_agesOf_71 : decode cX9_agesOf 71 = .ok (.bipush 15, 2) := by decide +kernel
theorem dX9_agesOf_73 : decode cX9_agesOf 73 = .ok (.irem, 1) := by decide +kernel
theorem dX9_agesOf_74 : decode cX9_agesOf 74 = .ok (.iconst 1, 1) := by decide +kernel
theorem dX9_agesOf_75 : decode cX9_agesOf 75 = .ok (.iadd, 1) := by decide +kernel
theorem dX9_agesOf_76 : decode cX9_agesOf 76 = .ok (.iastore, 1) := by decide +kernel
theorem dX9_agesOf_77 : decode cX9_agesOf 77 = .ok (.iinc 5 1, 3) := by decide +kernel
theorem dX9_agesOf_80 : decode cX9_agesOf 80 = .ok (.goto (-65), 3) := by decide +kernel
theorem dX9_agesOf_83 : decode cX9_agesOf 83 = .ok (.aload_n 0, 1) := by decide +kernel
theorem dX9_agesOf_84 : decode cX9_agesOf 84 = .ok (.invokevirtual 259, 3) := by decide +kernel
theorem dX9_agesOf_87 : decode cX9_agesOf 87 = .ok (.iload_n 3, 1) := by decide +kernel
theorem dX9_agesOf_88 : decode cX9_agesOf 88 = .ok (.ifCond .ne 13, 3) := by decide +kernel
theorem dX9_agesOf_91 : decode cX9_agesOf 91 = .ok (.aload_n 0, 1) := by decide +kernel
theorem dX9_agesOf_92 : decode cX9_agesOf 92 = .ok (.getfield 64, 3) := by decide +kernel
theorem dX9_agesOf_95 : decode cX9_agesOf 95 = .ok (.bipush 19, 2) := by decide +kernel
theorem dX9_agesOf_97 : decode cX9_agesOf 97 = .ok (.iaload, 1) := by decide +kernel
theorem dX9_agesOf_98 : decode cX9_agesOf 98 = .ok (.goto 7, 3) := by decide +kernel
theorem dX9_agesOf_101 : decode cX9_agesOf 101 = .ok (.aload_n 0, 1) := by decide +kernel
theorem dX9_agesOf_102 : decode cX9_agesOf 102 = .ok (.getfield 234, 3) := by decide +kernel
theorem dX9_agesOf_105 : decode cX9_agesOf 105 = .ok (.ireturn, 1) := by decide +kernel
theorem dX9_ages_0 : decode cX9_ages 0 = .ok (.iload_n 2, 1) := by decide +kernel
theorem dX9_ages_1 : decode cX9_ages 1 = .ok (.iconst 0, 1) := by decide +kernel
theorem dX9_ages_2 : decode cX9_ages 2 = .ok (.bipush 6, 2) := by decide +kernel
theorem dX9_ages_4 : decode cX9_ages 4 = .ok (.invokestatic 107, 3) := by decide +kernel
theorem dX9_ages_7 : decode cX9_ages 7 = .ok (.ifCond .eq 22, 3) := by decide +kernel
theorem dX9_ages_10 : decode cX9_ages 10 = .ok (.iload_n 3, 1) := by decide +kernel
theorem dX9_ages_11 : decode cX9_ages 11 = .ok (.iconst 0, 1) := by decide +kernel
theorem dX9_ages_12 : decode cX9_ages 12 = .ok (.iconst 1, 1) := by decide +kernel
theorem dX9_ages_13 : decode cX9_ages 13 = .ok (.invokestatic 107, 3) := by decide +kernel
theorem dX9_ages_16 : decode cX9_ages 16 = .ok (.ifCond .eq 13, 3) := by decide +kernel
theorem dX9_ages_19 : decode cX9_ages 19 = .ok (.aload_n 0, 1) := by decide +kernel
theorem dX9_ages_20 : decode cX9_ages 20 = .ok (.iload_n 1, 1) := by decide +kernel
theorem dX9_ages_21 : decode cX9_ages 21 = .ok (.iload_n 2, 1) := by decide +kernel
theorem dX9_ages_22 : decode cX9_ages 22 = .ok (.iload_n 3, 1) := by decide +kernel
theorem dX9_ages_23 : decode cX9_ages 23 = .ok (.invokevirtual 337, 3) := by decide +kernel
theorem dX9_ages_26 : decode cX9_ages 26 = .ok (.goto 5, 3) := by decide +kernel
theorem dX9_ages_29 : decode cX9_ages 29 = .ok (.bipush (-2), 2) := by decide +kernel
theorem dX9_ages_31 : decode cX9_ages 31 = .ok (.ireturn, 1) := by decide +kernel
theorem dX9_meets_0 : decode cX9_meets 0 = .ok (.aload_n 0, 1) := by decide +kernel
theorem dX9_meets_1 : decode cX9_meets 1 = .ok (.iload_n 1, 1) := by decide +kernel
theorem dX9_meets_2 : decode cX9_meets 2 = .ok (.putfield 340, 3) := by decide +kernel
theorem dX9_meets_5 : decode cX9_meets 5 = .ok (.bipush (-10), 2) := by decide +kernel
theorem dX9_meets_7 : decode cX9_meets 7 = .ok (.iload_n 1, 1) := by decide +kernel
theorem dX9_meets_8 : decode cX9_meets 8 = .ok (.isub, 1) := by decide +kernel
theorem dX9_meets_9 : decode cX9_meets 9 = .ok (.ireturn, 1) := by decide +kernel
theorem dX9_isSheet_0 : decode cX9_isSheet 0 = .ok (.iload_n 0, 1) := by decide +kernel
theorem dX9_isSheet_1 : decode cX9_isSheet 1 = .ok (.iconst 0, 1) := by decide +kernel
theorem dX9_isSheet_2 : decode cX9_isSheet 2 = .ok (.iconst 3, 1) := by decide +kernel
theorem dX9_isSheet_3 : decode cX9_isSheet 3 = .ok (.invokestatic 107, 3) := by decide +kernel
theorem dX9_isSheet_6 : decode cX9_isSheet 6 = .ok (.ireturn, 1) := by decide +kernel
theorem dX9_sheet_0 : decode cX9_sheet 0 = .ok (.iload_n 1, 1) := by decide +kernel
theorem dX9_sheet_1 : decode cX9_sheet 1 = .ok (.invokestatic 176, 3) := by decide +kernel
theorem dX9_sheet_4 : decode cX9_sheet 4 = .ok (.ifCond .eq 18, 3) := by decide +kernel
theorem dX9_sheet_7 : decode cX9_sheet 7 = .ok (.iload_n 2, 1) := by decide +kernel
theorem dX9_sheet_8 : decode cX9_sheet 8 = .ok (.iconst 0, 1) := by decide +kernel
theorem dX9_sheet_9 : decode cX9_sheet 9 = .ok (.iconst 2, 1) := by decide +kernel
theorem dX9_sheet_10 : decode cX9_sheet 10 = .ok (.invokestatic 107, 3) := by decide +kernel
theorem dX9_sheet_13 : decode cX9_sheet 13 = .ok (.ifCond .eq 9, 3) := by decide +kernel
theorem dX9_sheet_16 : decode cX9_sheet 16 = .ok (.iload_n 3, 1) := by decide +kernel
theorem dX9_sheet_17 : decode cX9_sheet 17 = .ok (.bipush 60, 2) := by decide +kernel
theorem dX9_sheet_19 : decode cX9_sheet 19 = .ok (.if_icmp .le 6, 3) := by decide +kernel
theorem dX9_sheet_22 : decode cX9_sheet 22 = .ok (.bipush (-2), 2) := by decide +kernel
theorem dX9_sheet_24 : decode cX9_sheet 24 = .ok (.ireturn, 1) := by decide +kernel
theorem dX9_sheet_25 : decode cX9_sheet 25 = .ok (.iload_n 3, 1) := by decide +kernel
theorem dX9_sheet_26 : decode cX9_sheet 26 = .ok (.ifCond .ge 9, 3) := by decide +kernel
theorem dX9_sheet_29 : decode cX9_sheet 29 = .ok (.aload_n 0, 1) := by decide +kernel
theorem dX9_sheet_30 : decode cX9_sheet 30 = .ok (.iconst 5, 1) := by decide +kernel
theorem dX9_sheet_31 : decode cX9_sheet 31 = .ok (.invokevirtual 179, 3) := by decide +kernel
theorem dX9_sheet_34 : decode cX9_sheet 34 = .ok (.ireturn, 1) := by decide +kernel
theorem dX9_sheet_35 : decode cX9_sheet 35 = .ok (.aload_n 0, 1) := by decide +kernel
theorem dX9_sheet_36 : decode cX9_sheet 36 = .ok (.getfield 86, 3) := by decide +kernel
theorem dX9_sheet_39 : decode cX9_sheet 39 = .ok (.iload_n 1, 1) := by decide +kernel
theorem dX9_sheet_40 : decode cX9_sheet 40 = .ok (.iconst 1, 1) := by decide +kernel
theorem dX9_sheet_41 : decode cX9_sheet 41 = .ok (.bastore, 1) := by decide +kernel
theorem dX9_sheet_42 : decode cX9_sheet 42 = .ok (.aload_n 0, 1) := by decide +kernel
theorem dX9_sheet_43 : decode cX9_sheet 43 = .ok (.getfield 89, 3) := by decide +kernel
theorem dX9_sheet_46 : decode cX9_sheet 46 = .ok (.iload_n 1, 1) := by decide +kernel
theorem dX9_sheet_47 : decode cX9_sheet 47 = .ok (.iload_n 2, 1) := by decide +kernel
theorem dX9_sheet_48 : decode cX9_sheet 48 = .ok (.iastore, 1) := by decide +kernel
theorem dX9_sheet_49 : decode cX9_sheet 49 = .ok (.aload_n 0, 1) := by decide +kernel
theorem dX9_sheet_50 : decode cX9_sheet 50 = .ok (.getfield 92, 3) := by decide +kernel
theorem dX9_sheet_53 : decode cX9_sheet 53 = .ok (.iload_n 1, 1) := by decide +kernel
theorem dX9_sheet_54 : decode cX9_sheet 54 = .ok (.iload_n 3, 1) := by decide +kernel
theorem dX9_sheet_55 : decode cX9_sheet 55 = .ok (.iastore, 1) := by decide +kernel
theorem dX9_sheet_56 : decode cX9_sheet 56 = .ok (.iconst 0, 1) := by decide +kernel
theorem dX9_sheet_57 : decode cX9_sheet 57 = .ok (.istore 4, 2) := by decide +kernel
theorem dX9_sheet_59 : decode cX9_sheet 59 = .ok (.iload 4, 2) := by decide +kernel
theorem dX9_sheet_61 : decode cX9_sheet 61 = .ok (.bipush 60, 2) := by decide +kernel
theorem dX9_sheet_63 : decode cX9_sheet 63 = .ok (.if_icmp .ge 22, 3) := by decide +kernel
theorem dX9_sheet_66 : decode cX9_sheet 66 = .ok (.aload_n 0, 1) := by decide +kernel
theorem dX9_sheet_67 : decode cX9_sheet 67 = .ok (.getfield 95, 3) := by decide +kernel
theorem dX9_sheet_70 : decode cX9_sheet 70 = .ok (.bipush 60, 2) := by decide +kernel
theorem dX9_sheet_72 : decode cX9_sheet 72 = .ok (.iload_n 1, 1) := by decide +kernel
theorem dX9_sheet_73 : decode cX9_sheet 73 = .ok (.imul, 1) := by decide +kernel
theorem dX9_sheet_74 : decode cX9_sheet 74 = .ok (.iload 4, 2) := by decide +kernel
theorem dX9_sheet_76 : decode cX9_sheet 76 = .ok (.iadd, 1) := by decide +kernel
theorem dX9_sheet_77 : decode cX9_sheet 77 = .ok (.iconst 0, 1) := by decide +kernel
theorem dX9_sheet_78 : decode cX9_sheet 78 = .ok (.iastore, 1) := by decide +kernel
theorem dX9_sheet_79 : decode cX9_sheet 79 = .ok (.iinc 4 1, 3) := by decide +kernel
theorem dX9_sheet_82 : decode cX9_sheet 82 = .ok (.goto (-23), 3) := by decide +kernel
theorem dX9_sheet_85 : decode cX9_sheet 85 = .ok (.iload_n 3, 1) := by decide +kernel
theorem dX9_sheet_86 : decode cX9_sheet 86 = .ok (.ireturn, 1) := by decide +kernel
theorem dX9_lose_0 : decode cX9_lose 0 = .ok (.iload_n 1, 1) := by decide +kernel
theorem dX9_lose_1 : decode cX9_lose 1 = .ok (.invokestatic 176, 3) := by decide +kernel
theorem dX9_lose_4 : decode cX9_lose 4 = .ok (.ifCond .ne 6, 3) := by decide +kernel
theorem dX9_lose_7 : decode cX9_lose 7 = .ok (.bipush (-2), 2) := by decide +kernel
theorem dX9_lose_9 : decode cX9_lose 9 = .ok (.ireturn, 1) := by decide +kernel
theorem dX9_lose_10 : decode cX9_lose 10 = .ok (.aload_n 0, 1) := by decide +kernel
theorem dX9_lose_11 : decode cX9_lose 11 = .ok (.getfield 86, 3) := by decide +kernel
theorem dX9_lose_14 : decode cX9_lose 14 = .ok (.iload_n 1, 1) := by decide +kernel
theorem dX9_lose_15 : decode cX9_lose 15 = .ok (.baload, 1) := by decide +kernel
theorem dX9_lose_16 : decode cX9_lose 16 = .ok (.ifCond .ne 9, 3) := by decide +kernel
theorem dX9_lose_19 : decode cX9_lose 19 = .ok (.aload_n 0, 1) := by decide +kernel
theorem dX9_lose_20 : decode cX9_lose 20 = .ok (.iconst 1, 1) := by decide +kernel
theorem dX9_lose_21 : decode cX9_lose 21 = .ok (.invokevirtual 179, 3) := by decide +kernel
theorem dX9_lose_24 : decode cX9_lose 24 = .ok (.ireturn, 1) := by decide +kernel
theorem dX9_lose_25 : decode cX9_lose 25 = .ok (.aload_n 0, 1) := by decide +kernel
theorem dX9_lose_26 : decode cX9_lose 26 = .ok (.getfield 86, 3) := by decide +kernel
theorem dX9_lose_29 : decode cX9_lose 29 = .ok (.iload_n 1, 1) := by decide +kernel
theorem dX9_lose_30 : decode cX9_lose 30 = .ok (.iconst 0, 1) := by decide +kernel
theorem dX9_lose_31 : decode cX9_lose 31 = .ok (.bastore, 1) := by decide +kernel
theorem dX9_lose_32 : decode cX9_lose 32 = .ok (.aload_n 0, 1) := by decide +kernel
theorem dX9_lose_33 : decode cX9_lose 33 = .ok (.getfield 92, 3) := by decide +kernel
theorem dX9_lose_36 : decode cX9_lose 36 = .ok (.iload_n 1, 1) := by decide +kernel
theorem dX9_lose_37 : decode cX9_lose 37 = .ok (.iaload, 1) := by decide +kernel
theorem dX9_lose_38 : decode cX9_lose 38 = .ok (.ireturn, 1) := by decide +kernel
theorem dX9_lacks_0 : decode cX9_lacks 0 = .ok (.aload_n 0, 1) := by decide +kernel
theorem dX9_lacks_1 : decode cX9_lacks 1 = .ok (.getfield 86, 3) := by decide +kernel
theorem dX9_lacks_4 : decode cX9_lacks 4 = .ok (.iload_n 1, 1) := by decide +kernel
theorem dX9_lacks_5 : decode cX9_lacks 5 = .ok (.baload, 1) := by decide +kernel
theorem dX9_lacks_6 : decode cX9_lacks 6 = .ok (.ifCond .ne 7, 3) := by decide +kernel
theorem dX9_lacks_9 : decode cX9_lacks 9 = .ok (.iconst 1, 1) := by decide +kernel
theorem dX9_lacks_10 : decode cX9_lacks 10 = .ok (.goto 38, 3) := by decide +kernel
theorem dX9_lacks_13 : decode cX9_lacks 13 = .ok (.aload_n 0, 1) := by decide +kernel
theorem dX9_lacks_14 : decode cX9_lacks 14 = .ok (.getfield 89, 3) := by decide +kernel
theorem dX9_lacks_17 : decode cX9_lacks 17 = .ok (.iload_n 1, 1) := by decide +kernel
theorem dX9_lacks_18 : decode cX9_lacks 18 = .ok (.iaload, 1) := by decide +kernel
theorem dX9_lacks_19 : decode cX9_lacks 19 = .ok (.iload_n 2, 1) := by decide +kernel
theorem dX9_lacks_20 : decode cX9_lacks 20 = .ok (.if_icmp .eq 7, 3) := by decide +kernel
theorem dX9_lacks_23 : decode cX9_lacks 23 = .ok (.iconst 3, 1) := by decide +kernel
theorem dX9_lacks_24 : decode cX9_lacks 24 = .ok (.goto 24, 3) := by decide +kernel
theorem dX9_lacks_27 : decode cX9_lacks 27 = .ok (.iload_n 3, 1) := by decide +kernel
theorem dX9_lacks_28 : decode cX9_lacks 28 = .ok (.iconst 0, 1) := by decide +kernel
theorem dX9_lacks_29 : decode cX9_lacks 29 = .ok (.aload_n 0, 1) := by decide +kernel
theorem dX9_lacks_30 : decode cX9_lacks 30 = .ok (.getfield 92, 3) := by decide +kernel
theorem dX9_lacks_33 : decode cX9_lacks 33 = .ok (.iload_n 1, 1) := by decide +kernel
theorem dX9_lacks_34 : decode cX9_lacks 34 = .ok (.iaload, 1) := by decide +kernel
theorem dX9_lacks_35 : decode cX9_lacks 35 = .ok (.iconst 1, 1) := by decide +kernel
theorem dX9_lacks_36 : decode cX9_lacks 36 = .ok (.isub, 1) := by decide +kernel
theorem dX9_lacks_37 : decode cX9_lacks 37 = .ok (.invokestatic 107, 3) := by decide +kernel
theorem dX9_lacks_40 : decode cX9_lacks 40 = .ok (.ifCond .eq 7, 3) := by decide +kernel
theorem dX9_lacks_43 : decode cX9_lacks 43 = .ok (.iconst 0, 1) := by decide +kernel
theorem dX9_lacks_44 : decode cX9_lacks 44 = .ok (.goto 4, 3) := by decide +kernel
theorem dX9_lacks_47 : decode cX9_lacks 47 = .ok (.iconst 2, 1) := by decide +kernel
theorem dX9_lacks_48 : decode cX9_lacks 48 = .ok (.ireturn, 1) := by decide +kernel
theorem dX9_keep_0 : decode cX9_keep 0 = .ok (.aload_n 0, 1) := by decide +kernel
theorem dX9_keep_1 : decode cX9_keep 1 = .ok (.getfield 95, 3) := by decide +kernel
theorem dX9_keep_4 : decode cX9_keep 4 = .ok (.bipush 60, 2) := by decide +kernel
theorem dX9_keep_6 : decode cX9_keep 6 = .ok (.iload_n 1, 1) := by decide +kernel
theorem dX9_keep_7 : decode cX9_keep 7 = .ok (.imul, 1) := by decide +kernel
theorem dX9_keep_8 : decode cX9_keep 8 = .ok (.iload_n 2, 1) := by decide +kernel
theorem dX9_keep_9 : decode cX9_keep 9 = .ok (.iadd, 1) := by decide +kernel
theorem dX9_keep_10 : decode cX9_keep 10 = .ok (.aload_n 0, 1) := by decide +kernel
theorem dX9_keep_11 : decode cX9_keep 11 = .ok (.getfield 89, 3) := by decide +kernel
theorem dX9_keep_14 : decode cX9_keep 14 = .ok (.iload_n 1, 1) := by decide +kernel
theorem dX9_keep_15 : decode cX9_keep 15 = .ok (.iaload, 1) := by decide +kernel
theorem dX9_keep_16 : decode cX9_keep 16 = .ok (.ifCond .ne 8, 3) := by decide +kernel
theorem dX9_keep_19 : decode cX9_keep 19 = .ok (.iload_n 3, 1) := by decide +kernel
theorem dX9_keep_20 : decode cX9_keep 20 = .ok (.i2b, 1) := by decide +kernel
theorem dX9_keep_21 : decode cX9_keep 21 = .ok (.goto 19, 3) := by decide +kernel
theorem dX9_keep_24 : decode cX9_keep 24 = .ok (.aload_n 0, 1) := by decide +kernel
theorem dX9_keep_25 : decode cX9_keep 25 = .ok (.getfield 89, 3) := by decide +kernel
theorem dX9_keep_28 : decode cX9_keep 28 = .ok (.iload_n 1, 1) := by decide +kernel
theorem dX9_keep_29 : decode cX9_keep 29 = .ok (.iaload, 1) := by decide +kernel
theorem dX9_keep_30 : decode cX9_keep 30 = .ok (.iconst 1, 1) := by decide +kernel
theorem dX9_keep_31 : decode cX9_keep 31 = .ok (.if_icmp .ne 8, 3) := by decide +kernel
theorem dX9_keep_34 : decode cX9_keep 34 = .ok (.iload_n 3, 1) := by decide +kernel
theorem dX9_keep_35 : decode cX9_keep 35 = .ok (.i2s, 1) := by decide +kernel
theorem dX9_keep_36 : decode cX9_keep 36 = .ok (.goto 4, 3) := by decide +kernel
theorem dX9_keep_39 : decode cX9_keep 39 = .ok (.iload_n 3, 1) := by decide +kernel
theorem dX9_keep_40 : decode cX9_keep 40 = .ok (.iastore, 1) := by decide +kernel
theorem dX9_keep_41 : decode cX9_keep 41 = .ok (.return_, 1) := by decide +kernel
theorem dX9_put_0 : decode cX9_put 0 = .ok (.iload_n 1, 1) := by decide +kernel
theorem dX9_put_1 : decode cX9_put 1 = .ok (.invokestatic 176, 3) := by decide +kernel
theorem dX9_put_4 : decode cX9_put 4 = .ok (.ifCond .eq 12, 3) := by decide +kernel
theorem dX9_put_7 : decode cX9_put 7 = .ok (.iload_n 2, 1) := by decide +kernel
theorem dX9_put_8 : decode cX9_put 8 = .ok (.iconst 0, 1) := by decide +kernel
theorem dX9_put_9 : decode cX9_put 9 = .ok (.iconst 2, 1) := by decide +kernel
theorem dX9_put_10 : decode cX9_put 10 = .ok (.invokestatic 107, 3) := by decide +kernel
theorem dX9_put_13 : decode cX9_put 13 = .ok (.ifCond .ne 6, 3) := by decide +kernel
theorem dX9_put_16 : decode cX9_put 16 = .ok (.bipush (-2), 2) := by decide +kernel
theorem dX9_put_18 : decode cX9_put 18 = .ok (.ireturn, 1) := by decide +kernel
theorem dX9_put_19 : decode cX9_put 19 = .ok (.aload_n 0, 1) := by decide +kernel
theorem dX9_put_20 : decode cX9_put 20 = .ok (.iload_n 1, 1) := by decide +kernel
theorem dX9_put_21 : decode cX9_put 21 = .ok (.iload_n 2, 1) := by decide +kernel
theorem dX9_put_22 : decode cX9_put 22 = .ok (.iload_n 3, 1) := by decide +kernel
theorem dX9_put_23 : decode cX9_put 23 = .ok (.invokevirtual 343, 3) := by decide +kernel
theorem dX9_put_26 : decode cX9_put 26 = .ok (.istore 5, 2) := by decide +kernel
theorem dX9_put_28 : decode cX9_put 28 = .ok (.iload 5, 2) := by decide +kernel
theorem dX9_put_30 : decode cX9_put 30 = .ok (.ifCond .le 10, 3) := by decide +kernel
theorem dX9_put_33 : decode cX9_put 33 = .ok (.aload_n 0, 1) := by decide +kernel
theorem dX9_put_34 : decode cX9_put 34 = .ok (.iload 5, 2) := by decide +kernel
theorem dX9_put_36 : decode cX9_put 36 = .ok (.invokevirtual 179, 3) := by decide +kernel
theorem dX9_put_39 : decode cX9_put 39 = .ok (.ireturn, 1) := by decide +kernel
theorem dX9_put_40 : decode cX9_put 40 = .ok (.aload_n 0, 1) := by decide +kernel
theorem dX9_put_41 : decode cX9_put 41 = .ok (.iload_n 1, 1) := by decide +kernel
theorem dX9_put_42 : decode cX9_put 42 = .ok (.iload_n 3, 1) := by decide +kernel
theorem dX9_put_43 : decode cX9_put 43 = .ok (.iload 4, 2) := by decide +kernel
theorem dX9_put_45 : decode cX9_put 45 = .ok (.invokevirtual 346, 3) := by decide +kernel
theorem dX9_put_48 : decode cX9_put 48 = .ok (.iconst 1, 1) := by decide +kernel
theorem dX9_put_49 : decode cX9_put 49 = .ok (.ireturn, 1) := by decide +kernel
theorem dX9_get_0 : decode cX9_get 0 = .ok (.iload_n 1, 1) := by decide +kernel
theorem dX9_get_1 : decode cX9_get 1 = .ok (.invokestatic 176, 3) := by decide +kernel
theorem dX9_get_4 : decode cX9_get 4 = .ok (.ifCond .eq 12, 3) := by decide +kernel
theorem dX9_get_7 : decode cX9_get 7 = .ok (.iload_n 2, 1) := by decide +kernel
theorem dX9_get_8 : decode cX9_get 8 = .ok (.iconst 0, 1) := by decide +kernel
theorem dX9_get_9 : decode cX9_get 9 = .ok (.iconst 2, 1) := by decide +kernel
theorem dX9_get_10 : decode cX9_get 10 = .ok (.invokestatic 107, 3) := by decide +kernel
theorem dX9_get_13 : decode cX9_get 13 = .ok (.ifCond .ne 7, 3) := by decide +kernel
theorem dX9_get_16 : decode cX9_get 16 = .ok (.ldc_w 350, 3) := by decide +kernel
theorem dX9_get_19 : decode cX9_get 19 = .ok (.ireturn, 1) := by decide +kernel
theorem dX9_get_20 : decode cX9_get 20 = .ok (.aload_n 0, 1) := by decide +kernel
theorem dX9_get_21 : decode cX9_get 21 = .ok (.iload_n 1, 1) := by decide +kernel
theorem dX9_get_22 : decode cX9_get 22 = .ok (.iload_n 2, 1) := by decide +kernel
theorem dX9_get_23 : decode cX9_get 23 = .ok (.iload_n 3, 1) := by decide +kernel
theorem dX9_get_24 : decode cX9_get 24 = .ok (.invokevirtual 343, 3) := by decide +kernel
theorem dX9_get_27 : decode cX9_get 27 = .ok (.istore 4, 2) := by decide +kernel
theorem dX9_get_29 : decode cX9_get 29 = .ok (.iload 4, 2) := by decide +kernel
theorem dX9_get_31 : decode cX9_get 31 = .ok (.ifCond .le 13, 3) := by decide +kernel
theorem dX9_get_34 : decode cX9_get 34 = .ok (.aload_n 0, 1) := by decide +kernel
theorem dX9_get_35 : decode cX9_get 35 = .ok (.iload 4, 2) := by decide +kernel
theorem dX9_get_37 : decode cX9_get 37 = .ok (.putfield 340, 3) := by decide +kernel
theorem dX9_get_40 : decode cX9_get 40 = .ok (.ldc_w 350, 3) := by decide +kernel
theorem dX9_get_43 : decode cX9_get 43 = .ok (.ireturn, 1) := by decide +kernel
theorem dX9_get_44 : decode cX9_get 44 = .ok (.aload_n 0, 1) := by decide +kernel
theorem dX9_get_45 : decode cX9_get 45 = .ok (.getfield 95, 3) := by decide +kernel
theorem dX9_get_48 : decode cX9_get 48 = .ok (.bipush 60, 2) := by decide +kernel
theorem dX9_get_50 : decode cX9_get 50 = .ok (.iload_n 1, 1) := by decide +kernel
theorem dX9_get_51 : decode cX9_get 51 = .ok (.imul, 1) := by decide +kernel
theorem dX9_get_52 : decode cX9_get 52 = .ok (.iload_n 3, 1) := by decide +kernel
theorem dX9_get_53 : decode cX9_get 53 = .ok (.iadd, 1) := by decide +kernel
theorem dX9_get_54 : decode cX9_get 54 = .ok (.iaload, 1) := by decide +kernel
theorem dX9_get_55 : decode cX9_get 55 = .ok (.ireturn, 1) := by decide +kernel
theorem dX9_copy_0 : decode cX9_copy 0 = .ok (.iload_n 1, 1) := by decide +kernel
theorem dX9_copy_1 : decode cX9_copy 1 = .ok (.invokestatic 176, 3) := by decide +kernel
theorem dX9_copy_4 : decode cX9_copy 4 = .ok (.ifCond .eq 10, 3) := by decide +kernel
theorem dX9_copy_7 : decode cX9_copy 7 = .ok (.iload_n 3, 1) := by decide +kernel
theorem dX9_copy_8 : decode cX9_copy 8 = .ok (.invokestatic 176, 3) := by decide +kernel
theorem dX9_copy_11 : decode cX9_copy 11 = .ok (.ifCond .ne 6, 3) := by decide +kernel
theorem dX9_copy_14 : decode cX9_copy 14 = .ok (.bipush (-2), 2) := by decide +kernel
theorem dX9_copy_16 : decode cX9_copy 16 = .ok (.ireturn, 1) := by decide +kernel
theorem dX9_copy_17 : decode cX9_copy 17 = .ok (.aload_n 0, 1) := by decide +kernel
theorem dX9_copy_18 : decode cX9_copy 18 = .ok (.getfield 86, 3) := by decide +kernel
theorem dX9_copy_21 : decode cX9_copy 21 = .ok (.iload_n 1, 1) := by decide +kernel
theorem dX9_copy_22 : decode cX9_copy 22 = .ok (.baload, 1) := by decide +kernel
theorem dX9_copy_23 : decode cX9_copy 23 = .ok (.ifCond .eq 12, 3) := by decide +kernel
theorem dX9_copy_26 : decode cX9_copy 26 = .ok (.aload_n 0, 1) := by decide +kernel
theorem dX9_copy_27 : decode cX9_copy 27 = .ok (.getfield 86, 3) := by decide +kernel
theorem dX9_copy_30 : decode cX9_copy 30 = .ok (.iload_n 3, 1) := by decide +kernel
theorem dX9_copy_31 : decode cX9_copy 31 = .ok (.baload, 1) := by decide +kernel
theorem dX9_copy_32 : decode cX9_copy 32 = .ok (.ifCond .ne 9, 3) := by decide +kernel
theorem dX9_copy_35 : decode cX9_copy 35 = .ok (.aload_n 0, 1) := by decide +kernel
theorem dX9_copy_36 : decode cX9_copy 36 = .ok (.iconst 1, 1) := by decide +kernel
theorem dX9_copy_37 : decode cX9_copy 37 = .ok (.invokevirtual 179, 3) := by decide +kernel
theorem dX9_copy_40 : decode cX9_copy 40 = .ok (.ireturn, 1) := by decide +kernel
theorem dX9_copy_41 : decode cX9_copy 41 = .ok (.aload_n 0, 1) := by decide +kernel
theorem dX9_copy_42 : decode cX9_copy 42 = .ok (.getfield 89, 3) := by decide +kernel
theorem dX9_copy_45 : decode cX9_copy 45 = .ok (.iload_n 1, 1) := by decide +kernel
theorem dX9_copy_46 : decode cX9_copy 46 = .ok (.iaload, 1) := by decide +kernel
theorem dX9_copy_47 : decode cX9_copy 47 = .ok (.aload_n 0, 1) := by decide +kernel
theorem dX9_copy_48 : decode cX9_copy 48 = .ok (.getfield 89, 3) := by decide +kernel
theorem dX9_copy_51 : decode cX9_copy 51 = .ok (.iload_n 3, 1) := by decide +kernel
theorem dX9_copy_52 : decode cX9_copy 52 = .ok (.iaload, 1) := by decide +kernel
theorem dX9_copy_53 : decode cX9_copy 53 = .ok (.if_icmp .eq 9, 3) := by decide +kernel
theorem dX9_copy_56 : decode cX9_copy 56 = .ok (.aload_n 0, 1) := by decide +kernel
theorem dX9_copy_57 : decode cX9_copy 57 = .ok (.iconst 4, 1) := by decide +kernel
theorem dX9_copy_58 : decode cX9_copy 58 = .ok (.invokevirtual 179, 3) := by decide +kernel
theorem dX9_copy_61 : decode cX9_copy 61 = .ok (.ireturn, 1) := by decide +kernel
theorem dX9_copy_62 : decode cX9_copy 62 = .ok (.iload_n 2, 1) := by decide +kernel
theorem dX9_copy_63 : decode cX9_copy 63 = .ok (.ifCond .lt 48, 3) := by decide +kernel
theorem dX9_copy_66 : decode cX9_copy 66 = .ok (.iload 4, 2) := by decide +kernel
theorem dX9_copy_68 : decode cX9_copy 68 = .ok (.ifCond .lt 43, 3) := by decide +kernel
theorem dX9_copy_71 : decode cX9_copy 71 = .ok (.iload 5, 2) := by decide +kernel
theorem dX9_copy_73 : decode cX9_copy 73 = .ok (.ifCond .lt 38, 3) := by decide +kernel
theorem dX9_copy_76 : decode cX9_copy 76 = .ok (.iload_n 2, 1) := by decide +kernel
theorem dX9_copy_77 : decode cX9_copy 77 = .ok (.i2l, 1) := by decide +kernel
theorem dX9_copy_78 : decode cX9_copy 78 = .ok (.iload 5, 2) := by decide +kernel
theorem dX9_copy_80 : decode cX9_copy 80 = .ok (.i2l, 1) := by decide +kernel
theorem dX9_copy_81 : decode cX9_copy 81 = .ok (.ladd, 1) := by decide +kernel
theorem dX9_copy_82 : decode cX9_copy 82 = .ok (.aload_n 0, 1) := by decide +kernel
theorem dX9_copy_83 : decode cX9_copy 83 = .ok (.getfield 92, 3) := by decide +kernel
theorem dX9_copy_86 : decode cX9_copy 86 = .ok (.iload_n 1, 1) := by decide +kernel
theorem dX9_copy_87 : decode cX9_copy 87 = .ok (.iaload, 1) := by decide +kernel
theorem dX9_copy_88 : decode cX9_copy 88 = .ok (.i2l, 1) := by decide +kernel
theorem dX9_copy_89 : decode cX9_copy 89 = .ok (.lcmp, 1) := by decide +kernel
theorem dX9_copy_90 : decode cX9_copy 90 = .ok (.ifCond .gt 21, 3) := by decide +kernel
theorem dX9_copy_93 : decode cX9_copy 93 = .ok (.iload 4, 2) := by decide +kernel
theorem dX9_copy_95 : decode cX9_copy 95 = .ok (.i2l, 1) := by decide +kernel
theorem dX9_copy_96 : decode cX9_copy 96 = .ok (.iload 5, 2) := by decide +kernel
theorem dX9_copy_98 : decode cX9_copy 98 = .ok (.i2l, 1) := by decide +kernel
theorem dX9_copy_99 : decode cX9_copy 99 = .ok (.ladd, 1) := by decide +kernel
theorem dX9_copy_100 : decode cX9_copy 100 = .ok (.aload_n 0, 1) := by decide +kernel
theorem dX9_copy_101 : decode cX9_copy 101 = .ok (.getfield 92, 3) := by decide +kernel
theorem dX9_copy_104 : decode cX9_copy 104 = .ok (.iload_n 3, 1) := by decide +kernel
theorem dX9_copy_105 : decode cX9_copy 105 = .ok (.iaload, 1) := by decide +kernel
theorem dX9_copy_106 : decode cX9_copy 106 = .ok (.i2l, 1) := by decide +kernel
theorem dX9_copy_107 : decode cX9_copy 107 = .ok (.lcmp, 1) := by decide +kernel
theorem dX9_copy_108 : decode cX9_copy 108 = .ok (.ifCond .le 9, 3) := by decide +kernel
theorem dX9_copy_111 : decode cX9_copy 111 = .ok (.aload_n 0, 1) := by decide +kernel
theorem dX9_copy_112 : decode cX9_copy 112 = .ok (.iconst 2, 1) := by decide +kernel
theorem dX9_copy_113 : decode cX9_copy 113 = .ok (.invokevirtual 179, 3) := by decide +kernel
theorem dX9_copy_116 : decode cX9_copy 116 = .ok (.ireturn, 1) := by decide +kernel
theorem dX9_copy_117 : decode cX9_copy 117 = .ok (.iconst 0, 1) := by decide +kernel
theorem dX9_copy_118 : decode cX9_copy 118 = .ok (.istore 6, 2) := by decide +kernel
theorem dX9_copy_120 : decode cX9_copy 120 = .ok (.iload 6, 2) := by decide +kernel
theorem dX9_copy_122 : decode cX9_copy 122 = .ok (.iload 5, 2) := by decide +kernel
theorem dX9_copy_124 : decode cX9_copy 124 = .ok (.if_icmp .ge 30, 3) := by decide +kernel
theorem dX9_copy_127 : decode cX9_copy 127 = .ok (.aload_n 0, 1) := by decide +kernel
theorem dX9_copy_128 : decode cX9_copy 128 = .ok (.getfield 98, 3) := by decide +kernel
theorem dX9_copy_131 : decode cX9_copy 131 = .ok (.iload 6, 2) := by decide +kernel
theorem dX9_copy_133 : decode cX9_copy 133 = .ok (.aload_n 0, 1) := by decide +kernel
theorem dX9_copy_134 : decode cX9_copy 134 = .ok (.getfield 95, 3) := by decide +kernel
theorem dX9_copy_137 : decode cX9_copy 137 = .ok (.bipush 60, 2) := by decide +kernel
theorem dX9_copy_139 : decode cX9_copy 139 = .ok (.iload_n 1, 1) := by decide +kernel
theorem dX9_copy_140 : decode cX9_copy 140 = .ok (.imul, 1) := by decide +kernel
theorem dX9_copy_141 : decode cX9_copy 141 = .ok (.iload_n 2, 1) := by decide +kernel
theorem dX9_copy_142 : decode cX9_copy 142 = .ok (.iadd, 1) := by decide +kernel
theorem dX9_copy_143 : decode cX9_copy 143 = .ok (.iload 6, 2) := by decide +kernel
theorem dX9_copy_145 : decode cX9_copy 145 = .ok (.iadd, 1) := by decide +kernel
theorem dX9_copy_146 : decode cX9_copy 146 = .ok (.iaload, 1) := by decide +kernel
theorem dX9_copy_147 : decode cX9_copy 147 = .ok (.iastore, 1) := by decide +kernel
theorem dX9_copy_148 : decode cX9_copy 148 = .ok (.iinc 6 1, 3) := by decide +kernel
theorem dX9_copy_151 : decode cX9_copy 151 = .ok (.goto (-31), 3) := by decide +kernel
theorem dX9_copy_154 : decode cX9_copy 154 = .ok (.iconst 0, 1) := by decide +kernel
theorem dX9_copy_155 : decode cX9_copy 155 = .ok (.istore 6, 2) := by decide +kernel
theorem dX9_copy_157 : decode cX9_copy 157 = .ok (.iload 6, 2) := by decide +kernel
theorem dX9_copy_159 : decode cX9_copy 159 = .ok (.iload 5, 2) := by decide +kernel
theorem dX9_copy_161 : decode cX9_copy 161 = .ok (.if_icmp .ge 31, 3) := by decide +kernel
theorem dX9_copy_164 : decode cX9_copy 164 = .ok (.aload_n 0, 1) := by decide +kernel
theorem dX9_copy_165 : decode cX9_copy 165 = .ok (.getfield 95, 3) := by decide +kernel
theorem dX9_copy_168 : decode cX9_copy 168 = .ok (.bipush 60, 2) := by decide +kernel
theorem dX9_copy_170 : decode cX9_copy 170 = .ok (.iload_n 3, 1) := by decide +kernel
theorem dX9_copy_171 : decode cX9_copy 171 = .ok (.imul, 1) := by decide +kernel
theorem dX9_copy_172 : decode cX9_copy 172 = .ok (.iload 4, 2) := by decide +kernel
theorem dX9_copy_174 : decode cX9_copy 174 = .ok (.iadd, 1) := by decide +kernel
theorem dX9_copy_175 : decode cX9_copy 175 = .ok (.iload 6, 2) := by decide +kernel
theorem dX9_copy_177 : decode cX9_copy 177 = .ok (.iadd, 1) := by decide +kernel
theorem dX9_copy_178 : decode cX9_copy 178 = .ok (.aload_n 0, 1) := by decide +kernel
theorem dX9_copy_179 : decode cX9_copy 179 = .ok (.getfield 98, 3) := by decide +kernel
theorem dX9_copy_182 : decode cX9_copy 182 = .ok (.iload 6, 2) := by decide +kernel
theorem dX9_copy_184 : decode cX9_copy 184 = .ok (.iaload, 1) := by decide +kernel
theorem dX9_copy_185 : decode cX9_copy 185 = .ok (.iastore, 1) := by decide +kernel
theorem dX9_copy_186 : decode cX9_copy 186 = .ok (.iinc 6 1, 3) := by decide +kernel
theorem dX9_copy_189 : decode cX9_copy 189 = .ok (.goto (-32), 3) := by decide +kernel
theorem dX9_copy_192 : decode cX9_copy 192 = .ok (.iconst 1, 1) := by decide +kernel
theorem dX9_copy_193 : decode cX9_copy 193 = .ok (.ireturn, 1) := by decide +kernel
theorem dX9_write_0 : decode cX9_write 0 = .ok (.iload_n 1, 1) := by decide +kernel
theorem dX9_write_1 : decode cX9_write 1 = .ok (.invokestatic 167, 3) := by decide +kernel
theorem dX9_write_4 : decode cX9_write 4 = .ok (.ifCond .eq 10, 3) := by decide +kernel
theorem dX9_write_7 : decode cX9_write 7 = .ok (.iload_n 2, 1) := by decide +kernel
theorem dX9_write_8 : decode cX9_write 8 = .ok (.invokestatic 176, 3) := by decide +kernel
theorem dX9_write_11 : decode cX9_write 11 = .ok (.ifCond .ne 6, 3) := by decide +kernel
theorem dX9_write_14 : decode cX9_write 14 = .ok (.bipush (-2), 2) := by decide +kernel
theorem dX9_write_16 : decode cX9_write 16 = .ok (.ireturn, 1) := by decide +kernel
theorem dX9_write_17 : decode cX9_write 17 = .ok (.aload_n 0, 1) := by decide +kernel
theorem dX9_write_18 : decode cX9_write 18 = .ok (.getfield 86, 3) := by decide +kernel
theorem dX9_write_21 : decode cX9_write 21 = .ok (.iload_n 2, 1) := by decide +kernel
theorem dX9_write_22 : decode cX9_write 22 = .ok (.baload, 1) := by decide +kernel
theorem dX9_write_23 : decode cX9_write 23 = .ok (.ifCond .ne 9, 3) := by decide +kernel
theorem dX9_write_26 : decode cX9_write 26 = .ok (.aload_n 0, 1) := by decide +kernel
theorem dX9_write_27 : decode cX9_write 27 = .ok (.iconst 1, 1) := by decide +kernel
theorem dX9_write_28 : decode cX9_write 28 = .ok (.invokevirtual 179, 3) := by decide +kernel
theorem dX9_write_31 : decode cX9_write 31 = .ok (.ireturn, 1) := by decide +kernel
theorem dX9_write_32 : decode cX9_write 32 = .ok (.aload_n 0, 1) := by decide +kernel
theorem dX9_write_33 : decode cX9_write 33 = .ok (.invokevirtual 262, 3) := by decide +kernel
theorem dX9_write_36 : decode cX9_write 36 = .ok (.iconst 0, 1) := by decide +kernel
theorem dX9_write_37 : decode cX9_write 37 = .ok (.istore_n 3, 1) := by decide +kernel
theorem dX9_write_38 : decode cX9_write 38 = .ok (.iload_n 3, 1) := by decide +kernel
theorem dX9_write_39 : decode cX9_write 39 = .ok (.aload_n 0, 1) := by decide +kernel
theorem dX9_write_40 : decode cX9_write 40 = .ok (.getfield 92, 3) := by decide +kernel
theorem dX9_write_43 : decode cX9_write 43 = .ok (.iload_n 2, 1) := by decide +kernel
theorem dX9_write_44 : decode cX9_write 44 = .ok (.iaload, 1) := by decide +kernel
theorem dX9_write_45 : decode cX9_write 45 = .ok (.if_icmp .ge 34, 3) := by decide +kernel
theorem dX9_write_48 : decode cX9_write 48 = .ok (.iload_n 3, 1) := by decide +kernel
theorem dX9_write_49 : decode cX9_write 49 = .ok (.aload_n 0, 1) := by decide +kernel
theorem dX9_write_50 : decode cX9_write 50 = .ok (.getfield 121, 3) := by decide +kernel
theorem dX9_write_53 : decode cX9_write 53 = .ok (.if_icmp .ge 26, 3) := by decide +kernel
theorem dX9_write_56 : decode cX9_write 56 = .ok (.aload_n 0, 1) := by decide +kernel
theorem dX9_write_57 : decode cX9_write 57 = .ok (.iload_n 2, 1) := by decide +kernel
theorem dX9_write_58 : decode cX9_write 58 = .ok (.iload_n 3, 1) := by decide +kernel
theorem dX9_write_59 : decode cX9_write 59 = .ok (.aload_n 0, 1) := by decide +kernel
theorem dX9_write_60 : decode cX9_write 60 = .ok (.getfield 67, 3) := by decide +kernel
theorem dX9_write_63 : decode cX9_write 63 = .ok (.bipush 8, 2) := by decide +kernel
theorem dX9_write_65 : decode cX9_write 65 = .ok (.iload_n 1, 1) := by decide +kernel
theorem dX9_write_66 : decode cX9_write 66 = .ok (.imul, 1) := by decide +kernel
theorem dX9_write_67 : decode cX9_write 67 = .ok (.iload_n 3, 1) := by decide +kernel
theorem dX9_write_68 : decode cX9_write 68 = .ok (.iadd, 1) := by decide +kernel
theorem dX9_write_69 : decode cX9_write 69 = .ok (.iaload, 1) := by decide +kernel
theorem dX9_write_70 : decode cX9_write 70 = .ok (.invokevirtual 346, 3) := by decide +kernel
theorem dX9_write_73 : decode cX9_write 73 = .ok (.iinc 3 1, 3) := by decide +kernel
theorem dX9_write_76 : decode cX9_write 76 = .ok (.goto (-38), 3) := by decide +kernel
theorem dX9_write_79 : decode cX9_write 79 = .ok (.iload_n 3, 1) := by decide +kernel
theorem dX9_write_80 : decode cX9_write 80 = .ok (.ireturn, 1) := by decide +kernel
theorem dX9_sumOf_0 : decode cX9_sumOf 0 = .ok (.aload_n 0, 1) := by decide +kernel
theorem dX9_sumOf_1 : decode cX9_sumOf 1 = .ok (.invokevirtual 262, 3) := by decide +kernel
theorem dX9_sumOf_4 : decode cX9_sumOf 4 = .ok (.iconst 0, 1) := by decide +kernel
theorem dX9_sumOf_5 : decode cX9_sumOf 5 = .ok (.istore_n 2, 1) := by decide +kernel
theorem dX9_sumOf_6 : decode cX9_sumOf 6 = .ok (.iconst 0, 1) := by decide +kernel
theorem dX9_sumOf_7 : decode cX9_sumOf 7 = .ok (.istore_n 3, 1) := by decide +kernel
theorem dX9_sumOf_8 : decode cX9_sumOf 8 = .ok (.iload_n 3, 1) := by decide +kernel
theorem dX9_sumOf_9 : decode cX9_sumOf 9 = .ok (.bipush 40, 2) := by decide +kernel
theorem dX9_sumOf_11 : decode cX9_sumOf 11 = .ok (.if_icmp .ge 27, 3) := by decide +kernel
theorem dX9_sumOf_14 : decode cX9_sumOf 14 = .ok (.iload_n 2, 1) := by decide +kernel
theorem dX9_sumOf_15 : decode cX9_sumOf 15 = .ok (.aload_n 0, 1) := by decide +kernel
theorem dX9_sumOf_16 : decode cX9_sumOf 16 = .ok (.getfield 16, 3) := by decide +kernel
theorem dX9_sumOf_19 : decode cX9_sumOf 19 = .ok (.iload_n 3, 1) := by decide +kernel
theorem dX9_sumOf_20 : decode cX9_sumOf 20 = .ok (.iaload, 1) := by decide +kernel
theorem dX9_sumOf_21 : decode cX9_sumOf 21 = .ok (.iconst (-1), 1) := by decide +kernel
theorem dX9_sumOf_22 : decode cX9_sumOf 22 = .ok (.if_icmp .ne 7, 3) := by decide +kernel
theorem dX9_sumOf_25 : decode cX9_sumOf 25 = .ok (.iconst 0, 1) := by decide +kernel
theorem dX9_sumOf_26 : decode cX9_sumOf 26 = .ok (.goto 4, 3) := by decide +kernel
theorem dX9_sumOf_29 : decode cX9_sumOf 29 = .ok (.iconst 1, 1) := by decide +kernel
theorem dX9_sumOf_30 : decode cX9_sumOf 30 = .ok (.iadd, 1) := by decide +kernel
theorem dX9_sumOf_31 : decode cX9_sumOf 31 = .ok (.istore_n 2, 1) := by decide +kernel
theorem dX9_sumOf_32 : decode cX9_sumOf 32 = .ok (.iinc 3 1, 3) := by decide +kernel
theorem dX9_sumOf_35 : decode cX9_sumOf 35 = .ok (.goto (-27), 3) := by decide +kernel
theorem dX9_sumOf_38 : decode cX9_sumOf 38 = .ok (.iload_n 1, 1) := by decide +kernel
theorem dX9_sumOf_39 : decode cX9_sumOf 39 = .ok (.ifCond .ne 7, 3) := by decide +kernel
theorem dX9_sumOf_42 : decode cX9_sumOf 42 = .ok (.iload_n 2, 1) := by decide +kernel
theorem dX9_sumOf_43 : decode cX9_sumOf 43 = .ok (.goto 19, 3) := by decide +kernel
theorem dX9_sumOf_46 : decode cX9_sumOf 46 = .ok (.iload_n 1, 1) := by decide +kernel
theorem dX9_sumOf_47 : decode cX9_sumOf 47 = .ok (.iconst 1, 1) := by decide +kernel
theorem dX9_sumOf_48 : decode cX9_sumOf 48 = .ok (.if_icmp .ne 10, 3) := by decide +kernel
theorem dX9_sumOf_51 : decode cX9_sumOf 51 = .ok (.aload_n 0, 1) := by decide +kernel
theorem dX9_sumOf_52 : decode cX9_sumOf 52 = .ok (.getfield 135, 3) := by decide +kernel
theorem dX9_sumOf_55 : decode cX9_sumOf 55 = .ok (.goto 7, 3) := by decide +kernel
theorem dX9_sumOf_58 : decode cX9_sumOf 58 = .ok (.aload_n 0, 1) := by decide +kernel
theorem dX9_sumOf_59 : decode cX9_sumOf 59 = .ok (.getfield 247, 3) := by decide +kernel
theorem dX9_sumOf_62 : decode cX9_sumOf 62 = .ok (.ireturn, 1) := by decide +kernel
theorem dX9_count_0 : decode cX9_count 0 = .ok (.iload_n 1, 1) := by decide +kernel
theorem dX9_count_1 : decode cX9_count 1 = .ok (.tableswitch 86 0 8 #[51, 51, 57, 57, 66, 71, 51, 76, 81], 51) := by decide +kernel
theorem dX9_count_52 : decode cX9_count 52 = .ok (.aload_n 0, 1) := by decide +kernel
theorem dX9_count_53 : decode cX9_count 53 = .ok (.iload_n 1, 1) := by decide +kernel
theorem dX9_count_54 : decode cX9_count 54 = .ok (.invokevirtual 351, 3) := by decide +kernel
theorem dX9_count_57 : decode cX9_count 57 = .ok (.ireturn, 1) := by decide +kernel
theorem dX9_count_58 : decode cX9_count 58 = .ok (.aload_n 0, 1) := by decide +kernel
theorem dX9_count_59 : decode cX9_count 59 = .ok (.getfield 7, 3) := by decide +kernel
theorem dX9_count_62 : decode cX9_count 62 = .ok (.iload_n 1, 1) := by decide +kernel
theorem dX9_count_63 : decode cX9_count 63 = .ok (.iconst 2, 1) := by decide +kernel
theorem dX9_count_64 : decode cX9_count 64 = .ok (.isub, 1) := by decide +kernel
theorem dX9_count_65 : decode cX9_count 65 = .ok (.iaload, 1) := by decide +kernel
theorem dX9_count_66 : decode cX9_count 66 = .ok (.ireturn, 1) := by decide +kernel
theorem dX9_count_67 : decode cX9_count 67 = .ok (.aload_n 0, 1) := by decide +kernel
theorem dX9_count_68 : decode cX9_count 68 = .ok (.getfield 170, 3) := by decide +kernel
theorem dX9_count_71 : decode cX9_count 71 = .ok (.ireturn, 1) := by decide +kernel
theorem dX9_count_72 : decode cX9_count 72 = .ok (.aload_n 0, 1) := by decide +kernel
theorem dX9_count_73 : decode cX9_count 73 = .ok (.getfield 173, 3) := by decide +kernel
theorem dX9_count_76 : decode cX9_count 76 = .ok (.ireturn, 1) := by decide +kernel
theorem dX9_count_77 : decode cX9_count 77 = .ok (.aload_n 0, 1) := by decide +kernel
theorem dX9_count_78 : decode cX9_count 78 = .ok (.getfield 305, 3) := by decide +kernel
theorem dX9_count_81 : decode cX9_count 81 = .ok (.ireturn, 1) := by decide +kernel
theorem dX9_count_82 : decode cX9_count 82 = .ok (.aload_n 0, 1) := by decide +kernel
theorem dX9_count_83 : decode cX9_count 83 = .ok (.getfield 340, 3) := by decide +kernel
theorem dX9_count_86 : decode cX9_count 86 = .ok (.ireturn, 1) := by decide +kernel
theorem dX9_count_87 : decode cX9_count 87 = .ok (.bipush (-2), 2) := by decide +kernel
theorem dX9_count_89 : decode cX9_count 89 = .ok (.ireturn, 1) := by decide +kernel
theorem dX9_placeDigest_0 : decode cX9_placeDigest 0 = .ok (.ldc2_w 354, 3) := by decide +kernel
theorem dX9_placeDigest_3 : decode cX9_placeDigest 3 = .ok (.lload_n 1, 1) := by decide +kernel
theorem dX9_placeDigest_4 : decode cX9_placeDigest 4 = .ok (.lmul, 1) := by decide +kernel
theorem dX9_placeDigest_5 : decode cX9_placeDigest 5 = .ok (.aload_n 0, 1) := by decide +kernel
theorem dX9_placeDigest_6 : decode cX9_placeDigest 6 = .ok (.iload_n 3, 1) := by decide +kernel
theorem dX9_placeDigest_7 : decode cX9_placeDigest 7 = .ok (.invokevirtual 158, 3) := by decide +kernel
theorem dX9_placeDigest_10 : decode cX9_placeDigest 10 = .ok (.i2l, 1) := by decide +kernel
theorem dX9_placeDigest_11 : decode cX9_placeDigest 11 = .ok (.ladd, 1) := by decide +kernel
theorem dX9_placeDigest_12 : decode cX9_placeDigest 12 = .ok (.lstore 4, 2) := by decide +kernel
theorem dX9_placeDigest_14 : decode cX9_placeDigest 14 = .ok (.ldc2_w 354, 3) := by decide +kernel
theorem dX9_placeDigest_17 : decode cX9_placeDigest 17 = .ok (.lload 4, 2) := by decide +kernel
theorem dX9_placeDigest_19 : decode cX9_placeDigest 19 = .ok (.lmul, 1) := by decide +kernel
theorem dX9_placeDigest_20 : decode cX9_placeDigest 20 = .ok (.aload_n 0, 1) := by decide +kernel
theorem dX9_placeDigest_21 : decode cX9_placeDigest 21 = .ok (.iconst 0, 1) := by decide +kernel
theorem dX9_placeDigest_22 : decode cX9_placeDigest 22 = .ok (.iload_n 3, 1) := by decide +kernel
theorem dX9_placeDigest_23 : decode cX9_placeDigest 23 = .ok (.iconst 0, 1) := by decide +kernel
theorem dX9_placeDigest_24 : decode cX9_placeDigest 24 = .ok (.invokevirtual 265, 3) := by decide +kernel
theorem dX9_placeDigest_27 : decode cX9_placeDigest 27 = .ok (.i2l, 1) := by decide +kernel
theorem dX9_placeDigest_28 : decode cX9_placeDigest 28 = .ok (.ladd, 1) := by decide +kernel
theorem dX9_placeDigest_29 : decode cX9_placeDigest 29 = .ok (.lstore 4, 2) := by decide +kernel
theorem dX9_placeDigest_31 : decode cX9_placeDigest 31 = .ok (.ldc2_w 354, 3) := by decide +kernel
theorem dX9_placeDigest_34 : decode cX9_placeDigest 34 = .ok (.lload 4, 2) := by decide +kernel
theorem dX9_placeDigest_36 : decode cX9_placeDigest 36 = .ok (.lmul, 1) := by decide +kernel
theorem dX9_placeDigest_37 : decode cX9_placeDigest 37 = .ok (.aload_n 0, 1) := by decide +kernel
theorem dX9_placeDigest_38 : decode cX9_placeDigest 38 = .ok (.iconst 0, 1) := by decide +kernel
theorem dX9_placeDigest_39 : decode cX9_placeDigest 39 = .ok (.iload_n 3, 1) := by decide +kernel
theorem dX9_placeDigest_40 : decode cX9_placeDigest 40 = .ok (.iconst 1, 1) := by decide +kernel
theorem dX9_placeDigest_41 : decode cX9_placeDigest 41 = .ok (.invokevirtual 265, 3) := by decide +kernel
theorem dX9_placeDigest_44 : decode cX9_placeDigest 44 = .ok (.i2l, 1) := by decide +kernel
theorem dX9_placeDigest_45 : decode cX9_placeDigest 45 = .ok (.ladd, 1) := by decide +kernel
theorem dX9_placeDigest_46 : decode cX9_placeDigest 46 = .ok (.lstore 4, 2) := by decide +kernel
theorem dX9_placeDigest_48 : decode cX9_placeDigest 48 = .ok (.ldc2_w 354, 3) := by decide +kernel
theorem dX9_placeDigest_51 : decode cX9_placeDigest 51 = .ok (.lload 4, 2) := by decide +kernel
theorem dX9_placeDigest_53 : decode cX9_placeDigest 53 = .ok (.lmul, 1) := by decide +kernel
theorem dX9_placeDigest_54 : decode cX9_placeDigest 54 = .ok (.aload_n 0, 1) := by decide +kernel
theorem dX9_placeDigest_55 : decode cX9_placeDigest 55 = .ok (.bipush 19, 2) := by decide +kernel
theorem dX9_placeDigest_57 : decode cX9_placeDigest 57 = .ok (.iload_n 3, 1) := by decide +kernel
theorem dX9_placeDigest_58 : decode cX9_placeDigest 58 = .ok (.iconst 0, 1) := by decide +kernel
theorem dX9_placeDigest_59 : decode cX9_placeDigest 59 = .ok (.invokevirtual 265, 3) := by decide +kernel
theorem dX9_placeDigest_62 : decode cX9_placeDigest 62 = .ok (.i2l, 1) := by decide +kernel
theorem dX9_placeDigest_63 : decode cX9_placeDigest 63 = .ok (.ladd, 1) := by decide +kernel
theorem dX9_placeDigest_64 : decode cX9_placeDigest 64 = .ok (.lstore 4, 2) := by decide +kernel
theorem dX9_placeDigest_66 : decode cX9_placeDigest 66 = .ok (.ldc2_w 354, 3) := by decide +kernel
theorem dX9_placeDigest_69 : decode cX9_placeDigest 69 = .ok (.lload 4, 2) := by decide +kernel
theorem dX9_placeDigest_71 : decode cX9_placeDigest 71 = .ok (.lmul, 1) := by decide +kernel
theorem dX9_placeDigest_72 : decode cX9_placeDigest 72 = .ok (.aload_n 0, 1) := by decide +kernel
theorem dX9_placeDigest_73 : decode cX9_placeDigest 73 = .ok (.bipush 19, 2) := by decide +kernel
theorem dX9_placeDigest_75 : decode cX9_placeDigest 75 = .ok (.iload_n 3, 1) := by decide +kernel
theorem dX9_placeDigest_76 : decode cX9_placeDigest 76 = .ok (.iconst 1, 1) := by decide +kernel
theorem dX9_placeDigest_77 : decode cX9_placeDigest 77 = .ok (.invokevirtual 265, 3) := by decide +kernel
theorem dX9_placeDigest_80 : decode cX9_placeDigest 80 = .ok (.i2l, 1) := by decide +kernel
theorem dX9_placeDigest_81 : decode cX9_placeDigest 81 = .ok (.ladd, 1) := by decide +kernel
theorem dX9_placeDigest_82 : decode cX9_placeDigest 82 = .ok (.lstore 4, 2) := by decide +kernel
theorem dX9_placeDigest_84 : decode cX9_placeDigest 84 = .ok (.ldc2_w 354, 3) := by decide +kernel
theorem dX9_placeDigest_87 : decode cX9_placeDigest 87 = .ok (.lload 4, 2) := by decide +kernel
theorem dX9_placeDigest_89 : decode cX9_placeDigest 89 = .ok (.lmul, 1) := by decide +kernel
theorem dX9_placeDigest_90 : decode cX9_placeDigest 90 = .ok (.aload_n 0, 1) := by decide +kernel
theorem dX9_placeDigest_91 : decode cX9_placeDigest 91 = .ok (.iload_n 3, 1) := by decide +kernel
theorem dX9_placeDigest_92 : decode cX9_placeDigest 92 = .ok (.invokevirtual 302, 3) := by decide +kernel
theorem dX9_placeDigest_95 : decode cX9_placeDigest 95 = .ok (.i2l, 1) := by decide +kernel
theorem dX9_placeDigest_96 : decode cX9_placeDigest 96 = .ok (.ladd, 1) := by decide +kernel
theorem dX9_placeDigest_97 : decode cX9_placeDigest 97 = .ok (.lreturn, 1) := by decide +kernel
theorem dX9_handDigest_0 : decode cX9_handDigest 0 = .ok (.ldc2_w 354, 3) := by decide +kernel
theorem dX9_handDigest_3 : decode cX9_handDigest 3 = .ok (.lload_n 1, 1) := by decide +kernel
theorem dX9_handDigest_4 : decode cX9_handDigest 4 = .ok (.lmul, 1) := by decide +kernel
theorem dX9_handDigest_5 : decode cX9_handDigest 5 = .ok (.aload_n 0, 1) := by decide +kernel
theorem dX9_handDigest_6 : decode cX9_handDigest 6 = .ok (.iload_n 3, 1) := by decide +kernel
theorem dX9_handDigest_7 : decode cX9_handDigest 7 = .ok (.iconst 0, 1) := by decide +kernel
theorem dX9_handDigest_8 : decode cX9_handDigest 8 = .ok (.invokevirtual 164, 3) := by decide +kernel
theorem dX9_handDigest_11 : decode cX9_handDigest 11 = .ok (.i2l, 1) := by decide +kernel
theorem dX9_handDigest_12 : decode cX9_handDigest 12 = .ok (.ladd, 1) := by decide +kernel
theorem dX9_handDigest_13 : decode cX9_handDigest 13 = .ok (.lstore 4, 2) := by decide +kernel
theorem dX9_handDigest_15 : decode cX9_handDigest 15 = .ok (.ldc2_w 354, 3) := by decide +kernel
theorem dX9_handDigest_18 : decode cX9_handDigest 18 = .ok (.lload 4, 2) := by decide +kernel
theorem dX9_handDigest_20 : decode cX9_handDigest 20 = .ok (.lmul, 1) := by decide +kernel
theorem dX9_handDigest_21 : decode cX9_handDigest 21 = .ok (.aload_n 0, 1) := by decide +kernel
theorem dX9_handDigest_22 : decode cX9_handDigest 22 = .ok (.iload_n 3, 1) := by decide +kernel
theorem dX9_handDigest_23 : decode cX9_handDigest 23 = .ok (.iconst 1, 1) := by decide +kernel
theorem dX9_handDigest_24 : decode cX9_handDigest 24 = .ok (.invokevirtual 164, 3) := by decide +kernel
theorem dX9_handDigest_27 : decode cX9_handDigest 27 = .ok (.i2l, 1) := by decide +kernel
theorem dX9_handDigest_28 : decode cX9_handDigest 28 = .ok (.ladd, 1) := by decide +kernel
theorem dX9_handDigest_29 : decode cX9_handDigest 29 = .ok (.lstore 4, 2) := by decide +kernel
theorem dX9_handDigest_31 : decode cX9_handDigest 31 = .ok (.ldc2_w 354, 3) := by decide +kernel
theorem dX9_handDigest_34 : decode cX9_handDigest 34 = .ok (.lload 4, 2) := by decide +kernel
theorem dX9_handDigest_36 : decode cX9_handDigest 36 = .ok (.lmul, 1) := by decide +kernel
theorem dX9_handDigest_37 : decode cX9_handDigest 37 = .ok (.aload_n 0, 1) := by decide +kernel
theorem dX9_handDigest_38 : decode cX9_handDigest 38 = .ok (.iload_n 3, 1) := by decide +kernel
theorem dX9_handDigest_39 : decode cX9_handDigest 39 = .ok (.invokevirtual 284, 3) := by decide +kernel
theorem dX9_handDigest_42 : decode cX9_handDigest 42 = .ok (.i2l, 1) := by decide +kernel
theorem dX9_handDigest_43 : decode cX9_handDigest 43 = .ok (.ladd, 1) := by decide +kernel
theorem dX9_handDigest_44 : decode cX9_handDigest 44 = .ok (.lstore 4, 2) := by decide +kernel
theorem dX9_handDigest_46 : decode cX9_handDigest 46 = .ok (.ldc2_w 354, 3) := by decide +kernel
theorem dX9_handDigest_49 : decode cX9_handDigest 49 = .ok (.lload 4, 2) := by decide +kernel
theorem dX9_handDigest_51 : decode cX9_handDigest 51 = .ok (.lmul, 1) := by decide +kernel
theorem dX9_handDigest_52 : decode cX9_handDigest 52 = .ok (.aload_n 0, 1) := by decide +kernel
theorem dX9_handDigest_53 : decode cX9_handDigest 53 = .ok (.iload_n 3, 1) := by decide +kernel
theorem dX9_handDigest_54 : decode cX9_handDigest 54 = .ok (.invokevirtual 293, 3) := by decide +kernel
theorem dX9_handDigest_57 : decode cX9_handDigest 57 = .ok (.i2l, 1) := by decide +kernel
theorem dX9_handDigest_58 : decode cX9_handDigest 58 = .ok (.ladd, 1) := by decide +kernel
theorem dX9_handDigest_59 : decode cX9_handDigest 59 = .ok (.lstore 4, 2) := by decide +kernel
theorem dX9_handDigest_61 : decode cX9_handDigest 61 = .ok (.ldc2_w 354, 3) := by decide +kernel
theorem dX9_handDigest_64 : decode cX9_handDigest 64 = .ok (.lload 4, 2) := by decide +kernel
theorem dX9_handDigest_66 : decode cX9_handDigest 66 = .ok (.lmul, 1) := by decide +kernel
theorem dX9_handDigest_67 : decode cX9_handDigest 67 = .ok (.aload_n 0, 1) := by decide +kernel
theorem dX9_handDigest_68 : decode cX9_handDigest 68 = .ok (.iload_n 3, 1) := by decide +kernel
theorem dX9_handDigest_69 : decode cX9_handDigest 69 = .ok (.iconst 0, 1) := by decide +kernel
theorem dX9_handDigest_70 : decode cX9_handDigest 70 = .ok (.invokevirtual 296, 3) := by decide +kernel
theorem dX9_handDigest_73 : decode cX9_handDigest 73 = .ok (.i2l, 1) := by decide +kernel
theorem dX9_handDigest_74 : decode cX9_handDigest 74 = .ok (.ladd, 1) := by decide +kernel
theorem dX9_handDigest_75 : decode cX9_handDigest 75 = .ok (.lstore 4, 2) := by decide +kernel
theorem dX9_handDigest_77 : decode cX9_handDigest 77 = .ok (.ldc2_w 354, 3) := by decide +kernel
theorem dX9_handDigest_80 : decode cX9_handDigest 80 = .ok (.lload 4, 2) := by decide +kernel
theorem dX9_handDigest_82 : decode cX9_handDigest 82 = .ok (.lmul, 1) := by decide +kernel
theorem dX9_handDigest_83 : decode cX9_handDigest 83 = .ok (.aload_n 0, 1) := by decide +kernel
theorem dX9_handDigest_84 : decode cX9_handDigest 84 = .ok (.iload_n 3, 1) := by decide +kernel
theorem dX9_handDigest_85 : decode cX9_handDigest 85 = .ok (.iconst 1, 1) := by decide +kernel
theorem dX9_handDigest_86 : decode cX9_handDigest 86 = .ok (.invokevirtual 296, 3) := by decide +kernel
theorem dX9_handDigest_89 : decode cX9_handDigest 89 = .ok (.i2l, 1) := by decide +kernel
theorem dX9_handDigest_90 : decode cX9_handDigest 90 = .ok (.ladd, 1) := by decide +kernel
theorem dX9_handDigest_91 : decode cX9_handDigest 91 = .ok (.lstore 4, 2) := by decide +kernel
theorem dX9_handDigest_93 : decode cX9_handDigest 93 = .ok (.ldc2_w 354, 3) := by decide +kernel
theorem dX9_handDigest_96 : decode cX9_handDigest 96 = .ok (.lload 4, 2) := by decide +kernel
theorem dX9_handDigest_98 : decode cX9_handDigest 98 = .ok (.lmul, 1) := by decide +kernel
theorem dX9_handDigest_99 : decode cX9_handDigest 99 = .ok (.aload_n 0, 1) := by decide +kernel
theorem dX9_handDigest_100 : decode cX9_handDigest 100 = .ok (.iload_n 3, 1) := by decide +kernel
theorem dX9_handDigest_101 : decode cX9_handDigest 101 = .ok (.invokevirtual 315, 3) := by decide +kernel
theorem dX9_handDigest_104 : decode cX9_handDigest 104 = .ok (.i2l, 1) := by decide +kernel
theorem dX9_handDigest_105 : decode cX9_handDigest 105 = .ok (.ladd, 1) := by decide +kernel
theorem dX9_handDigest_106 : decode cX9_handDigest 106 = .ok (.lstore 4, 2) := by decide +kernel
theorem dX9_handDigest_108 : decode cX9_handDigest 108 = .ok (.ldc2_w 354, 3) := by decide +kernel
theorem dX9_handDigest_111 : decode cX9_handDigest 111 = .ok (.lload 4, 2) := by decide +kernel
theorem dX9_handDigest_113 : decode cX9_handDigest 113 = .ok (.lmul, 1) := by decide +kernel
theorem dX9_handDigest_114 : decode cX9_handDigest 114 = .ok (.aload_n 0, 1) := by decide +kernel
theorem dX9_handDigest_115 : decode cX9_handDigest 115 = .ok (.iload_n 3, 1) := by decide +kernel
theorem dX9_handDigest_116 : decode cX9_handDigest 116 = .ok (.invokevirtual 318, 3) := by decide +kernel
theorem dX9_handDigest_119 : decode cX9_handDigest 119 = .ok (.i2l, 1) := by decide +kernel
theorem dX9_handDigest_120 : decode cX9_handDigest 120 = .ok (.ladd, 1) := by decide +kernel
theorem dX9_handDigest_121 : decode cX9_handDigest 121 = .ok (.lstore 4, 2) := by decide +kernel
theorem dX9_handDigest_123 : decode cX9_handDigest 123 = .ok (.ldc2_w 354, 3) := by decide +kernel
theorem dX9_handDigest_126 : decode cX9_handDigest 126 = .ok (.lload 4, 2) := by decide +kernel
theorem dX9_handDigest_128 : decode cX9_handDigest 128 = .ok (.lmul, 1) := by decide +kernel
theorem dX9_handDigest_129 : decode cX9_handDigest 129 = .ok (.aload_n 0, 1) := by decide +kernel
theorem dX9_handDigest_130 : decode cX9_handDigest 130 = .ok (.iload_n 3, 1) := by decide +kernel
theorem dX9_handDigest_131 : decode cX9_handDigest 131 = .ok (.invokevirtual 321, 3) := by decide +kernel
theorem dX9_handDigest_134 : decode cX9_handDigest 134 = .ok (.i2l, 1) := by decide +kernel
theorem dX9_handDigest_135 : decode cX9_handDigest 135 = .ok (.ladd, 1) := by decide +kernel
theorem dX9_handDigest_136 : decode cX9_handDigest 136 = .ok (.lreturn, 1) := by decide +kernel
theorem dX9_digest_0 : decode cX9_digest 0 = .ok (.ldc2_w 356, 3) := by decide +kernel
theorem dX9_digest_3 : decode cX9_digest 3 = .ok (.lstore_n 1, 1) := by decide +kernel
theorem dX9_digest_4 : decode cX9_digest 4 = .ok (.iconst 0, 1) := by decide +kernel
theorem dX9_digest_5 : decode cX9_digest 5 = .ok (.istore_n 3, 1) := by decide +kernel
theorem dX9_digest_6 : decode cX9_digest 6 = .ok (.iload_n 3, 1) := by decide +kernel
theorem dX9_digest_7 : decode cX9_digest 7 = .ok (.bipush 8, 2) := by decide +kernel
theorem dX9_digest_9 : decode cX9_digest 9 = .ok (.if_icmp .ge 22, 3) := by decide +kernel
theorem dX9_digest_12 : decode cX9_digest 12 = .ok (.ldc2_w 354, 3) := by decide +kernel
theorem dX9_digest_15 : decode cX9_digest 15 = .ok (.lload_n 1, 1) := by decide +kernel
theorem dX9_digest_16 : decode cX9_digest 16 = .ok (.lmul, 1) := by decide +kernel
theorem dX9_digest_17 : decode cX9_digest 17 = .ok (.aload_n 0, 1) := by decide +kernel
theorem dX9_digest_18 : decode cX9_digest 18 = .ok (.iload_n 3, 1) := by decide +kernel
theorem dX9_digest_19 : decode cX9_digest 19 = .ok (.invokevirtual 358, 3) := by decide +kernel
theorem dX9_digest_22 : decode cX9_digest 22 = .ok (.i2l, 1) := by decide +kernel
theorem dX9_digest_23 : decode cX9_digest 23 = .ok (.ladd, 1) := by decide +kernel
theorem dX9_digest_24 : decode cX9_digest 24 = .ok (.lstore_n 1, 1) := by decide +kernel
theorem dX9_digest_25 : decode cX9_digest 25 = .ok (.iinc 3 1, 3) := by decide +kernel
theorem dX9_digest_28 : decode cX9_digest 28 = .ok (.goto (-22), 3) := by decide +kernel
theorem dX9_digest_31 : decode cX9_digest 31 = .ok (.ldc2_w 354, 3) := by decide +kernel
theorem dX9_digest_34 : decode cX9_digest 34 = .ok (.lload_n 1, 1) := by decide +kernel
theorem dX9_digest_35 : decode cX9_digest 35 = .ok (.lmul, 1) := by decide +kernel
theorem dX9_digest_36 : decode cX9_digest 36 = .ok (.aload_n 0, 1) := by decide +kernel
theorem dX9_digest_37 : decode cX9_digest 37 = .ok (.iconst 0, 1) := by decide +kernel
theorem dX9_digest_38 : decode cX9_digest 38 = .ok (.invokevirtual 148, 3) := by decide +kernel
theorem dX9_digest_41 : decode cX9_digest 41 = .ok (.i2l, 1) := by decide +kernel
theorem dX9_digest_42 : decode cX9_digest 42 = .ok (.ladd, 1) := by decide +kernel
theorem dX9_digest_43 : decode cX9_digest 43 = .ok (.lstore_n 1, 1) := by decide +kernel
theorem dX9_digest_44 : decode cX9_digest 44 = .ok (.ldc2_w 354, 3) := by decide +kernel
theorem dX9_digest_47 : decode cX9_digest 47 = .ok (.lload_n 1, 1) := by decide +kernel
theorem dX9_digest_48 : decode cX9_digest 48 = .ok (.lmul, 1) := by decide +kernel
theorem dX9_digest_49 : decode cX9_digest 49 = .ok (.aload_n 0, 1) := by decide +kernel
theorem dX9_digest_50 : decode cX9_digest 50 = .ok (.iconst 1, 1) := by decide +kernel
theorem dX9_digest_51 : decode cX9_digest 51 = .ok (.invokevirtual 148, 3) := by decide +kernel
theorem dX9_digest_54 : decode cX9_digest 54 = .ok (.i2l, 1) := by decide +kernel
theorem dX9_digest_55 : decode cX9_digest 55 = .ok (.ladd, 1) := by decide +kernel
theorem dX9_digest_56 : decode cX9_digest 56 = .ok (.lstore_n 1, 1) := by decide +kernel
theorem dX9_digest_57 : decode cX9_digest 57 = .ok (.iconst 0, 1) := by decide +kernel
theorem dX9_digest_58 : decode cX9_digest 58 = .ok (.istore_n 3, 1) := by decide +kernel
theorem dX9_digest_59 : decode cX9_digest 59 = .ok (.iload_n 3, 1) := by decide +kernel
theorem dX9_digest_60 : decode cX9_digest 60 = .ok (.bipush 40, 2) := by decide +kernel
theorem dX9_digest_62 : decode cX9_digest 62 = .ok (.if_icmp .ge 16, 3) := by decide +kernel
theorem dX9_digest_65 : decode cX9_digest 65 = .ok (.aload_n 0, 1) := by decide +kernel
theorem dX9_digest_66 : decode cX9_digest 66 = .ok (.lload_n 1, 1) := by decide +kernel
theorem dX9_digest_67 : decode cX9_digest 67 = .ok (.iload_n 3, 1) := by decide +kernel
theorem dX9_digest_68 : decode cX9_digest 68 = .ok (.invokevirtual 361, 3) := by decide +kernel
theorem dX9_digest_71 : decode cX9_digest 71 = .ok (.lstore_n 1, 1) := by decide +kernel
theorem dX9_digest_72 : decode cX9_digest 72 = .ok (.iinc 3 1, 3) := by decide +kernel
theorem dX9_digest_75 : decode cX9_digest 75 = .ok (.goto (-16), 3) := by decide +kernel
theorem dX9_digest_78 : decode cX9_digest 78 = .ok (.iconst 0, 1) := by decide +kernel
theorem dX9_digest_79 : decode cX9_digest 79 = .ok (.istore_n 3, 1) := by decide +kernel
theorem dX9_digest_80 : decode cX9_digest 80 = .ok (.iload_n 3, 1) := by decide +kernel
theorem dX9_digest_81 : decode cX9_digest 81 = .ok (.aload_n 0, 1) := by decide +kernel
theorem dX9_digest_82 : decode cX9_digest 82 = .ok (.getfield 121, 3) := by decide +kernel
theorem dX9_digest_85 : decode cX9_digest 85 = .ok (.if_icmp .ge 73, 3) := by decide +kernel
theorem dX9_digest_88 : decode cX9_digest 88 = .ok (.ldc2_w 354, 3) := by decide +kernel
theorem dX9_digest_91 : decode cX9_digest 91 = .ok (.lload_n 1, 1) := by decide +kernel
theorem dX9_digest_92 : decode cX9_digest 92 = .ok (.lmul, 1) := by decide +kernel
theorem dX9_digest_93 : decode cX9_digest 93 = .ok (.aload_n 0, 1) := by decide +kernel
theorem dX9_digest_94 : decode cX9_digest 94 = .ok (.bipush 9, 2) := by decide +kernel
theorem dX9_digest_96 : decode cX9_digest 96 = .ok (.iload_n 3, 1) := by decide +kernel
theorem dX9_digest_97 : decode cX9_digest 97 = .ok (.iconst 0, 1) := by decide +kernel
theorem dX9_digest_98 : decode cX9_digest 98 = .ok (.invokevirtual 272, 3) := by decide +kernel
theorem dX9_digest_101 : decode cX9_digest 101 = .ok (.i2l, 1) := by decide +kernel
theorem dX9_digest_102 : decode cX9_digest 102 = .ok (.ladd, 1) := by decide +kernel
theorem dX9_digest_103 : decode cX9_digest 103 = .ok (.lstore_n 1, 1) := by decide +kernel
theorem dX9_digest_104 : decode cX9_digest 104 = .ok (.ldc2_w 354, 3) := by decide +kernel
theorem dX9_digest_107 : decode cX9_digest 107 = .ok (.lload_n 1, 1) := by decide +kernel
theorem dX9_digest_108 : decode cX9_digest 108 = .ok (.lmul, 1) := by decide +kernel
theorem dX9_digest_109 : decode cX9_digest 109 = .ok (.aload_n 0, 1) := by decide +kernel
theorem dX9_digest_110 : decode cX9_digest 110 = .ok (.bipush 9, 2) := by decide +kernel
theorem dX9_digest_112 : decode cX9_digest 112 = .ok (.iload_n 3, 1) := by decide +kernel
theorem dX9_digest_113 : decode cX9_digest 113 = .ok (.iconst 1, 1) := by decide +kernel
theorem dX9_digest_114 : decode cX9_digest 114 = .ok (.invokevirtual 272, 3) := by decide +kernel
theorem dX9_digest_117 : decode cX9_digest 117 = .ok (.i2l, 1) := by decide +kernel
theorem dX9_digest_118 : decode cX9_digest 118 = .ok (.ladd, 1) := by decide +kernel
theorem dX9_digest_119 : decode cX9_digest 119 = .ok (.lstore_n 1, 1) := by decide +kernel
theorem dX9_digest_120 : decode cX9_digest 120 = .ok (.ldc2_w 354, 3) := by decide +kernel
theorem dX9_digest_123 : decode cX9_digest 123 = .ok (.lload_n 1, 1) := by decide +kernel
theorem dX9_digest_124 : decode cX9_digest 124 = .ok (.lmul, 1) := by decide +kernel
theorem dX9_digest_125 : decode cX9_digest 125 = .ok (.aload_n 0, 1) := by decide +kernel
theorem dX9_digest_126 : decode cX9_digest 126 = .ok (.bipush 19, 2) := by decide +kernel
theorem dX9_digest_128 : decode cX9_digest 128 = .ok (.iload_n 3, 1) := by decide +kernel
theorem dX9_digest_129 : decode cX9_digest 129 = .ok (.iconst 0, 1) := by decide +kernel
theorem dX9_digest_130 : decode cX9_digest 130 = .ok (.invokevirtual 272, 3) := by decide +kernel
theorem dX9_digest_133 : decode cX9_digest 133 = .ok (.i2l, 1) := by decide +kernel
theorem dX9_digest_134 : decode cX9_digest 134 = .ok (.ladd, 1) := by decide +kernel
theorem dX9_digest_135 : decode cX9_digest 135 = .ok (.lstore_n 1, 1) := by decide +kernel
theorem dX9_digest_136 : decode cX9_digest 136 = .ok (.ldc2_w 354, 3) := by decide +kernel
theorem dX9_digest_139 : decode cX9_digest 139 = .ok (.lload_n 1, 1) := by decide +kernel
theorem dX9_digest_140 : decode cX9_digest 140 = .ok (.lmul, 1) := by decide +kernel
theorem dX9_digest_141 : decode cX9_digest 141 = .ok (.aload_n 0, 1) := by decide +kernel
theorem dX9_digest_142 : decode cX9_digest 142 = .ok (.bipush 19, 2) := by decide +kernel
theorem dX9_digest_144 : decode cX9_digest 144 = .ok (.iload_n 3, 1) := by decide +kernel
theorem dX9_digest_145 : decode cX9_digest 145 = .ok (.iconst 1, 1) := by decide +kernel
theorem dX9_digest_146 : decode cX9_digest 146 = .ok (.invokevirtual 272, 3) := by decide +kernel
theorem dX9_digest_149 : decode cX9_digest 149 = .ok (.i2l, 1) := by decide +kernel
theorem dX9_digest_150 : decode cX9_digest 150 = .ok (.ladd, 1) := by decide +kernel
theorem dX9_digest_151 : decode cX9_digest 151 = .ok (.lstore_n 1, 1) := by decide +kernel
theorem dX9_digest_152 : decode cX9_digest 152 = .ok (.iinc 3 1, 3) := by decide +kernel
theorem dX9_digest_155 : decode cX9_digest 155 = .ok (.goto (-75), 3) := by decide +kernel
theorem dX9_digest_158 : decode cX9_digest 158 = .ok (.iconst 0, 1) := by decide +kernel
theorem dX9_digest_159 : decode cX9_digest 159 = .ok (.istore_n 3, 1) := by decide +kernel
theorem dX9_digest_160 : decode cX9_digest 160 = .ok (.iload_n 3, 1) := by decide +kernel
theorem dX9_digest_161 : decode cX9_digest 161 = .ok (.bipush 20, 2) := by decide +kernel
theorem dX9_digest_163 : decode cX9_digest 163 = .ok (.if_icmp .ge 22, 3) := by decide +kernel
theorem dX9_digest_166 : decode cX9_digest 166 = .ok (.ldc2_w 354, 3) := by decide +kernel
theorem dX9_digest_169 : decode cX9_digest 169 = .ok (.lload_n 1, 1) := by decide +kernel
theorem dX9_digest_170 : decode cX9_digest 170 = .ok (.lmul, 1) := by decide +kernel
theorem dX9_digest_171 : decode cX9_digest 171 = .ok (.aload_n 0, 1) := by decide +kernel
theorem dX9_digest_172 : decode cX9_digest 172 = .ok (.iload_n 3, 1) := by decide +kernel
theorem dX9_digest_173 : decode cX9_digest 173 = .ok (.invokevirtual 275, 3) := by decide +kernel
theorem dX9_digest_176 : decode cX9_digest 176 = .ok (.i2l, 1) := by decide +kernel
theorem dX9_digest_177 : decode cX9_digest 177 = .ok (.ladd, 1) := by decide +kernel
theorem dX9_digest_178 : decode cX9_digest 178 = .ok (.lstore_n 1, 1) := by decide +kernel
theorem dX9_digest_179 : decode cX9_digest 179 = .ok (.iinc 3 1, 3) := by decide +kernel
theorem dX9_digest_182 : decode cX9_digest 182 = .ok (.goto (-22), 3) := by decide +kernel
theorem dX9_digest_185 : decode cX9_digest 185 = .ok (.iconst 0, 1) := by decide +kernel
theorem dX9_digest_186 : decode cX9_digest 186 = .ok (.istore_n 3, 1) := by decide +kernel
theorem dX9_digest_187 : decode cX9_digest 187 = .ok (.iload_n 3, 1) := by decide +kernel
theorem dX9_digest_188 : decode cX9_digest 188 = .ok (.aload_n 0, 1) := by decide +kernel
theorem dX9_digest_189 : decode cX9_digest 189 = .ok (.getfield 135, 3) := by decide +kernel
theorem dX9_digest_192 : decode cX9_digest 192 = .ok (.if_icmp .ge 16, 3) := by decide +kernel
theorem dX9_digest_195 : decode cX9_digest 195 = .ok (.aload_n 0, 1) := by decide +kernel
theorem dX9_digest_196 : decode cX9_digest 196 = .ok (.lload_n 1, 1) := by decide +kernel
theorem dX9_digest_197 : decode cX9_digest 197 = .ok (.iload_n 3, 1) := by decide +kernel
theorem dX9_digest_198 : decode cX9_digest 198 = .ok (.invokevirtual 365, 3) := by decide +kernel
theorem dX9_digest_201 : decode cX9_digest 201 = .ok (.lstore_n 1, 1) := by decide +kernel
theorem dX9_digest_202 : decode cX9_digest 202 = .ok (.iinc 3 1, 3) := by decide +kernel
theorem dX9_digest_205 : decode cX9_digest 205 = .ok (.goto (-18), 3) := by decide +kernel
theorem dX9_digest_208 : decode cX9_digest 208 = .ok (.ldc2_w 354, 3) := by decide +kernel
theorem dX9_digest_211 : decode cX9_digest 211 = .ok (.lload_n 1, 1) := by decide +kernel
theorem dX9_digest_212 : decode cX9_digest 212 = .ok (.lmul, 1) := by decide +kernel
theorem dX9_digest_213 : decode cX9_digest 213 = .ok (.aload_n 0, 1) := by decide +kernel
theorem dX9_digest_214 : decode cX9_digest 214 = .ok (.iconst 0, 1) := by decide +kernel
theorem dX9_digest_215 : decode cX9_digest 215 = .ok (.invokevirtual 278, 3) := by decide +kernel
theorem dX9_digest_218 : decode cX9_digest 218 = .ok (.i2l, 1) := by decide +kernel
theorem dX9_digest_219 : decode cX9_digest 219 = .ok (.ladd, 1) := by decide +kernel
theorem dX9_digest_220 : decode cX9_digest 220 = .ok (.lstore_n 1, 1) := by decide +kernel
theorem dX9_digest_221 : decode cX9_digest 221 = .ok (.ldc2_w 354, 3) := by decide +kernel
theorem dX9_digest_224 : decode cX9_digest 224 = .ok (.lload_n 1, 1) := by decide +kernel
theorem dX9_digest_225 : decode cX9_digest 225 = .ok (.lmul, 1) := by decide +kernel
theorem dX9_digest_226 : decode cX9_digest 226 = .ok (.aload_n 0, 1) := by decide +kernel
theorem dX9_digest_227 : decode cX9_digest 227 = .ok (.iconst 1, 1) := by decide +kernel
theorem dX9_digest_228 : decode cX9_digest 228 = .ok (.invokevirtual 278, 3) := by decide +kernel
theorem dX9_digest_231 : decode cX9_digest 231 = .ok (.i2l, 1) := by decide +kernel
theorem dX9_digest_232 : decode cX9_digest 232 = .ok (.ladd, 1) := by decide +kernel
theorem dX9_digest_233 : decode cX9_digest 233 = .ok (.lstore_n 1, 1) := by decide +kernel
theorem dX9_digest_234 : decode cX9_digest 234 = .ok (.ldc2_w 354, 3) := by decide +kernel
theorem dX9_digest_237 : decode cX9_digest 237 = .ok (.lload_n 1, 1) := by decide +kernel
theorem dX9_digest_238 : decode cX9_digest 238 = .ok (.lmul, 1) := by decide +kernel
theorem dX9_digest_239 : decode cX9_digest 239 = .ok (.aload_n 0, 1) := by decide +kernel
theorem dX9_digest_240 : decode cX9_digest 240 = .ok (.invokevirtual 287, 3) := by decide +kernel
theorem dX9_digest_243 : decode cX9_digest 243 = .ok (.i2l, 1) := by decide +kernel
theorem dX9_digest_244 : decode cX9_digest 244 = .ok (.ladd, 1) := by decide +kernel
theorem dX9_digest_245 : decode cX9_digest 245 = .ok (.lstore_n 1, 1) := by decide +kernel
theorem dX9_digest_246 : decode cX9_digest 246 = .ok (.iconst 0, 1) := by decide +kernel
theorem dX9_digest_247 : decode cX9_digest 247 = .ok (.istore_n 3, 1) := by decide +kernel
theorem dX9_digest_248 : decode cX9_digest 248 = .ok (.iload_n 3, 1) := by decide +kernel
theorem dX9_digest_249 : decode cX9_digest 249 = .ok (.iconst 3, 1) := by decide +kernel
theorem dX9_digest_250 : decode cX9_digest 250 = .ok (.if_icmp .ge 23, 3) := by decide +kernel
theorem dX9_digest_253 : decode cX9_digest 253 = .ok (.ldc2_w 354, 3) := by decide +kernel
theorem dX9_digest_256 : decode cX9_digest 256 = .ok (.lload_n 1, 1) := by decide +kernel
theorem dX9_digest_257 : decode cX9_digest 257 = .ok (.lmul, 1) := by decide +kernel
theorem dX9_digest_258 : decode cX9_digest 258 = .ok (.aload_n 0, 1) := by decide +kernel
theorem dX9_digest_259 : decode cX9_digest 259 = .ok (.iconst 5, 1) := by decide +kernel
theorem dX9_digest_260 : decode cX9_digest 260 = .ok (.iload_n 3, 1) := by decide +kernel
theorem dX9_digest_261 : decode cX9_digest 261 = .ok (.invokevirtual 290, 3) := by decide +kernel
theorem dX9_digest_264 : decode cX9_digest 264 = .ok (.i2l, 1) := by decide +kernel
theorem dX9_digest_265 : decode cX9_digest 265 = .ok (.ladd, 1) := by decide +kernel
theorem dX9_digest_266 : decode cX9_digest 266 = .ok (.lstore_n 1, 1) := by decide +kernel
theorem dX9_digest_267 : decode cX9_digest 267 = .ok (.iinc 3 1, 3) := by decide +kernel
theorem dX9_digest_270 : decode cX9_digest 270 = .ok (.goto (-22), 3) := by decide +kernel
theorem dX9_digest_273 : decode cX9_digest 273 = .ok (.ldc2_w 354, 3) := by decide +kernel
theorem dX9_digest_276 : decode cX9_digest 276 = .ok (.lload_n 1, 1) := by decide +kernel
theorem dX9_digest_277 : decode cX9_digest 277 = .ok (.lmul, 1) := by decide +kernel
theorem dX9_digest_278 : decode cX9_digest 278 = .ok (.aload_n 0, 1) := by decide +kernel
theorem dX9_digest_279 : decode cX9_digest 279 = .ok (.invokevirtual 312, 3) := by decide +kernel
theorem dX9_digest_282 : decode cX9_digest 282 = .ok (.i2l, 1) := by decide +kernel
theorem dX9_digest_283 : decode cX9_digest 283 = .ok (.ladd, 1) := by decide +kernel
theorem dX9_digest_284 : decode cX9_digest 284 = .ok (.lstore_n 1, 1) := by decide +kernel
theorem dX9_digest_285 : decode cX9_digest 285 = .ok (.ldc2_w 354, 3) := by decide +kernel
theorem dX9_digest_288 : decode cX9_digest 288 = .ok (.lload_n 1, 1) := by decide +kernel
theorem dX9_digest_289 : decode cX9_digest 289 = .ok (.lmul, 1) := by decide +kernel
theorem dX9_digest_290 : decode cX9_digest 290 = .ok (.aload_n 0, 1) := by decide +kernel
theorem dX9_digest_291 : decode cX9_digest 291 = .ok (.iconst 5, 1) := by decide +kernel
theorem dX9_digest_292 : decode cX9_digest 292 = .ok (.iconst 0, 1) := by decide +kernel
theorem dX9_digest_293 : decode cX9_digest 293 = .ok (.invokevirtual 328, 3) := by decide +kernel
theorem dX9_digest_296 : decode cX9_digest 296 = .ok (.ladd, 1) := by decide +kernel
theorem dX9_digest_297 : decode cX9_digest 297 = .ok (.lstore_n 1, 1) := by decide +kernel
theorem dX9_digest_298 : decode cX9_digest 298 = .ok (.ldc2_w 354, 3) := by decide +kernel
theorem dX9_digest_301 : decode cX9_digest 301 = .ok (.lload_n 1, 1) := by decide +kernel
theorem dX9_digest_302 : decode cX9_digest 302 = .ok (.lmul, 1) := by decide +kernel
theorem dX9_digest_303 : decode cX9_digest 303 = .ok (.aload_n 0, 1) := by decide +kernel
theorem dX9_digest_304 : decode cX9_digest 304 = .ok (.iconst 5, 1) := by decide +kernel
theorem dX9_digest_305 : decode cX9_digest 305 = .ok (.iconst 1, 1) := by decide +kernel
theorem dX9_digest_306 : decode cX9_digest 306 = .ok (.invokevirtual 328, 3) := by decide +kernel
theorem dX9_digest_309 : decode cX9_digest 309 = .ok (.ladd, 1) := by decide +kernel
theorem dX9_digest_310 : decode cX9_digest 310 = .ok (.lstore_n 1, 1) := by decide +kernel
theorem dX9_digest_311 : decode cX9_digest 311 = .ok (.ldc2_w 354, 3) := by decide +kernel
theorem dX9_digest_314 : decode cX9_digest 314 = .ok (.lload_n 1, 1) := by decide +kernel
theorem dX9_digest_315 : decode cX9_digest 315 = .ok (.lmul, 1) := by decide +kernel
theorem dX9_digest_316 : decode cX9_digest 316 = .ok (.aload_n 0, 1) := by decide +kernel
theorem dX9_digest_317 : decode cX9_digest 317 = .ok (.bipush 7, 2) := by decide +kernel
theorem dX9_digest_319 : decode cX9_digest 319 = .ok (.iconst 5, 1) := by decide +kernel
theorem dX9_digest_320 : decode cX9_digest 320 = .ok (.iconst 0, 1) := by decide +kernel
theorem dX9_digest_321 : decode cX9_digest 321 = .ok (.invokevirtual 337, 3) := by decide +kernel
theorem dX9_digest_324 : decode cX9_digest 324 = .ok (.i2l, 1) := by decide +kernel
theorem dX9_digest_325 : decode cX9_digest 325 = .ok (.ladd, 1) := by decide +kernel
theorem dX9_digest_326 : decode cX9_digest 326 = .ok (.lstore_n 1, 1) := by decide +kernel
theorem dX9_digest_327 : decode cX9_digest 327 = .ok (.ldc2_w 354, 3) := by decide +kernel
theorem dX9_digest_330 : decode cX9_digest 330 = .ok (.lload_n 1, 1) := by decide +kernel
theorem dX9_digest_331 : decode cX9_digest 331 = .ok (.lmul, 1) := by decide +kernel
theorem dX9_digest_332 : decode cX9_digest 332 = .ok (.aload_n 0, 1) := by decide +kernel
theorem dX9_digest_333 : decode cX9_digest 333 = .ok (.bipush 7, 2) := by decide +kernel
theorem dX9_digest_335 : decode cX9_digest 335 = .ok (.iconst 5, 1) := by decide +kernel
theorem dX9_digest_336 : decode cX9_digest 336 = .ok (.iconst 1, 1) := by decide +kernel
theorem dX9_digest_337 : decode cX9_digest 337 = .ok (.invokevirtual 337, 3) := by decide +kernel
theorem dX9_digest_340 : decode cX9_digest 340 = .ok (.i2l, 1) := by decide +kernel
theorem dX9_digest_341 : decode cX9_digest 341 = .ok (.ladd, 1) := by decide +kernel
theorem dX9_digest_342 : decode cX9_digest 342 = .ok (.lreturn, 1) := by decide +kernel
theorem dJ13_bitCount_95d88_0 : decode cJ13_bitCount_95d88 0 = .ok (.lload_n 0, 1) := by decide +kernel
theorem dJ13_bitCount_95d88_1 : decode cJ13_bitCount_95d88 1 = .ok (.lload_n 0, 1) := by decide +kernel
theorem dJ13_bitCount_95d88_2 : decode cJ13_bitCount_95d88 2 = .ok (.iconst 1, 1) := by decide +kernel
theorem dJ13_bitCount_95d88_3 : decode cJ13_bitCount_95d88 3 = .ok (.lushr, 1) := by decide +kernel
theorem dJ13_bitCount_95d88_4 : decode cJ13_bitCount_95d88 4 = .ok (.ldc2_w 314, 3) := by decide +kernel
theorem dJ13_bitCount_95d88_7 : decode cJ13_bitCount_95d88 7 = .ok (.land, 1) := by decide +kernel
theorem dJ13_bitCount_95d88_8 : decode cJ13_bitCount_95d88 8 = .ok (.lsub, 1) := by decide +kernel
theorem dJ13_bitCount_95d88_9 : decode cJ13_bitCount_95d88 9 = .ok (.lstore_n 0, 1) := by decide +kernel
theorem dJ13_bitCount_95d88_10 : decode cJ13_bitCount_95d88 10 = .ok (.lload_n 0, 1) := by decide +kernel
theorem dJ13_bitCount_95d88_11 : decode cJ13_bitCount_95d88 11 = .ok (.ldc2_w 316, 3) := by decide +kernel
theorem dJ13_bitCount_95d88_14 : decode cJ13_bitCount_95d88 14 = .ok (.land, 1) := by decide +kernel
theorem dJ13_bitCount_95d88_15 : decode cJ13_bitCount_95d88 15 = .ok (.lload_n 0, 1) := by decide +kernel
theorem dJ13_bitCount_95d88_16 : decode cJ13_bitCount_95d88 16 = .ok (.iconst 2, 1) := by decide +kernel
theorem dJ13_bitCount_95d88_17 : decode cJ13_bitCount_95d88 17 = .ok (.lushr, 1) := by decide +kernel
theorem dJ13_bitCount_95d88_18 : decode cJ13_bitCount_95d88 18 = .ok (.ldc2_w 316, 3) := by decide +kernel
theorem dJ13_bitCount_95d88_21 : decode cJ13_bitCount_95d88 21 = .ok (.land, 1) := by decide +kernel
theorem dJ13_bitCount_95d88_22 : decode cJ13_bitCount_95d88 22 = .ok (.ladd, 1) := by decide +kernel
theorem dJ13_bitCount_95d88_23 : decode cJ13_bitCount_95d88 23 = .ok (.lstore_n 0, 1) := by decide +kernel
theorem dJ13_bitCount_95d88_24 : decode cJ13_bitCount_95d88 24 = .ok (.lload_n 0, 1) := by decide +kernel
theorem dJ13_bitCount_95d88_25 : decode cJ13_bitCount_95d88 25 = .ok (.lload_n 0, 1) := by decide +kernel
theorem dJ13_bitCount_95d88_26 : decode cJ13_bitCount_95d88 26 = .ok (.iconst 4, 1) := by decide +kernel
theorem dJ13_bitCount_95d88_27 : decode cJ13_bitCount_95d88 27 = .ok (.lushr, 1) := by decide +kernel
theorem dJ13_bitCount_95d88_28 : decode cJ13_bitCount_95d88 28 = .ok (.ladd, 1) := by decide +kernel
theorem dJ13_bitCount_95d88_29 : decode cJ13_bitCount_95d88 29 = .ok (.ldc2_w 318, 3) := by decide +kernel
theorem dJ13_bitCount_95d88_32 : decode cJ13_bitCount_95d88 32 = .ok (.land, 1) := by decide +kernel
theorem dJ13_bitCount_95d88_33 : decode cJ13_bitCount_95d88 33 = .ok (.lstore_n 0, 1) := by decide +kernel
theorem dJ13_bitCount_95d88_34 : decode cJ13_bitCount_95d88 34 = .ok (.lload_n 0, 1) := by decide +kernel
theorem dJ13_bitCount_95d88_35 : decode cJ13_bitCount_95d88 35 = .ok (.lload_n 0, 1) := by decide +kernel
theorem dJ13_bitCount_95d88_36 : decode cJ13_bitCount_95d88 36 = .ok (.bipush 8, 2) := by decide +kernel
theorem dJ13_bitCount_95d88_38 : decode cJ13_bitCount_95d88 38 = .ok (.lushr, 1) := by decide +kernel
theorem dJ13_bitCount_95d88_39 : decode cJ13_bitCount_95d88 39 = .ok (.ladd, 1) := by decide +kernel
theorem dJ13_bitCount_95d88_40 : decode cJ13_bitCount_95d88 40 = .ok (.lstore_n 0, 1) := by decide +kernel
theorem dJ13_bitCount_95d88_41 : decode cJ13_bitCount_95d88 41 = .ok (.lload_n 0, 1) := by decide +kernel
theorem dJ13_bitCount_95d88_42 : decode cJ13_bitCount_95d88 42 = .ok (.lload_n 0, 1) := by decide +kernel
theorem dJ13_bitCount_95d88_43 : decode cJ13_bitCount_95d88 43 = .ok (.bipush 16, 2) := by decide +kernel
theorem dJ13_bitCount_95d88_45 : decode cJ13_bitCount_95d88 45 = .ok (.lushr, 1) := by decide +kernel
theorem dJ13_bitCount_95d88_46 : decode cJ13_bitCount_95d88 46 = .ok (.ladd, 1) := by decide +kernel
theorem dJ13_bitCount_95d88_47 : decode cJ13_bitCount_95d88 47 = .ok (.lstore_n 0, 1) := by decide +kernel
theorem dJ13_bitCount_95d88_48 : decode cJ13_bitCount_95d88 48 = .ok (.lload_n 0, 1) := by decide +kernel
theorem dJ13_bitCount_95d88_49 : decode cJ13_bitCount_95d88 49 = .ok (.lload_n 0, 1) := by decide +kernel
theorem dJ13_bitCount_95d88_50 : decode cJ13_bitCount_95d88 50 = .ok (.bipush 32, 2) := by decide +kernel
theorem dJ13_bitCount_95d88_52 : decode cJ13_bitCount_95d88 52 = .ok (.lushr, 1) := by decide +kernel
theorem dJ13_bitCount_95d88_53 : decode cJ13_bitCount_95d88 53 = .ok (.ladd, 1) := by decide +kernel
theorem dJ13_bitCount_95d88_54 : decode cJ13_bitCount_95d88 54 = .ok (.lstore_n 0, 1) := by decide +kernel
theorem dJ13_bitCount_95d88_55 : decode cJ13_bitCount_95d88 55 = .ok (.lload_n 0, 1) := by decide +kernel
theorem dJ13_bitCount_95d88_56 : decode cJ13_bitCount_95d88 56 = .ok (.l2i, 1) := by decide +kernel
theorem dJ13_bitCount_95d88_57 : decode cJ13_bitCount_95d88 57 = .ok (.bipush 127, 2) := by decide +kernel
theorem dJ13_bitCount_95d88_59 : decode cJ13_bitCount_95d88 59 = .ok (.iand, 1) := by decide +kernel
theorem dJ13_bitCount_95d88_60 : decode cJ13_bitCount_95d88 60 = .ok (.ireturn, 1) := by decide +kernel
theorem dJ9_max_7cf53_0 : decode cJ9_max_7cf53 0 = .ok (.iload_n 0, 1) := by decide +kernel
theorem dJ9_max_7cf53_1 : decode cJ9_max_7cf53 1 = .ok (.iload_n 1, 1) := by decide +kernel
theorem dJ9_max_7cf53_2 : decode cJ9_max_7cf53 2 = .ok (.if_icmp .lt 7, 3) := by decide +kernel
theorem dJ9_max_7cf53_5 : decode cJ9_max_7cf53 5 = .ok (.iload_n 0, 1) := by decide +kernel
theorem dJ9_max_7cf53_6 : decode cJ9_max_7cf53 6 = .ok (.goto 4, 3) := by decide +kernel
theorem dJ9_max_7cf53_9 : decode cJ9_max_7cf53 9 = .ok (.iload_n 1, 1) := by decide +kernel
theorem dJ9_max_7cf53_10 : decode cJ9_max_7cf53 10 = .ok (.ireturn, 1) := by decide +kernel
theorem dJ9_min_7cf53_0 : decode cJ9_min_7cf53 0 = .ok (.iload_n 0, 1) := by decide +kernel
theorem dJ9_min_7cf53_1 : decode cJ9_min_7cf53 1 = .ok (.iload_n 1, 1) := by decide +kernel
theorem dJ9_min_7cf53_2 : decode cJ9_min_7cf53 2 = .ok (.if_icmp .gt 7, 3) := by decide +kernel
theorem dJ9_min_7cf53_5 : decode cJ9_min_7cf53 5 = .ok (.iload_n 0, 1) := by decide +kernel
theorem dJ9_min_7cf53_6 : decode cJ9_min_7cf53 6 = .ok (.goto 4, 3) := by decide +kernel
theorem dJ9_min_7cf53_9 : decode cJ9_min_7cf53 9 = .ok (.iload_n 1, 1) := by decide +kernel
theorem dJ9_min_7cf53_10 : decode cJ9_min_7cf53 10 = .ok (.ireturn, 1) := by decide +kernel
theorem dJ0_length_8abf5_0 : decode cJ0_length_8abf5 0 = .ok (.aload_n 0, 1) := by decide +kernel
theorem dJ0_length_8abf5_1 : decode cJ0_length_8abf5 1 = .ok (.getfield 9, 3) := by decide +kernel
theorem dJ0_length_8abf5_4 : decode cJ0_length_8abf5 4 = .ok (.arraylength, 1) := by decide +kernel
theorem dJ0_length_8abf5_5 : decode cJ0_length_8abf5 5 = .ok (.aload_n 0, 1) := by decide +kernel
theorem dJ0_length_8abf5_6 : decode cJ0_length_8abf5 6 = .ok (.invokevirtual 335, 3) := by decide +kernel
theorem dJ0_length_8abf5_9 : decode cJ0_length_8abf5 9 = .ok (.ishr, 1) := by decide +kernel
theorem dJ0_length_8abf5_10 : decode cJ0_length_8abf5 10 = .ok (.ireturn, 1) := by decide +kernel
theorem dJ0_indexOf_0f7a4_0 : decode cJ0_indexOf_0f7a4 0 = .ok (.aload_n 0, 1) := by decide +kernel
theorem dJ0_indexOf_0f7a4_1 : decode cJ0_indexOf_0f7a4 1 = .ok (.iload_n 1, 1) := by decide +kernel
theorem dJ0_indexOf_0f7a4_2 : decode cJ0_indexOf_0f7a4 2 = .ok (.iconst 0, 1) := by decide +kernel
theorem dJ0_indexOf_0f7a4_3 : decode cJ0_indexOf_0f7a4 3 = .ok (.invokevirtual 633, 3) := by decide +kernel
theorem dJ0_indexOf_0f7a4_6 : decode cJ0_indexOf_0f7a4 6 = .ok (.ireturn, 1) := by decide +kernel
theorem dJ0_indexOf_7cf53_0 : decode cJ0_indexOf_7cf53 0 = .ok (.aload_n 0, 1) := by decide +kernel
theorem dJ0_indexOf_7cf53_1 : decode cJ0_indexOf_7cf53 1 = .ok (.invokevirtual 492, 3) := by decide +kernel
theorem dJ0_indexOf_7cf53_4 : decode cJ0_indexOf_7cf53 4 = .ok (.ifCond .eq 19, 3) := by decide +kernel
theorem dJ0_indexOf_7cf53_7 : decode cJ0_indexOf_7cf53 7 = .ok (.aload_n 0, 1) := by decide +kernel
theorem dJ0_indexOf_7cf53_8 : decode cJ0_indexOf_7cf53 8 = .ok (.getfield 9, 3) := by decide +kernel
theorem dJ0_indexOf_7cf53_11 : decode cJ0_indexOf_7cf53 11 = .ok (.iload_n 1, 1) := by decide +kernel
theorem dJ0_indexOf_7cf53_12 : decode cJ0_indexOf_7cf53 12 = .ok (.iload_n 2, 1) := by decide +kernel
theorem dJ0_indexOf_7cf53_13 : decode cJ0_indexOf_7cf53 13 = .ok (.aload_n 0, 1) := by decide +kernel
theorem dJ0_indexOf_7cf53_14 : decode cJ0_indexOf_7cf53 14 = .ok (.invokevirtual 505, 3) := by decide +kernel
theorem dJ0_indexOf_7cf53_17 : decode cJ0_indexOf_7cf53 17 = .ok (.invokestatic 637, 3) := by decide +kernel
theorem dJ0_indexOf_7cf53_20 : decode cJ0_indexOf_7cf53 20 = .ok (.goto 16, 3) := by decide +kernel
theorem dJ0_indexOf_7cf53_23 : decode cJ0_indexOf_7cf53 23 = .ok (.aload_n 0, 1) := by decide +kernel
theorem dJ0_indexOf_7cf53_24 : decode cJ0_indexOf_7cf53 24 = .ok (.getfield 9, 3) := by decide +kernel
theorem dJ0_indexOf_7cf53_27 : decode cJ0_indexOf_7cf53 27 = .ok (.iload_n 1, 1) := by decide +kernel
theorem dJ0_indexOf_7cf53_28 : decode cJ0_indexOf_7cf53 28 = .ok (.iload_n 2, 1) := by decide +kernel
theorem dJ0_indexOf_7cf53_29 : decode cJ0_indexOf_7cf53 29 = .ok (.aload_n 0, 1) := by decide +kernel
theorem dJ0_indexOf_7cf53_30 : decode cJ0_indexOf_7cf53 30 = .ok (.invokevirtual 505, 3) := by decide +kernel
theorem dJ0_indexOf_7cf53_33 : decode cJ0_indexOf_7cf53 33 = .ok (.invokestatic 640, 3) := by decide +kernel
