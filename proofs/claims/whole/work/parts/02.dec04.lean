theorem dX9_back_29 : decode cX9_back 29 = .ok (.ifCond .ne 6, 3) := by decide +kernel
theorem dX9_back_32 : decode cX9_back 32 = .ok (.bipush (-3), 2) := by decide +kernel
theorem dX9_back_34 : decode cX9_back 34 = .ok (.ireturn, 1) := by decide +kernel
theorem dX9_back_35 : decode cX9_back 35 = .ok (.aload_n 0, 1) := by decide +kernel
theorem dX9_back_36 : decode cX9_back 36 = .ok (.dup, 1) := by decide +kernel
theorem dX9_back_37 : decode cX9_back 37 = .ok (.getfield 170, 3) := by decide +kernel
theorem dX9_back_40 : decode cX9_back 40 = .ok (.iload_n 1, 1) := by decide +kernel
theorem dX9_back_41 : decode cX9_back 41 = .ok (.ifCond .ne 7, 3) := by decide +kernel
theorem dX9_back_44 : decode cX9_back 44 = .ok (.iconst 1, 1) := by decide +kernel
theorem dX9_back_45 : decode cX9_back 45 = .ok (.goto 4, 3) := by decide +kernel
theorem dX9_back_48 : decode cX9_back 48 = .ok (.iconst 0, 1) := by decide +kernel
theorem dX9_back_49 : decode cX9_back 49 = .ok (.isub, 1) := by decide +kernel
theorem dX9_back_50 : decode cX9_back 50 = .ok (.putfield 170, 3) := by decide +kernel
theorem dX9_back_53 : decode cX9_back 53 = .ok (.aload_n 0, 1) := by decide +kernel
theorem dX9_back_54 : decode cX9_back 54 = .ok (.dup, 1) := by decide +kernel
theorem dX9_back_55 : decode cX9_back 55 = .ok (.getfield 173, 3) := by decide +kernel
theorem dX9_back_58 : decode cX9_back 58 = .ok (.iload_n 1, 1) := by decide +kernel
theorem dX9_back_59 : decode cX9_back 59 = .ok (.iconst 1, 1) := by decide +kernel
theorem dX9_back_60 : decode cX9_back 60 = .ok (.if_icmp .ne 7, 3) := by decide +kernel
theorem dX9_back_63 : decode cX9_back 63 = .ok (.iconst 1, 1) := by decide +kernel
theorem dX9_back_64 : decode cX9_back 64 = .ok (.goto 4, 3) := by decide +kernel
theorem dX9_back_67 : decode cX9_back 67 = .ok (.iconst 0, 1) := by decide +kernel
theorem dX9_back_68 : decode cX9_back 68 = .ok (.isub, 1) := by decide +kernel
theorem dX9_back_69 : decode cX9_back 69 = .ok (.putfield 173, 3) := by decide +kernel
theorem dX9_back_72 : decode cX9_back 72 = .ok (.iload_n 2, 1) := by decide +kernel
theorem dX9_back_73 : decode cX9_back 73 = .ok (.iconst 1, 1) := by decide +kernel
theorem dX9_back_74 : decode cX9_back 74 = .ok (.isub, 1) := by decide +kernel
theorem dX9_back_75 : decode cX9_back 75 = .ok (.ireturn, 1) := by decide +kernel
theorem dX9_read_0 : decode cX9_read 0 = .ok (.iload_n 1, 1) := by decide +kernel
theorem dX9_read_1 : decode cX9_read 1 = .ok (.invokestatic 176, 3) := by decide +kernel
theorem dX9_read_4 : decode cX9_read 4 = .ok (.ifCond .ne 6, 3) := by decide +kernel
theorem dX9_read_7 : decode cX9_read 7 = .ok (.bipush (-2), 2) := by decide +kernel
theorem dX9_read_9 : decode cX9_read 9 = .ok (.ireturn, 1) := by decide +kernel
theorem dX9_read_10 : decode cX9_read 10 = .ok (.aload_n 0, 1) := by decide +kernel
theorem dX9_read_11 : decode cX9_read 11 = .ok (.getfield 86, 3) := by decide +kernel
theorem dX9_read_14 : decode cX9_read 14 = .ok (.iload_n 1, 1) := by decide +kernel
theorem dX9_read_15 : decode cX9_read 15 = .ok (.baload, 1) := by decide +kernel
theorem dX9_read_16 : decode cX9_read 16 = .ok (.ifCond .ne 9, 3) := by decide +kernel
theorem dX9_read_19 : decode cX9_read 19 = .ok (.aload_n 0, 1) := by decide +kernel
theorem dX9_read_20 : decode cX9_read 20 = .ok (.iconst 1, 1) := by decide +kernel
theorem dX9_read_21 : decode cX9_read 21 = .ok (.invokevirtual 179, 3) := by decide +kernel
theorem dX9_read_24 : decode cX9_read 24 = .ok (.ireturn, 1) := by decide +kernel
theorem dX9_read_25 : decode cX9_read 25 = .ok (.iconst 0, 1) := by decide +kernel
theorem dX9_read_26 : decode cX9_read 26 = .ok (.istore_n 2, 1) := by decide +kernel
theorem dX9_read_27 : decode cX9_read 27 = .ok (.iconst 2, 1) := by decide +kernel
theorem dX9_read_28 : decode cX9_read 28 = .ok (.iload_n 2, 1) := by decide +kernel
theorem dX9_read_29 : decode cX9_read 29 = .ok (.imul, 1) := by decide +kernel
theorem dX9_read_30 : decode cX9_read 30 = .ok (.iconst 1, 1) := by decide +kernel
theorem dX9_read_31 : decode cX9_read 31 = .ok (.iadd, 1) := by decide +kernel
theorem dX9_read_32 : decode cX9_read 32 = .ok (.aload_n 0, 1) := by decide +kernel
theorem dX9_read_33 : decode cX9_read 33 = .ok (.getfield 92, 3) := by decide +kernel
theorem dX9_read_36 : decode cX9_read 36 = .ok (.iload_n 1, 1) := by decide +kernel
theorem dX9_read_37 : decode cX9_read 37 = .ok (.iaload, 1) := by decide +kernel
theorem dX9_read_38 : decode cX9_read 38 = .ok (.if_icmp .ge 44, 3) := by decide +kernel
theorem dX9_read_41 : decode cX9_read 41 = .ok (.aload_n 0, 1) := by decide +kernel
theorem dX9_read_42 : decode cX9_read 42 = .ok (.aload_n 0, 1) := by decide +kernel
theorem dX9_read_43 : decode cX9_read 43 = .ok (.getfield 95, 3) := by decide +kernel
theorem dX9_read_46 : decode cX9_read 46 = .ok (.bipush 60, 2) := by decide +kernel
theorem dX9_read_48 : decode cX9_read 48 = .ok (.iload_n 1, 1) := by decide +kernel
theorem dX9_read_49 : decode cX9_read 49 = .ok (.imul, 1) := by decide +kernel
theorem dX9_read_50 : decode cX9_read 50 = .ok (.iconst 2, 1) := by decide +kernel
theorem dX9_read_51 : decode cX9_read 51 = .ok (.iload_n 2, 1) := by decide +kernel
theorem dX9_read_52 : decode cX9_read 52 = .ok (.imul, 1) := by decide +kernel
theorem dX9_read_53 : decode cX9_read 53 = .ok (.iadd, 1) := by decide +kernel
theorem dX9_read_54 : decode cX9_read 54 = .ok (.iaload, 1) := by decide +kernel
theorem dX9_read_55 : decode cX9_read 55 = .ok (.aload_n 0, 1) := by decide +kernel
theorem dX9_read_56 : decode cX9_read 56 = .ok (.getfield 95, 3) := by decide +kernel
theorem dX9_read_59 : decode cX9_read 59 = .ok (.bipush 60, 2) := by decide +kernel
theorem dX9_read_61 : decode cX9_read 61 = .ok (.iload_n 1, 1) := by decide +kernel
theorem dX9_read_62 : decode cX9_read 62 = .ok (.imul, 1) := by decide +kernel
theorem dX9_read_63 : decode cX9_read 63 = .ok (.iconst 2, 1) := by decide +kernel
theorem dX9_read_64 : decode cX9_read 64 = .ok (.iload_n 2, 1) := by decide +kernel
theorem dX9_read_65 : decode cX9_read 65 = .ok (.imul, 1) := by decide +kernel
theorem dX9_read_66 : decode cX9_read 66 = .ok (.iadd, 1) := by decide +kernel
theorem dX9_read_67 : decode cX9_read 67 = .ok (.iconst 1, 1) := by decide +kernel
theorem dX9_read_68 : decode cX9_read 68 = .ok (.iadd, 1) := by decide +kernel
theorem dX9_read_69 : decode cX9_read 69 = .ok (.iaload, 1) := by decide +kernel
theorem dX9_read_70 : decode cX9_read 70 = .ok (.invokevirtual 182, 3) := by decide +kernel
theorem dX9_read_73 : decode cX9_read 73 = .ok (.ifCond .le 9, 3) := by decide +kernel
theorem dX9_read_76 : decode cX9_read 76 = .ok (.iinc 2 1, 3) := by decide +kernel
theorem dX9_read_79 : decode cX9_read 79 = .ok (.goto (-52), 3) := by decide +kernel
theorem dX9_read_82 : decode cX9_read 82 = .ok (.iload_n 2, 1) := by decide +kernel
theorem dX9_read_83 : decode cX9_read 83 = .ok (.ireturn, 1) := by decide +kernel
theorem dX9_asTold_0 : decode cX9_asTold 0 = .ok (.aload_n 0, 1) := by decide +kernel
theorem dX9_asTold_1 : decode cX9_asTold 1 = .ok (.invokevirtual 151, 3) := by decide +kernel
theorem dX9_asTold_4 : decode cX9_asTold 4 = .ok (.aload_n 0, 1) := by decide +kernel
theorem dX9_asTold_5 : decode cX9_asTold 5 = .ok (.aload_n 0, 1) := by decide +kernel
theorem dX9_asTold_6 : decode cX9_asTold 6 = .ok (.getfield 170, 3) := by decide +kernel
theorem dX9_asTold_9 : decode cX9_asTold 9 = .ok (.putfield 185, 3) := by decide +kernel
theorem dX9_asTold_12 : decode cX9_asTold 12 = .ok (.iconst 0, 1) := by decide +kernel
theorem dX9_asTold_13 : decode cX9_asTold 13 = .ok (.istore_n 1, 1) := by decide +kernel
theorem dX9_asTold_14 : decode cX9_asTold 14 = .ok (.iload_n 1, 1) := by decide +kernel
theorem dX9_asTold_15 : decode cX9_asTold 15 = .ok (.aload_n 0, 1) := by decide +kernel
theorem dX9_asTold_16 : decode cX9_asTold 16 = .ok (.getfield 170, 3) := by decide +kernel
theorem dX9_asTold_19 : decode cX9_asTold 19 = .ok (.if_icmp .ge 33, 3) := by decide +kernel
theorem dX9_asTold_22 : decode cX9_asTold 22 = .ok (.aload_n 0, 1) := by decide +kernel
theorem dX9_asTold_23 : decode cX9_asTold 23 = .ok (.getfield 43, 3) := by decide +kernel
theorem dX9_asTold_26 : decode cX9_asTold 26 = .ok (.iload_n 1, 1) := by decide +kernel
theorem dX9_asTold_27 : decode cX9_asTold 27 = .ok (.aload_n 0, 1) := by decide +kernel
theorem dX9_asTold_28 : decode cX9_asTold 28 = .ok (.getfield 25, 3) := by decide +kernel
theorem dX9_asTold_31 : decode cX9_asTold 31 = .ok (.iload_n 1, 1) := by decide +kernel
theorem dX9_asTold_32 : decode cX9_asTold 32 = .ok (.iaload, 1) := by decide +kernel
theorem dX9_asTold_33 : decode cX9_asTold 33 = .ok (.iastore, 1) := by decide +kernel
theorem dX9_asTold_34 : decode cX9_asTold 34 = .ok (.aload_n 0, 1) := by decide +kernel
theorem dX9_asTold_35 : decode cX9_asTold 35 = .ok (.getfield 46, 3) := by decide +kernel
theorem dX9_asTold_38 : decode cX9_asTold 38 = .ok (.iload_n 1, 1) := by decide +kernel
theorem dX9_asTold_39 : decode cX9_asTold 39 = .ok (.aload_n 0, 1) := by decide +kernel
theorem dX9_asTold_40 : decode cX9_asTold 40 = .ok (.getfield 28, 3) := by decide +kernel
theorem dX9_asTold_43 : decode cX9_asTold 43 = .ok (.iload_n 1, 1) := by decide +kernel
theorem dX9_asTold_44 : decode cX9_asTold 44 = .ok (.iaload, 1) := by decide +kernel
theorem dX9_asTold_45 : decode cX9_asTold 45 = .ok (.iastore, 1) := by decide +kernel
theorem dX9_asTold_46 : decode cX9_asTold 46 = .ok (.iinc 1 1, 3) := by decide +kernel
theorem dX9_asTold_49 : decode cX9_asTold 49 = .ok (.goto (-35), 3) := by decide +kernel
theorem dX9_asTold_52 : decode cX9_asTold 52 = .ok (.aload_n 0, 1) := by decide +kernel
theorem dX9_asTold_53 : decode cX9_asTold 53 = .ok (.iconst 0, 1) := by decide +kernel
theorem dX9_asTold_54 : decode cX9_asTold 54 = .ok (.putfield 188, 3) := by decide +kernel
theorem dX9_asTold_57 : decode cX9_asTold 57 = .ok (.aload_n 0, 1) := by decide +kernel
theorem dX9_asTold_58 : decode cX9_asTold 58 = .ok (.aload_n 0, 1) := by decide +kernel
theorem dX9_asTold_59 : decode cX9_asTold 59 = .ok (.getfield 173, 3) := by decide +kernel
theorem dX9_asTold_62 : decode cX9_asTold 62 = .ok (.putfield 191, 3) := by decide +kernel
theorem dX9_asTold_65 : decode cX9_asTold 65 = .ok (.return_, 1) := by decide +kernel
theorem dX9_handNow_0 : decode cX9_handNow 0 = .ok (.iload_n 1, 1) := by decide +kernel
theorem dX9_handNow_1 : decode cX9_handNow 1 = .ok (.iconst 0, 1) := by decide +kernel
theorem dX9_handNow_2 : decode cX9_handNow 2 = .ok (.aload_n 0, 1) := by decide +kernel
theorem dX9_handNow_3 : decode cX9_handNow 3 = .ok (.getfield 118, 3) := by decide +kernel
theorem dX9_handNow_6 : decode cX9_handNow 6 = .ok (.iconst 1, 1) := by decide +kernel
theorem dX9_handNow_7 : decode cX9_handNow 7 = .ok (.isub, 1) := by decide +kernel
theorem dX9_handNow_8 : decode cX9_handNow 8 = .ok (.invokestatic 107, 3) := by decide +kernel
theorem dX9_handNow_11 : decode cX9_handNow 11 = .ok (.ifCond .eq 31, 3) := by decide +kernel
theorem dX9_handNow_14 : decode cX9_handNow 14 = .ok (.iload_n 2, 1) := by decide +kernel
theorem dX9_handNow_15 : decode cX9_handNow 15 = .ok (.iconst 0, 1) := by decide +kernel
theorem dX9_handNow_16 : decode cX9_handNow 16 = .ok (.aload_n 0, 1) := by decide +kernel
theorem dX9_handNow_17 : decode cX9_handNow 17 = .ok (.getfield 121, 3) := by decide +kernel
theorem dX9_handNow_20 : decode cX9_handNow 20 = .ok (.iconst 1, 1) := by decide +kernel
theorem dX9_handNow_21 : decode cX9_handNow 21 = .ok (.isub, 1) := by decide +kernel
theorem dX9_handNow_22 : decode cX9_handNow 22 = .ok (.invokestatic 107, 3) := by decide +kernel
theorem dX9_handNow_25 : decode cX9_handNow 25 = .ok (.ifCond .eq 17, 3) := by decide +kernel
theorem dX9_handNow_28 : decode cX9_handNow 28 = .ok (.aload_n 0, 1) := by decide +kernel
theorem dX9_handNow_29 : decode cX9_handNow 29 = .ok (.getfield 40, 3) := by decide +kernel
theorem dX9_handNow_32 : decode cX9_handNow 32 = .ok (.bipush 8, 2) := by decide +kernel
theorem dX9_handNow_34 : decode cX9_handNow 34 = .ok (.iload_n 1, 1) := by decide +kernel
theorem dX9_handNow_35 : decode cX9_handNow 35 = .ok (.imul, 1) := by decide +kernel
theorem dX9_handNow_36 : decode cX9_handNow 36 = .ok (.iload_n 2, 1) := by decide +kernel
theorem dX9_handNow_37 : decode cX9_handNow 37 = .ok (.iadd, 1) := by decide +kernel
theorem dX9_handNow_38 : decode cX9_handNow 38 = .ok (.iaload, 1) := by decide +kernel
theorem dX9_handNow_39 : decode cX9_handNow 39 = .ok (.goto 4, 3) := by decide +kernel
theorem dX9_handNow_42 : decode cX9_handNow 42 = .ok (.iconst (-1), 1) := by decide +kernel
theorem dX9_handNow_43 : decode cX9_handNow 43 = .ok (.ireturn, 1) := by decide +kernel
theorem dX9_isBorne_0 : decode cX9_isBorne 0 = .ok (.aload_n 0, 1) := by decide +kernel
theorem dX9_isBorne_1 : decode cX9_isBorne 1 = .ok (.iload_n 1, 1) := by decide +kernel
theorem dX9_isBorne_2 : decode cX9_isBorne 2 = .ok (.iconst 1, 1) := by decide +kernel
theorem dX9_isBorne_3 : decode cX9_isBorne 3 = .ok (.isub, 1) := by decide +kernel
theorem dX9_isBorne_4 : decode cX9_isBorne 4 = .ok (.iload_n 2, 1) := by decide +kernel
theorem dX9_isBorne_5 : decode cX9_isBorne 5 = .ok (.invokevirtual 194, 3) := by decide +kernel
theorem dX9_isBorne_8 : decode cX9_isBorne 8 = .ok (.iconst (-1), 1) := by decide +kernel
theorem dX9_isBorne_9 : decode cX9_isBorne 9 = .ok (.if_icmp .eq 7, 3) := by decide +kernel
theorem dX9_isBorne_12 : decode cX9_isBorne 12 = .ok (.iconst 1, 1) := by decide +kernel
theorem dX9_isBorne_13 : decode cX9_isBorne 13 = .ok (.goto 4, 3) := by decide +kernel
theorem dX9_isBorne_16 : decode cX9_isBorne 16 = .ok (.iconst 0, 1) := by decide +kernel
theorem dX9_isBorne_17 : decode cX9_isBorne 17 = .ok (.istore_n 3, 1) := by decide +kernel
theorem dX9_isBorne_18 : decode cX9_isBorne 18 = .ok (.aload_n 0, 1) := by decide +kernel
theorem dX9_isBorne_19 : decode cX9_isBorne 19 = .ok (.iload_n 1, 1) := by decide +kernel
theorem dX9_isBorne_20 : decode cX9_isBorne 20 = .ok (.iconst 1, 1) := by decide +kernel
theorem dX9_isBorne_21 : decode cX9_isBorne 21 = .ok (.isub, 1) := by decide +kernel
theorem dX9_isBorne_22 : decode cX9_isBorne 22 = .ok (.iload_n 2, 1) := by decide +kernel
theorem dX9_isBorne_23 : decode cX9_isBorne 23 = .ok (.iconst 1, 1) := by decide +kernel
theorem dX9_isBorne_24 : decode cX9_isBorne 24 = .ok (.isub, 1) := by decide +kernel
theorem dX9_isBorne_25 : decode cX9_isBorne 25 = .ok (.invokevirtual 194, 3) := by decide +kernel
theorem dX9_isBorne_28 : decode cX9_isBorne 28 = .ok (.iconst (-1), 1) := by decide +kernel
theorem dX9_isBorne_29 : decode cX9_isBorne 29 = .ok (.if_icmp .eq 21, 3) := by decide +kernel
theorem dX9_isBorne_32 : decode cX9_isBorne 32 = .ok (.aload_n 0, 1) := by decide +kernel
theorem dX9_isBorne_33 : decode cX9_isBorne 33 = .ok (.iload_n 1, 1) := by decide +kernel
theorem dX9_isBorne_34 : decode cX9_isBorne 34 = .ok (.iconst 1, 1) := by decide +kernel
theorem dX9_isBorne_35 : decode cX9_isBorne 35 = .ok (.isub, 1) := by decide +kernel
theorem dX9_isBorne_36 : decode cX9_isBorne 36 = .ok (.iload_n 2, 1) := by decide +kernel
theorem dX9_isBorne_37 : decode cX9_isBorne 37 = .ok (.iconst 1, 1) := by decide +kernel
theorem dX9_isBorne_38 : decode cX9_isBorne 38 = .ok (.iadd, 1) := by decide +kernel
theorem dX9_isBorne_39 : decode cX9_isBorne 39 = .ok (.invokevirtual 194, 3) := by decide +kernel
theorem dX9_isBorne_42 : decode cX9_isBorne 42 = .ok (.iconst (-1), 1) := by decide +kernel
theorem dX9_isBorne_43 : decode cX9_isBorne 43 = .ok (.if_icmp .eq 7, 3) := by decide +kernel
theorem dX9_isBorne_46 : decode cX9_isBorne 46 = .ok (.iconst 1, 1) := by decide +kernel
theorem dX9_isBorne_47 : decode cX9_isBorne 47 = .ok (.goto 4, 3) := by decide +kernel
theorem dX9_isBorne_50 : decode cX9_isBorne 50 = .ok (.iconst 0, 1) := by decide +kernel
theorem dX9_isBorne_51 : decode cX9_isBorne 51 = .ok (.istore 4, 2) := by decide +kernel
theorem dX9_isBorne_53 : decode cX9_isBorne 53 = .ok (.iload_n 1, 1) := by decide +kernel
theorem dX9_isBorne_54 : decode cX9_isBorne 54 = .ok (.ifCond .eq 12, 3) := by decide +kernel
theorem dX9_isBorne_57 : decode cX9_isBorne 57 = .ok (.iload_n 3, 1) := by decide +kernel
theorem dX9_isBorne_58 : decode cX9_isBorne 58 = .ok (.ifCond .ne 8, 3) := by decide +kernel
theorem dX9_isBorne_61 : decode cX9_isBorne 61 = .ok (.iload 4, 2) := by decide +kernel
theorem dX9_isBorne_63 : decode cX9_isBorne 63 = .ok (.ifCond .eq 7, 3) := by decide +kernel
theorem dX9_isBorne_66 : decode cX9_isBorne 66 = .ok (.iconst 1, 1) := by decide +kernel
theorem dX9_isBorne_67 : decode cX9_isBorne 67 = .ok (.goto 4, 3) := by decide +kernel
theorem dX9_isBorne_70 : decode cX9_isBorne 70 = .ok (.iconst 0, 1) := by decide +kernel
theorem dX9_isBorne_71 : decode cX9_isBorne 71 = .ok (.ireturn, 1) := by decide +kernel
theorem dX9_alike_0 : decode cX9_alike 0 = .ok (.iload_n 2, 1) := by decide +kernel
theorem dX9_alike_1 : decode cX9_alike 1 = .ok (.iload_n 1, 1) := by decide +kernel
theorem dX9_alike_2 : decode cX9_alike 2 = .ok (.if_icmp .ne 7, 3) := by decide +kernel
theorem dX9_alike_5 : decode cX9_alike 5 = .ok (.iconst 1, 1) := by decide +kernel
theorem dX9_alike_6 : decode cX9_alike 6 = .ok (.goto 4, 3) := by decide +kernel
theorem dX9_alike_9 : decode cX9_alike 9 = .ok (.iconst 0, 1) := by decide +kernel
theorem dX9_alike_10 : decode cX9_alike 10 = .ok (.ireturn, 1) := by decide +kernel
theorem dX9_unlike_0 : decode cX9_unlike 0 = .ok (.iload_n 2, 1) := by decide +kernel
theorem dX9_unlike_1 : decode cX9_unlike 1 = .ok (.iconst (-1), 1) := by decide +kernel
theorem dX9_unlike_2 : decode cX9_unlike 2 = .ok (.if_icmp .eq 12, 3) := by decide +kernel
theorem dX9_unlike_5 : decode cX9_unlike 5 = .ok (.iload_n 2, 1) := by decide +kernel
theorem dX9_unlike_6 : decode cX9_unlike 6 = .ok (.iload_n 1, 1) := by decide +kernel
theorem dX9_unlike_7 : decode cX9_unlike 7 = .ok (.if_icmp .eq 7, 3) := by decide +kernel
theorem dX9_unlike_10 : decode cX9_unlike 10 = .ok (.iconst 1, 1) := by decide +kernel
theorem dX9_unlike_11 : decode cX9_unlike 11 = .ok (.goto 4, 3) := by decide +kernel
theorem dX9_unlike_14 : decode cX9_unlike 14 = .ok (.iconst 0, 1) := by decide +kernel
theorem dX9_unlike_15 : decode cX9_unlike 15 = .ok (.ireturn, 1) := by decide +kernel
theorem dX9_isLover_0 : decode cX9_isLover 0 = .ok (.iload_n 1, 1) := by decide +kernel
theorem dX9_isLover_1 : decode cX9_isLover 1 = .ok (.iconst (-1), 1) := by decide +kernel
theorem dX9_isLover_2 : decode cX9_isLover 2 = .ok (.if_icmp .eq 25, 3) := by decide +kernel
theorem dX9_isLover_5 : decode cX9_isLover 5 = .ok (.iload_n 1, 1) := by decide +kernel
theorem dX9_isLover_6 : decode cX9_isLover 6 = .ok (.aload_n 0, 1) := by decide +kernel
theorem dX9_isLover_7 : decode cX9_isLover 7 = .ok (.getfield 135, 3) := by decide +kernel
theorem dX9_isLover_10 : decode cX9_isLover 10 = .ok (.if_icmp .ge 17, 3) := by decide +kernel
theorem dX9_isLover_13 : decode cX9_isLover 13 = .ok (.aload_n 0, 1) := by decide +kernel
theorem dX9_isLover_14 : decode cX9_isLover 14 = .ok (.getfield 19, 3) := by decide +kernel
theorem dX9_isLover_17 : decode cX9_isLover 17 = .ok (.iload_n 1, 1) := by decide +kernel
theorem dX9_isLover_18 : decode cX9_isLover 18 = .ok (.iaload, 1) := by decide +kernel
theorem dX9_isLover_19 : decode cX9_isLover 19 = .ok (.iconst 2, 1) := by decide +kernel
theorem dX9_isLover_20 : decode cX9_isLover 20 = .ok (.if_icmp .ne 7, 3) := by decide +kernel
theorem dX9_isLover_23 : decode cX9_isLover 23 = .ok (.iconst 1, 1) := by decide +kernel
theorem dX9_isLover_24 : decode cX9_isLover 24 = .ok (.goto 4, 3) := by decide +kernel
theorem dX9_isLover_27 : decode cX9_isLover 27 = .ok (.iconst 0, 1) := by decide +kernel
theorem dX9_isLover_28 : decode cX9_isLover 28 = .ok (.ireturn, 1) := by decide +kernel
theorem dX9_loves_0 : decode cX9_loves 0 = .ok (.iload_n 2, 1) := by decide +kernel
theorem dX9_loves_1 : decode cX9_loves 1 = .ok (.iload_n 1, 1) := by decide +kernel
theorem dX9_loves_2 : decode cX9_loves 2 = .ok (.if_icmp .eq 15, 3) := by decide +kernel
theorem dX9_loves_5 : decode cX9_loves 5 = .ok (.aload_n 0, 1) := by decide +kernel
theorem dX9_loves_6 : decode cX9_loves 6 = .ok (.iload_n 2, 1) := by decide +kernel
theorem dX9_loves_7 : decode cX9_loves 7 = .ok (.invokevirtual 197, 3) := by decide +kernel
theorem dX9_loves_10 : decode cX9_loves 10 = .ok (.ifCond .eq 7, 3) := by decide +kernel
theorem dX9_loves_13 : decode cX9_loves 13 = .ok (.iconst 1, 1) := by decide +kernel
theorem dX9_loves_14 : decode cX9_loves 14 = .ok (.goto 4, 3) := by decide +kernel
theorem dX9_loves_17 : decode cX9_loves 17 = .ok (.iconst 0, 1) := by decide +kernel
theorem dX9_loves_18 : decode cX9_loves 18 = .ok (.ireturn, 1) := by decide +kernel
theorem dX9_holds_0 : decode cX9_holds 0 = .ok (.aload_n 0, 1) := by decide +kernel
theorem dX9_holds_1 : decode cX9_holds 1 = .ok (.iload_n 1, 1) := by decide +kernel
theorem dX9_holds_2 : decode cX9_holds 2 = .ok (.iload_n 2, 1) := by decide +kernel
theorem dX9_holds_3 : decode cX9_holds 3 = .ok (.invokevirtual 194, 3) := by decide +kernel
theorem dX9_holds_6 : decode cX9_holds 6 = .ok (.istore_n 3, 1) := by decide +kernel
theorem dX9_holds_7 : decode cX9_holds 7 = .ok (.iload_n 3, 1) := by decide +kernel
theorem dX9_holds_8 : decode cX9_holds 8 = .ok (.aload_n 0, 1) := by decide +kernel
theorem dX9_holds_9 : decode cX9_holds 9 = .ok (.getfield 135, 3) := by decide +kernel
theorem dX9_holds_12 : decode cX9_holds 12 = .ok (.if_icmp .lt 5, 3) := by decide +kernel
theorem dX9_holds_15 : decode cX9_holds 15 = .ok (.iconst 0, 1) := by decide +kernel
theorem dX9_holds_16 : decode cX9_holds 16 = .ok (.ireturn, 1) := by decide +kernel
theorem dX9_holds_17 : decode cX9_holds 17 = .ok (.aload_n 0, 1) := by decide +kernel
theorem dX9_holds_18 : decode cX9_holds 18 = .ok (.iload_n 1, 1) := by decide +kernel
theorem dX9_holds_19 : decode cX9_holds 19 = .ok (.iload_n 2, 1) := by decide +kernel
theorem dX9_holds_20 : decode cX9_holds 20 = .ok (.iconst 1, 1) := by decide +kernel
theorem dX9_holds_21 : decode cX9_holds 21 = .ok (.isub, 1) := by decide +kernel
theorem dX9_holds_22 : decode cX9_holds 22 = .ok (.invokevirtual 194, 3) := by decide +kernel
theorem dX9_holds_25 : decode cX9_holds 25 = .ok (.istore 4, 2) := by decide +kernel
theorem dX9_holds_27 : decode cX9_holds 27 = .ok (.aload_n 0, 1) := by decide +kernel
theorem dX9_holds_28 : decode cX9_holds 28 = .ok (.iload_n 1, 1) := by decide +kernel
theorem dX9_holds_29 : decode cX9_holds 29 = .ok (.iload_n 2, 1) := by decide +kernel
theorem dX9_holds_30 : decode cX9_holds 30 = .ok (.iconst 1, 1) := by decide +kernel
theorem dX9_holds_31 : decode cX9_holds 31 = .ok (.iadd, 1) := by decide +kernel
theorem dX9_holds_32 : decode cX9_holds 32 = .ok (.invokevirtual 194, 3) := by decide +kernel
theorem dX9_holds_35 : decode cX9_holds 35 = .ok (.istore 5, 2) := by decide +kernel
theorem dX9_holds_37 : decode cX9_holds 37 = .ok (.aload_n 0, 1) := by decide +kernel
theorem dX9_holds_38 : decode cX9_holds 38 = .ok (.iload_n 1, 1) := by decide +kernel
theorem dX9_holds_39 : decode cX9_holds 39 = .ok (.iconst 1, 1) := by decide +kernel
theorem dX9_holds_40 : decode cX9_holds 40 = .ok (.isub, 1) := by decide +kernel
theorem dX9_holds_41 : decode cX9_holds 41 = .ok (.iload_n 2, 1) := by decide +kernel
theorem dX9_holds_42 : decode cX9_holds 42 = .ok (.invokevirtual 194, 3) := by decide +kernel
theorem dX9_holds_45 : decode cX9_holds 45 = .ok (.istore 6, 2) := by decide +kernel
theorem dX9_holds_47 : decode cX9_holds 47 = .ok (.aload_n 0, 1) := by decide +kernel
theorem dX9_holds_48 : decode cX9_holds 48 = .ok (.iload_n 1, 1) := by decide +kernel
theorem dX9_holds_49 : decode cX9_holds 49 = .ok (.iconst 1, 1) := by decide +kernel
theorem dX9_holds_50 : decode cX9_holds 50 = .ok (.iadd, 1) := by decide +kernel
theorem dX9_holds_51 : decode cX9_holds 51 = .ok (.iload_n 2, 1) := by decide +kernel
theorem dX9_holds_52 : decode cX9_holds 52 = .ok (.invokevirtual 194, 3) := by decide +kernel
theorem dX9_holds_55 : decode cX9_holds 55 = .ok (.istore 7, 2) := by decide +kernel
theorem dX9_holds_57 : decode cX9_holds 57 = .ok (.aload_n 0, 1) := by decide +kernel
theorem dX9_holds_58 : decode cX9_holds 58 = .ok (.getfield 22, 3) := by decide +kernel
theorem dX9_holds_61 : decode cX9_holds 61 = .ok (.iload_n 3, 1) := by decide +kernel
theorem dX9_holds_62 : decode cX9_holds 62 = .ok (.iaload, 1) := by decide +kernel
theorem dX9_holds_63 : decode cX9_holds 63 = .ok (.aload_n 0, 1) := by decide +kernel
theorem dX9_holds_64 : decode cX9_holds 64 = .ok (.iload_n 3, 1) := by decide +kernel
theorem dX9_holds_65 : decode cX9_holds 65 = .ok (.iload 4, 2) := by decide +kernel
theorem dX9_holds_67 : decode cX9_holds 67 = .ok (.invokevirtual 200, 3) := by decide +kernel
theorem dX9_holds_70 : decode cX9_holds 70 = .ok (.iadd, 1) := by decide +kernel
theorem dX9_holds_71 : decode cX9_holds 71 = .ok (.aload_n 0, 1) := by decide +kernel
theorem dX9_holds_72 : decode cX9_holds 72 = .ok (.iload_n 3, 1) := by decide +kernel
theorem dX9_holds_73 : decode cX9_holds 73 = .ok (.iload 5, 2) := by decide +kernel
theorem dX9_holds_75 : decode cX9_holds 75 = .ok (.invokevirtual 200, 3) := by decide +kernel
theorem dX9_holds_78 : decode cX9_holds 78 = .ok (.iadd, 1) := by decide +kernel
theorem dX9_holds_79 : decode cX9_holds 79 = .ok (.aload_n 0, 1) := by decide +kernel
theorem dX9_holds_80 : decode cX9_holds 80 = .ok (.iload_n 3, 1) := by decide +kernel
theorem dX9_holds_81 : decode cX9_holds 81 = .ok (.iload 6, 2) := by decide +kernel
theorem dX9_holds_83 : decode cX9_holds 83 = .ok (.invokevirtual 200, 3) := by decide +kernel
theorem dX9_holds_86 : decode cX9_holds 86 = .ok (.iadd, 1) := by decide +kernel
theorem dX9_holds_87 : decode cX9_holds 87 = .ok (.aload_n 0, 1) := by decide +kernel
theorem dX9_holds_88 : decode cX9_holds 88 = .ok (.iload_n 3, 1) := by decide +kernel
theorem dX9_holds_89 : decode cX9_holds 89 = .ok (.iload 7, 2) := by decide +kernel
theorem dX9_holds_91 : decode cX9_holds 91 = .ok (.invokevirtual 200, 3) := by decide +kernel
theorem dX9_holds_94 : decode cX9_holds 94 = .ok (.iadd, 1) := by decide +kernel
theorem dX9_holds_95 : decode cX9_holds 95 = .ok (.istore 8, 2) := by decide +kernel
theorem dX9_holds_97 : decode cX9_holds 97 = .ok (.aload_n 0, 1) := by decide +kernel
theorem dX9_holds_98 : decode cX9_holds 98 = .ok (.getfield 19, 3) := by decide +kernel
theorem dX9_holds_101 : decode cX9_holds 101 = .ok (.iload_n 3, 1) := by decide +kernel
theorem dX9_holds_102 : decode cX9_holds 102 = .ok (.iaload, 1) := by decide +kernel
theorem dX9_holds_103 : decode cX9_holds 103 = .ok (.iconst 1, 1) := by decide +kernel
theorem dX9_holds_104 : decode cX9_holds 104 = .ok (.if_icmp .ne 39, 3) := by decide +kernel
theorem dX9_holds_107 : decode cX9_holds 107 = .ok (.iload 8, 2) := by decide +kernel
theorem dX9_holds_109 : decode cX9_holds 109 = .ok (.aload_n 0, 1) := by decide +kernel
theorem dX9_holds_110 : decode cX9_holds 110 = .ok (.iload_n 3, 1) := by decide +kernel
theorem dX9_holds_111 : decode cX9_holds 111 = .ok (.iload 4, 2) := by decide +kernel
theorem dX9_holds_113 : decode cX9_holds 113 = .ok (.invokevirtual 203, 3) := by decide +kernel
theorem dX9_holds_116 : decode cX9_holds 116 = .ok (.aload_n 0, 1) := by decide +kernel
theorem dX9_holds_117 : decode cX9_holds 117 = .ok (.iload_n 3, 1) := by decide +kernel
theorem dX9_holds_118 : decode cX9_holds 118 = .ok (.iload 5, 2) := by decide +kernel
theorem dX9_holds_120 : decode cX9_holds 120 = .ok (.invokevirtual 203, 3) := by decide +kernel
theorem dX9_holds_123 : decode cX9_holds 123 = .ok (.iadd, 1) := by decide +kernel
theorem dX9_holds_124 : decode cX9_holds 124 = .ok (.aload_n 0, 1) := by decide +kernel
theorem dX9_holds_125 : decode cX9_holds 125 = .ok (.iload_n 3, 1) := by decide +kernel
theorem dX9_holds_126 : decode cX9_holds 126 = .ok (.iload 6, 2) := by decide +kernel
theorem dX9_holds_128 : decode cX9_holds 128 = .ok (.invokevirtual 203, 3) := by decide +kernel
theorem dX9_holds_131 : decode cX9_holds 131 = .ok (.iadd, 1) := by decide +kernel
theorem dX9_holds_132 : decode cX9_holds 132 = .ok (.aload_n 0, 1) := by decide +kernel
theorem dX9_holds_133 : decode cX9_holds 133 = .ok (.iload_n 3, 1) := by decide +kernel
theorem dX9_holds_134 : decode cX9_holds 134 = .ok (.iload 7, 2) := by decide +kernel
theorem dX9_holds_136 : decode cX9_holds 136 = .ok (.invokevirtual 203, 3) := by decide +kernel
theorem dX9_holds_139 : decode cX9_holds 139 = .ok (.iadd, 1) := by decide +kernel
theorem dX9_holds_140 : decode cX9_holds 140 = .ok (.isub, 1) := by decide +kernel
theorem dX9_holds_141 : decode cX9_holds 141 = .ok (.istore 8, 2) := by decide +kernel
theorem dX9_holds_143 : decode cX9_holds 143 = .ok (.aload_n 0, 1) := by decide +kernel
theorem dX9_holds_144 : decode cX9_holds 144 = .ok (.getfield 19, 3) := by decide +kernel
theorem dX9_holds_147 : decode cX9_holds 147 = .ok (.iload_n 3, 1) := by decide +kernel
theorem dX9_holds_148 : decode cX9_holds 148 = .ok (.iaload, 1) := by decide +kernel
theorem dX9_holds_149 : decode cX9_holds 149 = .ok (.iconst 2, 1) := by decide +kernel
theorem dX9_holds_150 : decode cX9_holds 150 = .ok (.if_icmp .ne 46, 3) := by decide +kernel
theorem dX9_holds_153 : decode cX9_holds 153 = .ok (.aload_n 0, 1) := by decide +kernel
theorem dX9_holds_154 : decode cX9_holds 154 = .ok (.iload_n 3, 1) := by decide +kernel
theorem dX9_holds_155 : decode cX9_holds 155 = .ok (.iload 4, 2) := by decide +kernel
theorem dX9_holds_157 : decode cX9_holds 157 = .ok (.invokevirtual 206, 3) := by decide +kernel
theorem dX9_holds_160 : decode cX9_holds 160 = .ok (.ifCond .ne 33, 3) := by decide +kernel
theorem dX9_holds_163 : decode cX9_holds 163 = .ok (.aload_n 0, 1) := by decide +kernel
theorem dX9_holds_164 : decode cX9_holds 164 = .ok (.iload_n 3, 1) := by decide +kernel
theorem dX9_holds_165 : decode cX9_holds 165 = .ok (.iload 5, 2) := by decide +kernel
theorem dX9_holds_167 : decode cX9_holds 167 = .ok (.invokevirtual 206, 3) := by decide +kernel
theorem dX9_holds_170 : decode cX9_holds 170 = .ok (.ifCond .ne 23, 3) := by decide +kernel
theorem dX9_holds_173 : decode cX9_holds 173 = .ok (.aload_n 0, 1) := by decide +kernel
theorem dX9_holds_174 : decode cX9_holds 174 = .ok (.iload_n 3, 1) := by decide +kernel
theorem dX9_holds_175 : decode cX9_holds 175 = .ok (.iload 6, 2) := by decide +kernel
theorem dX9_holds_177 : decode cX9_holds 177 = .ok (.invokevirtual 206, 3) := by decide +kernel
theorem dX9_holds_180 : decode cX9_holds 180 = .ok (.ifCond .ne 13, 3) := by decide +kernel
theorem dX9_holds_183 : decode cX9_holds 183 = .ok (.aload_n 0, 1) := by decide +kernel
theorem dX9_holds_184 : decode cX9_holds 184 = .ok (.iload_n 3, 1) := by decide +kernel
theorem dX9_holds_185 : decode cX9_holds 185 = .ok (.iload 7, 2) := by decide +kernel
theorem dX9_holds_187 : decode cX9_holds 187 = .ok (.invokevirtual 206, 3) := by decide +kernel
theorem dX9_holds_190 : decode cX9_holds 190 = .ok (.ifCond .eq 6, 3) := by decide +kernel
theorem dX9_holds_193 : decode cX9_holds 193 = .ok (.iinc 8 2, 3) := by decide +kernel
theorem dX9_holds_196 : decode cX9_holds 196 = .ok (.iload 8, 2) := by decide +kernel
theorem dX9_holds_198 : decode cX9_holds 198 = .ok (.aload_n 0, 1) := by decide +kernel
theorem dX9_holds_199 : decode cX9_holds 199 = .ok (.getfield 19, 3) := by decide +kernel
theorem dX9_holds_202 : decode cX9_holds 202 = .ok (.iload_n 3, 1) := by decide +kernel
theorem dX9_holds_203 : decode cX9_holds 203 = .ok (.iaload, 1) := by decide +kernel
theorem dX9_holds_204 : decode cX9_holds 204 = .ok (.iconst 3, 1) := by decide +kernel
theorem dX9_holds_205 : decode cX9_holds 205 = .ok (.if_icmp .ne 7, 3) := by decide +kernel
theorem dX9_holds_208 : decode cX9_holds 208 = .ok (.iload_n 1, 1) := by decide +kernel
theorem dX9_holds_209 : decode cX9_holds 209 = .ok (.goto 4, 3) := by decide +kernel
theorem dX9_holds_212 : decode cX9_holds 212 = .ok (.iconst 0, 1) := by decide +kernel
theorem dX9_holds_213 : decode cX9_holds 213 = .ok (.isub, 1) := by decide +kernel
theorem dX9_holds_214 : decode cX9_holds 214 = .ok (.istore 8, 2) := by decide +kernel
theorem dX9_holds_216 : decode cX9_holds 216 = .ok (.iload 8, 2) := by decide +kernel
theorem dX9_holds_218 : decode cX9_holds 218 = .ok (.ifCond .le 8, 3) := by decide +kernel
theorem dX9_holds_221 : decode cX9_holds 221 = .ok (.iload 8, 2) := by decide +kernel
theorem dX9_holds_223 : decode cX9_holds 223 = .ok (.goto 4, 3) := by decide +kernel
theorem dX9_holds_226 : decode cX9_holds 226 = .ok (.iconst 0, 1) := by decide +kernel
theorem dX9_holds_227 : decode cX9_holds 227 = .ok (.ireturn, 1) := by decide +kernel
theorem dX9_holdAll_0 : decode cX9_holdAll 0 = .ok (.iconst 0, 1) := by decide +kernel
theorem dX9_holdAll_1 : decode cX9_holdAll 1 = .ok (.istore_n 1, 1) := by decide +kernel
theorem dX9_holdAll_2 : decode cX9_holdAll 2 = .ok (.iload_n 1, 1) := by decide +kernel
theorem dX9_holdAll_3 : decode cX9_holdAll 3 = .ok (.bipush 40, 2) := by decide +kernel
theorem dX9_holdAll_5 : decode cX9_holdAll 5 = .ok (.if_icmp .ge 47, 3) := by decide +kernel
theorem dX9_holdAll_8 : decode cX9_holdAll 8 = .ok (.aload_n 0, 1) := by decide +kernel
theorem dX9_holdAll_9 : decode cX9_holdAll 9 = .ok (.getfield 49, 3) := by decide +kernel
theorem dX9_holdAll_12 : decode cX9_holdAll 12 = .ok (.iload_n 1, 1) := by decide +kernel
theorem dX9_holdAll_13 : decode cX9_holdAll 13 = .ok (.aload_n 0, 1) := by decide +kernel
theorem dX9_holdAll_14 : decode cX9_holdAll 14 = .ok (.iload_n 1, 1) := by decide +kernel
theorem dX9_holdAll_15 : decode cX9_holdAll 15 = .ok (.bipush 8, 2) := by decide +kernel
theorem dX9_holdAll_17 : decode cX9_holdAll 17 = .ok (.idiv, 1) := by decide +kernel
theorem dX9_holdAll_18 : decode cX9_holdAll 18 = .ok (.iload_n 1, 1) := by decide +kernel
theorem dX9_holdAll_19 : decode cX9_holdAll 19 = .ok (.bipush 8, 2) := by decide +kernel
theorem dX9_holdAll_21 : decode cX9_holdAll 21 = .ok (.irem, 1) := by decide +kernel
theorem dX9_holdAll_22 : decode cX9_holdAll 22 = .ok (.invokevirtual 194, 3) := by decide +kernel
theorem dX9_holdAll_25 : decode cX9_holdAll 25 = .ok (.iconst (-1), 1) := by decide +kernel
theorem dX9_holdAll_26 : decode cX9_holdAll 26 = .ok (.if_icmp .ne 7, 3) := by decide +kernel
theorem dX9_holdAll_29 : decode cX9_holdAll 29 = .ok (.iconst (-1), 1) := by decide +kernel
theorem dX9_holdAll_30 : decode cX9_holdAll 30 = .ok (.goto 15, 3) := by decide +kernel
theorem dX9_holdAll_33 : decode cX9_holdAll 33 = .ok (.aload_n 0, 1) := by decide +kernel
theorem dX9_holdAll_34 : decode cX9_holdAll 34 = .ok (.iload_n 1, 1) := by decide +kernel
theorem dX9_holdAll_35 : decode cX9_holdAll 35 = .ok (.bipush 8, 2) := by decide +kernel
theorem dX9_holdAll_37 : decode cX9_holdAll 37 = .ok (.idiv, 1) := by decide +kernel
theorem dX9_holdAll_38 : decode cX9_holdAll 38 = .ok (.iload_n 1, 1) := by decide +kernel
theorem dX9_holdAll_39 : decode cX9_holdAll 39 = .ok (.bipush 8, 2) := by decide +kernel
theorem dX9_holdAll_41 : decode cX9_holdAll 41 = .ok (.irem, 1) := by decide +kernel
theorem dX9_holdAll_42 : decode cX9_holdAll 42 = .ok (.invokevirtual 209, 3) := by decide +kernel
theorem dX9_holdAll_45 : decode cX9_holdAll 45 = .ok (.iastore, 1) := by decide +kernel
theorem dX9_holdAll_46 : decode cX9_holdAll 46 = .ok (.iinc 1 1, 3) := by decide +kernel
theorem dX9_holdAll_49 : decode cX9_holdAll 49 = .ok (.goto (-47), 3) := by decide +kernel
theorem dX9_holdAll_52 : decode cX9_holdAll 52 = .ok (.return_, 1) := by decide +kernel
theorem dX9_drops_0 : decode cX9_drops 0 = .ok (.aload_n 0, 1) := by decide +kernel
theorem dX9_drops_1 : decode cX9_drops 1 = .ok (.getfield 52, 3) := by decide +kernel
theorem dX9_drops_4 : decode cX9_drops 4 = .ok (.aload_n 0, 1) := by decide +kernel
theorem dX9_drops_5 : decode cX9_drops 5 = .ok (.getfield 40, 3) := by decide +kernel
theorem dX9_drops_8 : decode cX9_drops 8 = .ok (.iload_n 1, 1) := by decide +kernel
theorem dX9_drops_9 : decode cX9_drops 9 = .ok (.iaload, 1) := by decide +kernel
theorem dX9_drops_10 : decode cX9_drops 10 = .ok (.dup2, 1) := by decide +kernel
theorem dX9_drops_11 : decode cX9_drops 11 = .ok (.iaload, 1) := by decide +kernel
theorem dX9_drops_12 : decode cX9_drops 12 = .ok (.iconst 1, 1) := by decide +kernel
theorem dX9_drops_13 : decode cX9_drops 13 = .ok (.iadd, 1) := by decide +kernel
theorem dX9_drops_14 : decode cX9_drops 14 = .ok (.iastore, 1) := by decide +kernel
theorem dX9_drops_15 : decode cX9_drops 15 = .ok (.aload_n 0, 1) := by decide +kernel
theorem dX9_drops_16 : decode cX9_drops 16 = .ok (.getfield 40, 3) := by decide +kernel
theorem dX9_drops_19 : decode cX9_drops 19 = .ok (.iload_n 1, 1) := by decide +kernel
theorem dX9_drops_20 : decode cX9_drops 20 = .ok (.iconst (-1), 1) := by decide +kernel
theorem dX9_drops_21 : decode cX9_drops 21 = .ok (.iastore, 1) := by decide +kernel
theorem dX9_drops_22 : decode cX9_drops 22 = .ok (.aload_n 0, 1) := by decide +kernel
theorem dX9_drops_23 : decode cX9_drops 23 = .ok (.dup, 1) := by decide +kernel
theorem dX9_drops_24 : decode cX9_drops 24 = .ok (.getfield 212, 3) := by decide +kernel
theorem dX9_drops_27 : decode cX9_drops 27 = .ok (.iconst 1, 1) := by decide +kernel
theorem dX9_drops_28 : decode cX9_drops 28 = .ok (.iadd, 1) := by decide +kernel
theorem dX9_drops_29 : decode cX9_drops 29 = .ok (.putfield 212, 3) := by decide +kernel
theorem dX9_drops_32 : decode cX9_drops 32 = .ok (.return_, 1) := by decide +kernel
theorem dX9_settles_0 : decode cX9_settles 0 = .ok (.bipush 8, 2) := by decide +kernel
theorem dX9_settles_2 : decode cX9_settles 2 = .ok (.istore_n 1, 1) := by decide +kernel
theorem dX9_settles_3 : decode cX9_settles 3 = .ok (.iload_n 1, 1) := by decide +kernel
theorem dX9_settles_4 : decode cX9_settles 4 = .ok (.bipush 40, 2) := by decide +kernel
theorem dX9_settles_6 : decode cX9_settles 6 = .ok (.if_icmp .ge 45, 3) := by decide +kernel
theorem dX9_settles_9 : decode cX9_settles 9 = .ok (.aload_n 0, 1) := by decide +kernel
theorem dX9_settles_10 : decode cX9_settles 10 = .ok (.iload_n 1, 1) := by decide +kernel
theorem dX9_settles_11 : decode cX9_settles 11 = .ok (.bipush 8, 2) := by decide +kernel
theorem dX9_settles_13 : decode cX9_settles 13 = .ok (.idiv, 1) := by decide +kernel
theorem dX9_settles_14 : decode cX9_settles 14 = .ok (.iload_n 1, 1) := by decide +kernel
theorem dX9_settles_15 : decode cX9_settles 15 = .ok (.bipush 8, 2) := by decide +kernel
theorem dX9_settles_17 : decode cX9_settles 17 = .ok (.irem, 1) := by decide +kernel
theorem dX9_settles_18 : decode cX9_settles 18 = .ok (.invokevirtual 194, 3) := by decide +kernel
theorem dX9_settles_21 : decode cX9_settles 21 = .ok (.iconst (-1), 1) := by decide +kernel
theorem dX9_settles_22 : decode cX9_settles 22 = .ok (.if_icmp .eq 23, 3) := by decide +kernel
theorem dX9_settles_25 : decode cX9_settles 25 = .ok (.aload_n 0, 1) := by decide +kernel
theorem dX9_settles_26 : decode cX9_settles 26 = .ok (.iload_n 1, 1) := by decide +kernel
theorem dX9_settles_27 : decode cX9_settles 27 = .ok (.bipush 8, 2) := by decide +kernel
theorem dX9_settles_29 : decode cX9_settles 29 = .ok (.idiv, 1) := by decide +kernel
theorem dX9_settles_30 : decode cX9_settles 30 = .ok (.iload_n 1, 1) := by decide +kernel
theorem dX9_settles_31 : decode cX9_settles 31 = .ok (.bipush 8, 2) := by decide +kernel
theorem dX9_settles_33 : decode cX9_settles 33 = .ok (.irem, 1) := by decide +kernel
theorem dX9_settles_34 : decode cX9_settles 34 = .ok (.invokevirtual 215, 3) := by decide +kernel
theorem dX9_settles_37 : decode cX9_settles 37 = .ok (.ifCond .ne 8, 3) := by decide +kernel
theorem dX9_settles_40 : decode cX9_settles 40 = .ok (.aload_n 0, 1) := by decide +kernel
theorem dX9_settles_41 : decode cX9_settles 41 = .ok (.iload_n 1, 1) := by decide +kernel
theorem dX9_settles_42 : decode cX9_settles 42 = .ok (.invokevirtual 218, 3) := by decide +kernel
theorem dX9_settles_45 : decode cX9_settles 45 = .ok (.iinc 1 1, 3) := by decide +kernel
theorem dX9_settles_48 : decode cX9_settles 48 = .ok (.goto (-45), 3) := by decide +kernel
theorem dX9_settles_51 : decode cX9_settles 51 = .ok (.return_, 1) := by decide +kernel
theorem dX9_freezes_0 : decode cX9_freezes 0 = .ok (.aload_n 0, 1) := by decide +kernel
theorem dX9_freezes_1 : decode cX9_freezes 1 = .ok (.invokevirtual 222, 3) := by decide +kernel
theorem dX9_freezes_4 : decode cX9_freezes 4 = .ok (.iconst 0, 1) := by decide +kernel
theorem dX9_freezes_5 : decode cX9_freezes 5 = .ok (.istore_n 2, 1) := by decide +kernel
theorem dX9_freezes_6 : decode cX9_freezes 6 = .ok (.iload_n 2, 1) := by decide +kernel
theorem dX9_freezes_7 : decode cX9_freezes 7 = .ok (.bipush 40, 2) := by decide +kernel
theorem dX9_freezes_9 : decode cX9_freezes 9 = .ok (.if_icmp .ge 34, 3) := by decide +kernel
theorem dX9_freezes_12 : decode cX9_freezes 12 = .ok (.aload_n 0, 1) := by decide +kernel
theorem dX9_freezes_13 : decode cX9_freezes 13 = .ok (.getfield 49, 3) := by decide +kernel
theorem dX9_freezes_16 : decode cX9_freezes 16 = .ok (.iload_n 2, 1) := by decide +kernel
theorem dX9_freezes_17 : decode cX9_freezes 17 = .ok (.iaload, 1) := by decide +kernel
theorem dX9_freezes_18 : decode cX9_freezes 18 = .ok (.iconst (-1), 1) := by decide +kernel
theorem dX9_freezes_19 : decode cX9_freezes 19 = .ok (.if_icmp .eq 18, 3) := by decide +kernel
theorem dX9_freezes_22 : decode cX9_freezes 22 = .ok (.aload_n 0, 1) := by decide +kernel
theorem dX9_freezes_23 : decode cX9_freezes 23 = .ok (.getfield 49, 3) := by decide +kernel
theorem dX9_freezes_26 : decode cX9_freezes 26 = .ok (.iload_n 2, 1) := by decide +kernel
theorem dX9_freezes_27 : decode cX9_freezes 27 = .ok (.iaload, 1) := by decide +kernel
theorem dX9_freezes_28 : decode cX9_freezes 28 = .ok (.iload_n 1, 1) := by decide +kernel
theorem dX9_freezes_29 : decode cX9_freezes 29 = .ok (.if_icmp .ge 8, 3) := by decide +kernel
theorem dX9_freezes_32 : decode cX9_freezes 32 = .ok (.aload_n 0, 1) := by decide +kernel
theorem dX9_freezes_33 : decode cX9_freezes 33 = .ok (.iload_n 2, 1) := by decide +kernel
theorem dX9_freezes_34 : decode cX9_freezes 34 = .ok (.invokevirtual 218, 3) := by decide +kernel
theorem dX9_freezes_37 : decode cX9_freezes 37 = .ok (.iinc 2 1, 3) := by decide +kernel
theorem dX9_freezes_40 : decode cX9_freezes 40 = .ok (.goto (-34), 3) := by decide +kernel
theorem dX9_freezes_43 : decode cX9_freezes 43 = .ok (.aload_n 0, 1) := by decide +kernel
theorem dX9_freezes_44 : decode cX9_freezes 44 = .ok (.invokevirtual 225, 3) := by decide +kernel
theorem dX9_freezes_47 : decode cX9_freezes 47 = .ok (.return_, 1) := by decide +kernel
theorem dX9_mends_0 : decode cX9_mends 0 = .ok (.iconst 0, 1) := by decide +kernel
theorem dX9_mends_1 : decode cX9_mends 1 = .ok (.istore_n 3, 1) := by decide +kernel
theorem dX9_mends_2 : decode cX9_mends 2 = .ok (.iload_n 3, 1) := by decide +kernel
theorem dX9_mends_3 : decode cX9_mends 3 = .ok (.aload_n 0, 1) := by decide +kernel
theorem dX9_mends_4 : decode cX9_mends 4 = .ok (.getfield 118, 3) := by decide +kernel
theorem dX9_mends_7 : decode cX9_mends 7 = .ok (.if_icmp .ge 58, 3) := by decide +kernel
theorem dX9_mends_10 : decode cX9_mends 10 = .ok (.iload_n 1, 1) := by decide +kernel
theorem dX9_mends_11 : decode cX9_mends 11 = .ok (.aload_n 0, 1) := by decide +kernel
theorem dX9_mends_12 : decode cX9_mends 12 = .ok (.getfield 121, 3) := by decide +kernel
theorem dX9_mends_15 : decode cX9_mends 15 = .ok (.if_icmp .ge 50, 3) := by decide +kernel
theorem dX9_mends_18 : decode cX9_mends 18 = .ok (.aload_n 0, 1) := by decide +kernel
theorem dX9_mends_19 : decode cX9_mends 19 = .ok (.getfield 40, 3) := by decide +kernel
theorem dX9_mends_22 : decode cX9_mends 22 = .ok (.bipush 8, 2) := by decide +kernel
theorem dX9_mends_24 : decode cX9_mends 24 = .ok (.iload_n 3, 1) := by decide +kernel
theorem dX9_mends_25 : decode cX9_mends 25 = .ok (.imul, 1) := by decide +kernel
theorem dX9_mends_26 : decode cX9_mends 26 = .ok (.iload_n 1, 1) := by decide +kernel
theorem dX9_mends_27 : decode cX9_mends 27 = .ok (.iadd, 1) := by decide +kernel
theorem dX9_mends_28 : decode cX9_mends 28 = .ok (.iaload, 1) := by decide +kernel
theorem dX9_mends_29 : decode cX9_mends 29 = .ok (.iconst (-1), 1) := by decide +kernel
theorem dX9_mends_30 : decode cX9_mends 30 = .ok (.if_icmp .ne 29, 3) := by decide +kernel
theorem dX9_mends_33 : decode cX9_mends 33 = .ok (.aload_n 0, 1) := by decide +kernel
theorem dX9_mends_34 : decode cX9_mends 34 = .ok (.getfield 40, 3) := by decide +kernel
theorem dX9_mends_37 : decode cX9_mends 37 = .ok (.bipush 8, 2) := by decide +kernel
theorem dX9_mends_39 : decode cX9_mends 39 = .ok (.iload_n 3, 1) := by decide +kernel
theorem dX9_mends_40 : decode cX9_mends 40 = .ok (.imul, 1) := by decide +kernel
theorem dX9_mends_41 : decode cX9_mends 41 = .ok (.iload_n 1, 1) := by decide +kernel
theorem dX9_mends_42 : decode cX9_mends 42 = .ok (.iadd, 1) := by decide +kernel
theorem dX9_mends_43 : decode cX9_mends 43 = .ok (.aload_n 0, 1) := by decide +kernel
theorem dX9_mends_44 : decode cX9_mends 44 = .ok (.iload_n 3, 1) := by decide +kernel
theorem dX9_mends_45 : decode cX9_mends 45 = .ok (.iload_n 1, 1) := by decide +kernel
theorem dX9_mends_46 : decode cX9_mends 46 = .ok (.invokevirtual 215, 3) := by decide +kernel
theorem dX9_mends_49 : decode cX9_mends 49 = .ok (.ifCond .eq 7, 3) := by decide +kernel
theorem dX9_mends_52 : decode cX9_mends 52 = .ok (.iload_n 2, 1) := by decide +kernel
theorem dX9_mends_53 : decode cX9_mends 53 = .ok (.goto 4, 3) := by decide +kernel
theorem dX9_mends_56 : decode cX9_mends 56 = .ok (.iconst (-1), 1) := by decide +kernel
theorem dX9_mends_57 : decode cX9_mends 57 = .ok (.iastore, 1) := by decide +kernel
theorem dX9_mends_58 : decode cX9_mends 58 = .ok (.return_, 1) := by decide +kernel
theorem dX9_mends_59 : decode cX9_mends 59 = .ok (.iinc 3 1, 3) := by decide +kernel
theorem dX9_mends_62 : decode cX9_mends 62 = .ok (.goto (-60), 3) := by decide +kernel
theorem dX9_mends_65 : decode cX9_mends 65 = .ok (.return_, 1) := by decide +kernel
theorem dX9_isThrough_0 : decode cX9_isThrough 0 = .ok (.iconst 0, 1) := by decide +kernel
theorem dX9_isThrough_1 : decode cX9_isThrough 1 = .ok (.istore_n 3, 1) := by decide +kernel
theorem dX9_isThrough_2 : decode cX9_isThrough 2 = .ok (.iconst 0, 1) := by decide +kernel
theorem dX9_isThrough_3 : decode cX9_isThrough 3 = .ok (.istore 4, 2) := by decide +kernel
theorem dX9_isThrough_5 : decode cX9_isThrough 5 = .ok (.iconst 0, 1) := by decide +kernel
theorem dX9_isThrough_6 : decode cX9_isThrough 6 = .ok (.istore 5, 2) := by decide +kernel
theorem dX9_isThrough_8 : decode cX9_isThrough 8 = .ok (.iload 5, 2) := by decide +kernel
theorem dX9_isThrough_10 : decode cX9_isThrough 10 = .ok (.aload_n 0, 1) := by decide +kernel
theorem dX9_isThrough_11 : decode cX9_isThrough 11 = .ok (.getfield 118, 3) := by decide +kernel
theorem dX9_isThrough_14 : decode cX9_isThrough 14 = .ok (.if_icmp .ge 80, 3) := by decide +kernel
theorem dX9_isThrough_17 : decode cX9_isThrough 17 = .ok (.aload_n 0, 1) := by decide +kernel
theorem dX9_isThrough_18 : decode cX9_isThrough 18 = .ok (.getfield 40, 3) := by decide +kernel
theorem dX9_isThrough_21 : decode cX9_isThrough 21 = .ok (.bipush 8, 2) := by decide +kernel
theorem dX9_isThrough_23 : decode cX9_isThrough 23 = .ok (.iload 5, 2) := by decide +kernel
theorem dX9_isThrough_25 : decode cX9_isThrough 25 = .ok (.imul, 1) := by decide +kernel
theorem dX9_isThrough_26 : decode cX9_isThrough 26 = .ok (.iload_n 1, 1) := by decide +kernel
theorem dX9_isThrough_27 : decode cX9_isThrough 27 = .ok (.iadd, 1) := by decide +kernel
theorem dX9_isThrough_28 : decode cX9_isThrough 28 = .ok (.iaload, 1) := by decide +kernel
theorem dX9_isThrough_29 : decode cX9_isThrough 29 = .ok (.istore 6, 2) := by decide +kernel
theorem dX9_isThrough_31 : decode cX9_isThrough 31 = .ok (.iload_n 3, 1) := by decide +kernel
theorem dX9_isThrough_32 : decode cX9_isThrough 32 = .ok (.ifCond .ne 12, 3) := by decide +kernel
theorem dX9_isThrough_35 : decode cX9_isThrough 35 = .ok (.aload_n 0, 1) := by decide +kernel
theorem dX9_isThrough_36 : decode cX9_isThrough 36 = .ok (.iload 6, 2) := by decide +kernel
theorem dX9_isThrough_38 : decode cX9_isThrough 38 = .ok (.invokevirtual 197, 3) := by decide +kernel
theorem dX9_isThrough_41 : decode cX9_isThrough 41 = .ok (.ifCond .eq 7, 3) := by decide +kernel
theorem dX9_isThrough_44 : decode cX9_isThrough 44 = .ok (.iconst 1, 1) := by decide +kernel
theorem dX9_isThrough_45 : decode cX9_isThrough 45 = .ok (.goto 4, 3) := by decide +kernel
theorem dX9_isThrough_48 : decode cX9_isThrough 48 = .ok (.iconst 0, 1) := by decide +kernel
theorem dX9_isThrough_49 : decode cX9_isThrough 49 = .ok (.istore_n 3, 1) := by decide +kernel
theorem dX9_isThrough_50 : decode cX9_isThrough 50 = .ok (.iload 4, 2) := by decide +kernel
theorem dX9_isThrough_52 : decode cX9_isThrough 52 = .ok (.ifCond .ne 29, 3) := by decide +kernel
theorem dX9_isThrough_55 : decode cX9_isThrough 55 = .ok (.iload 6, 2) := by decide +kernel
theorem dX9_isThrough_57 : decode cX9_isThrough 57 = .ok (.iconst (-1), 1) := by decide +kernel
theorem dX9_isThrough_58 : decode cX9_isThrough 58 = .ok (.if_icmp .eq 27, 3) := by decide +kernel
theorem dX9_isThrough_61 : decode cX9_isThrough 61 = .ok (.iload 6, 2) := by decide +kernel
theorem dX9_isThrough_63 : decode cX9_isThrough 63 = .ok (.aload_n 0, 1) := by decide +kernel
theorem dX9_isThrough_64 : decode cX9_isThrough 64 = .ok (.getfield 135, 3) := by decide +kernel
theorem dX9_isThrough_67 : decode cX9_isThrough 67 = .ok (.if_icmp .ge 18, 3) := by decide +kernel
theorem dX9_isThrough_70 : decode cX9_isThrough 70 = .ok (.aload_n 0, 1) := by decide +kernel
theorem dX9_isThrough_71 : decode cX9_isThrough 71 = .ok (.getfield 19, 3) := by decide +kernel
theorem dX9_isThrough_74 : decode cX9_isThrough 74 = .ok (.iload 6, 2) := by decide +kernel
theorem dX9_isThrough_76 : decode cX9_isThrough 76 = .ok (.iaload, 1) := by decide +kernel
theorem dX9_isThrough_77 : decode cX9_isThrough 77 = .ok (.iconst 1, 1) := by decide +kernel
theorem dX9_isThrough_78 : decode cX9_isThrough 78 = .ok (.if_icmp .ne 7, 3) := by decide +kernel
theorem dX9_isThrough_81 : decode cX9_isThrough 81 = .ok (.iconst 1, 1) := by decide +kernel
theorem dX9_isThrough_82 : decode cX9_isThrough 82 = .ok (.goto 4, 3) := by decide +kernel
theorem dX9_isThrough_85 : decode cX9_isThrough 85 = .ok (.iconst 0, 1) := by decide +kernel
theorem dX9_isThrough_86 : decode cX9_isThrough 86 = .ok (.istore 4, 2) := by decide +kernel
theorem dX9_isThrough_88 : decode cX9_isThrough 88 = .ok (.iinc 5 1, 3) := by decide +kernel
theorem dX9_isThrough_91 : decode cX9_isThrough 91 = .ok (.goto (-83), 3) := by decide +kernel
theorem dX9_isThrough_94 : decode cX9_isThrough 94 = .ok (.iload 4, 2) := by decide +kernel
theorem dX9_isThrough_96 : decode cX9_isThrough 96 = .ok (.ifCond .ne 27, 3) := by decide +kernel
theorem dX9_isThrough_99 : decode cX9_isThrough 99 = .ok (.iload_n 2, 1) := by decide +kernel
theorem dX9_isThrough_100 : decode cX9_isThrough 100 = .ok (.aload_n 0, 1) := by decide +kernel
theorem dX9_isThrough_101 : decode cX9_isThrough 101 = .ok (.getfield 101, 3) := by decide +kernel
theorem dX9_isThrough_104 : decode cX9_isThrough 104 = .ok (.if_icmp .lt 15, 3) := by decide +kernel
theorem dX9_isThrough_107 : decode cX9_isThrough 107 = .ok (.iload_n 2, 1) := by decide +kernel
theorem dX9_isThrough_108 : decode cX9_isThrough 108 = .ok (.aload_n 0, 1) := by decide +kernel
theorem dX9_isThrough_109 : decode cX9_isThrough 109 = .ok (.getfield 101, 3) := by decide +kernel
theorem dX9_isThrough_112 : decode cX9_isThrough 112 = .ok (.if_icmp .ne 11, 3) := by decide +kernel
theorem dX9_isThrough_115 : decode cX9_isThrough 115 = .ok (.iload_n 3, 1) := by decide +kernel
theorem dX9_isThrough_116 : decode cX9_isThrough 116 = .ok (.ifCond .eq 7, 3) := by decide +kernel
theorem dX9_isThrough_119 : decode cX9_isThrough 119 = .ok (.iconst 1, 1) := by decide +kernel
theorem dX9_isThrough_120 : decode cX9_isThrough 120 = .ok (.goto 4, 3) := by decide +kernel
theorem dX9_isThrough_123 : decode cX9_isThrough 123 = .ok (.iconst 0, 1) := by decide +kernel
theorem dX9_isThrough_124 : decode cX9_isThrough 124 = .ok (.ireturn, 1) := by decide +kernel
theorem dX9_keeps_0 : decode cX9_keeps 0 = .ok (.iconst 0, 1) := by decide +kernel
theorem dX9_keeps_1 : decode cX9_keeps 1 = .ok (.istore_n 2, 1) := by decide +kernel
theorem dX9_keeps_2 : decode cX9_keeps 2 = .ok (.aload_n 0, 1) := by decide +kernel
theorem dX9_keeps_3 : decode cX9_keeps 3 = .ok (.invokevirtual 222, 3) := by decide +kernel
theorem dX9_keeps_6 : decode cX9_keeps 6 = .ok (.aload_n 0, 1) := by decide +kernel
theorem dX9_keeps_7 : decode cX9_keeps 7 = .ok (.getfield 64, 3) := by decide +kernel
theorem dX9_keeps_10 : decode cX9_keeps 10 = .ok (.iload_n 1, 1) := by decide +kernel
theorem dX9_keeps_11 : decode cX9_keeps 11 = .ok (.iconst 0, 1) := by decide +kernel
theorem dX9_keeps_12 : decode cX9_keeps 12 = .ok (.iastore, 1) := by decide +kernel
theorem dX9_keeps_13 : decode cX9_keeps 13 = .ok (.iconst 0, 1) := by decide +kernel
theorem dX9_keeps_14 : decode cX9_keeps 14 = .ok (.istore_n 3, 1) := by decide +kernel
theorem dX9_keeps_15 : decode cX9_keeps 15 = .ok (.iload_n 3, 1) := by decide +kernel
theorem dX9_keeps_16 : decode cX9_keeps 16 = .ok (.bipush 40, 2) := by decide +kernel
theorem dX9_keeps_18 : decode cX9_keeps 18 = .ok (.if_icmp .ge 73, 3) := by decide +kernel
theorem dX9_keeps_21 : decode cX9_keeps 21 = .ok (.aload_n 0, 1) := by decide +kernel
theorem dX9_keeps_22 : decode cX9_keeps 22 = .ok (.getfield 55, 3) := by decide +kernel
theorem dX9_keeps_25 : decode cX9_keeps 25 = .ok (.bipush 40, 2) := by decide +kernel
theorem dX9_keeps_27 : decode cX9_keeps 27 = .ok (.iload_n 1, 1) := by decide +kernel
theorem dX9_keeps_28 : decode cX9_keeps 28 = .ok (.imul, 1) := by decide +kernel
theorem dX9_keeps_29 : decode cX9_keeps 29 = .ok (.iload_n 3, 1) := by decide +kernel
theorem dX9_keeps_30 : decode cX9_keeps 30 = .ok (.iadd, 1) := by decide +kernel
theorem dX9_keeps_31 : decode cX9_keeps 31 = .ok (.aload_n 0, 1) := by decide +kernel
theorem dX9_keeps_32 : decode cX9_keeps 32 = .ok (.iload_n 3, 1) := by decide +kernel
theorem dX9_keeps_33 : decode cX9_keeps 33 = .ok (.bipush 8, 2) := by decide +kernel
theorem dX9_keeps_35 : decode cX9_keeps 35 = .ok (.idiv, 1) := by decide +kernel
theorem dX9_keeps_36 : decode cX9_keeps 36 = .ok (.iload_n 3, 1) := by decide +kernel
theorem dX9_keeps_37 : decode cX9_keeps 37 = .ok (.bipush 8, 2) := by decide +kernel
theorem dX9_keeps_39 : decode cX9_keeps 39 = .ok (.irem, 1) := by decide +kernel
theorem dX9_keeps_40 : decode cX9_keeps 40 = .ok (.invokevirtual 194, 3) := by decide +kernel
theorem dX9_keeps_43 : decode cX9_keeps 43 = .ok (.iastore, 1) := by decide +kernel
theorem dX9_keeps_44 : decode cX9_keeps 44 = .ok (.aload_n 0, 1) := by decide +kernel
theorem dX9_keeps_45 : decode cX9_keeps 45 = .ok (.getfield 58, 3) := by decide +kernel
theorem dX9_keeps_48 : decode cX9_keeps 48 = .ok (.bipush 40, 2) := by decide +kernel
theorem dX9_keeps_50 : decode cX9_keeps 50 = .ok (.iload_n 1, 1) := by decide +kernel
theorem dX9_keeps_51 : decode cX9_keeps 51 = .ok (.imul, 1) := by decide +kernel
theorem dX9_keeps_52 : decode cX9_keeps 52 = .ok (.iload_n 3, 1) := by decide +kernel
theorem dX9_keeps_53 : decode cX9_keeps 53 = .ok (.iadd, 1) := by decide +kernel
theorem dX9_keeps_54 : decode cX9_keeps 54 = .ok (.aload_n 0, 1) := by decide +kernel
theorem dX9_keeps_55 : decode cX9_keeps 55 = .ok (.getfield 49, 3) := by decide +kernel
theorem dX9_keeps_58 : decode cX9_keeps 58 = .ok (.iload_n 3, 1) := by decide +kernel
theorem dX9_keeps_59 : decode cX9_keeps 59 = .ok (.iaload, 1) := by decide +kernel
theorem dX9_keeps_60 : decode cX9_keeps 60 = .ok (.iastore, 1) := by decide +kernel
theorem dX9_keeps_61 : decode cX9_keeps 61 = .ok (.aload_n 0, 1) := by decide +kernel
theorem dX9_keeps_62 : decode cX9_keeps 62 = .ok (.getfield 64, 3) := by decide +kernel
theorem dX9_keeps_65 : decode cX9_keeps 65 = .ok (.iload_n 1, 1) := by decide +kernel
theorem dX9_keeps_66 : decode cX9_keeps 66 = .ok (.dup2, 1) := by decide +kernel
theorem dX9_keeps_67 : decode cX9_keeps 67 = .ok (.iaload, 1) := by decide +kernel
theorem dX9_keeps_68 : decode cX9_keeps 68 = .ok (.aload_n 0, 1) := by decide +kernel
theorem dX9_keeps_69 : decode cX9_keeps 69 = .ok (.getfield 49, 3) := by decide +kernel
theorem dX9_keeps_72 : decode cX9_keeps 72 = .ok (.iload_n 3, 1) := by decide +kernel
theorem dX9_keeps_73 : decode cX9_keeps 73 = .ok (.iaload, 1) := by decide +kernel
theorem dX9_keeps_74 : decode cX9_keeps 74 = .ok (.iconst (-1), 1) := by decide +kernel
theorem dX9_keeps_75 : decode cX9_keeps 75 = .ok (.if_icmp .ne 7, 3) := by decide +kernel
theorem dX9_keeps_78 : decode cX9_keeps 78 = .ok (.iconst 0, 1) := by decide +kernel
theorem dX9_keeps_79 : decode cX9_keeps 79 = .ok (.goto 4, 3) := by decide +kernel
theorem dX9_keeps_82 : decode cX9_keeps 82 = .ok (.iconst 1, 1) := by decide +kernel
theorem dX9_keeps_83 : decode cX9_keeps 83 = .ok (.iadd, 1) := by decide +kernel
theorem dX9_keeps_84 : decode cX9_keeps 84 = .ok (.iastore, 1) := by decide +kernel
theorem dX9_keeps_85 : decode cX9_keeps 85 = .ok (.iinc 3 1, 3) := by decide +kernel
theorem dX9_keeps_88 : decode cX9_keeps 88 = .ok (.goto (-73), 3) := by decide +kernel
theorem dX9_keeps_91 : decode cX9_keeps 91 = .ok (.iconst 0, 1) := by decide +kernel
theorem dX9_keeps_92 : decode cX9_keeps 92 = .ok (.istore_n 3, 1) := by decide +kernel
theorem dX9_keeps_93 : decode cX9_keeps 93 = .ok (.iload_n 3, 1) := by decide +kernel
theorem dX9_keeps_94 : decode cX9_keeps 94 = .ok (.aload_n 0, 1) := by decide +kernel
theorem dX9_keeps_95 : decode cX9_keeps 95 = .ok (.getfield 121, 3) := by decide +kernel
theorem dX9_keeps_98 : decode cX9_keeps 98 = .ok (.if_icmp .ge 111, 3) := by decide +kernel
theorem dX9_keeps_101 : decode cX9_keeps 101 = .ok (.iconst 0, 1) := by decide +kernel
theorem dX9_keeps_102 : decode cX9_keeps 102 = .ok (.istore 4, 2) := by decide +kernel
theorem dX9_keeps_104 : decode cX9_keeps 104 = .ok (.iconst 0, 1) := by decide +kernel
theorem dX9_keeps_105 : decode cX9_keeps 105 = .ok (.istore 5, 2) := by decide +kernel
theorem dX9_keeps_107 : decode cX9_keeps 107 = .ok (.iload 5, 2) := by decide +kernel
theorem dX9_keeps_109 : decode cX9_keeps 109 = .ok (.aload_n 0, 1) := by decide +kernel
theorem dX9_keeps_110 : decode cX9_keeps 110 = .ok (.getfield 118, 3) := by decide +kernel
theorem dX9_keeps_113 : decode cX9_keeps 113 = .ok (.if_icmp .ge 35, 3) := by decide +kernel
theorem dX9_keeps_116 : decode cX9_keeps 116 = .ok (.iload 4, 2) := by decide +kernel
theorem dX9_keeps_118 : decode cX9_keeps 118 = .ok (.aload_n 0, 1) := by decide +kernel
theorem dX9_keeps_119 : decode cX9_keeps 119 = .ok (.getfield 40, 3) := by decide +kernel
theorem dX9_keeps_122 : decode cX9_keeps 122 = .ok (.bipush 8, 2) := by decide +kernel
theorem dX9_keeps_124 : decode cX9_keeps 124 = .ok (.iload 5, 2) := by decide +kernel
theorem dX9_keeps_126 : decode cX9_keeps 126 = .ok (.imul, 1) := by decide +kernel
theorem dX9_keeps_127 : decode cX9_keeps 127 = .ok (.iload_n 3, 1) := by decide +kernel
theorem dX9_keeps_128 : decode cX9_keeps 128 = .ok (.iadd, 1) := by decide +kernel
theorem dX9_keeps_129 : decode cX9_keeps 129 = .ok (.iaload, 1) := by decide +kernel
theorem dX9_keeps_130 : decode cX9_keeps 130 = .ok (.iconst (-1), 1) := by decide +kernel
theorem dX9_keeps_131 : decode cX9_keeps 131 = .ok (.if_icmp .ne 7, 3) := by decide +kernel
theorem dX9_keeps_134 : decode cX9_keeps 134 = .ok (.iconst 0, 1) := by decide +kernel
theorem dX9_keeps_135 : decode cX9_keeps 135 = .ok (.goto 4, 3) := by decide +kernel
theorem dX9_keeps_138 : decode cX9_keeps 138 = .ok (.iconst 1, 1) := by decide +kernel
theorem dX9_keeps_139 : decode cX9_keeps 139 = .ok (.iadd, 1) := by decide +kernel
theorem dX9_keeps_140 : decode cX9_keeps 140 = .ok (.istore 4, 2) := by decide +kernel
theorem dX9_keeps_142 : decode cX9_keeps 142 = .ok (.iinc 5 1, 3) := by decide +kernel
theorem dX9_keeps_145 : decode cX9_keeps 145 = .ok (.goto (-38), 3) := by decide +kernel
theorem dX9_keeps_148 : decode cX9_keeps 148 = .ok (.aload_n 0, 1) := by decide +kernel
theorem dX9_keeps_149 : decode cX9_keeps 149 = .ok (.getfield 67, 3) := by decide +kernel
theorem dX9_keeps_152 : decode cX9_keeps 152 = .ok (.bipush 8, 2) := by decide +kernel
theorem dX9_keeps_154 : decode cX9_keeps 154 = .ok (.iload_n 1, 1) := by decide +kernel
theorem dX9_keeps_155 : decode cX9_keeps 155 = .ok (.imul, 1) := by decide +kernel
theorem dX9_keeps_156 : decode cX9_keeps 156 = .ok (.iload_n 3, 1) := by decide +kernel
theorem dX9_keeps_157 : decode cX9_keeps 157 = .ok (.iadd, 1) := by decide +kernel
theorem dX9_keeps_158 : decode cX9_keeps 158 = .ok (.iload 4, 2) := by decide +kernel
theorem dX9_keeps_160 : decode cX9_keeps 160 = .ok (.iastore, 1) := by decide +kernel
theorem dX9_keeps_161 : decode cX9_keeps 161 = .ok (.aload_n 0, 1) := by decide +kernel
theorem dX9_keeps_162 : decode cX9_keeps 162 = .ok (.getfield 70, 3) := by decide +kernel
theorem dX9_keeps_165 : decode cX9_keeps 165 = .ok (.bipush 8, 2) := by decide +kernel
theorem dX9_keeps_167 : decode cX9_keeps 167 = .ok (.iload_n 1, 1) := by decide +kernel
theorem dX9_keeps_168 : decode cX9_keeps 168 = .ok (.imul, 1) := by decide +kernel
theorem dX9_keeps_169 : decode cX9_keeps 169 = .ok (.iload_n 3, 1) := by decide +kernel
theorem dX9_keeps_170 : decode cX9_keeps 170 = .ok (.iadd, 1) := by decide +kernel
theorem dX9_keeps_171 : decode cX9_keeps 171 = .ok (.aload_n 0, 1) := by decide +kernel
theorem dX9_keeps_172 : decode cX9_keeps 172 = .ok (.iload_n 3, 1) := by decide +kernel
theorem dX9_keeps_173 : decode cX9_keeps 173 = .ok (.iload 4, 2) := by decide +kernel
theorem dX9_keeps_175 : decode cX9_keeps 175 = .ok (.invokevirtual 228, 3) := by decide +kernel
theorem dX9_keeps_178 : decode cX9_keeps 178 = .ok (.bastore, 1) := by decide +kernel
theorem dX9_keeps_179 : decode cX9_keeps 179 = .ok (.iload_n 2, 1) := by decide +kernel
theorem dX9_keeps_180 : decode cX9_keeps 180 = .ok (.ifCond .ne 17, 3) := by decide +kernel
theorem dX9_keeps_183 : decode cX9_keeps 183 = .ok (.aload_n 0, 1) := by decide +kernel
theorem dX9_keeps_184 : decode cX9_keeps 184 = .ok (.getfield 70, 3) := by decide +kernel
theorem dX9_keeps_187 : decode cX9_keeps 187 = .ok (.bipush 8, 2) := by decide +kernel
theorem dX9_keeps_189 : decode cX9_keeps 189 = .ok (.iload_n 1, 1) := by decide +kernel
theorem dX9_keeps_190 : decode cX9_keeps 190 = .ok (.imul, 1) := by decide +kernel
theorem dX9_keeps_191 : decode cX9_keeps 191 = .ok (.iload_n 3, 1) := by decide +kernel
theorem dX9_keeps_192 : decode cX9_keeps 192 = .ok (.iadd, 1) := by decide +kernel
theorem dX9_keeps_193 : decode cX9_keeps 193 = .ok (.baload, 1) := by decide +kernel
theorem dX9_keeps_194 : decode cX9_keeps 194 = .ok (.ifCond .eq 7, 3) := by decide +kernel
theorem dX9_keeps_197 : decode cX9_keeps 197 = .ok (.iconst 1, 1) := by decide +kernel
theorem dX9_keeps_198 : decode cX9_keeps 198 = .ok (.goto 4, 3) := by decide +kernel
theorem dX9_keeps_201 : decode cX9_keeps 201 = .ok (.iconst 0, 1) := by decide +kernel
theorem dX9_keeps_202 : decode cX9_keeps 202 = .ok (.istore_n 2, 1) := by decide +kernel
theorem dX9_keeps_203 : decode cX9_keeps 203 = .ok (.iinc 3 1, 3) := by decide +kernel
theorem dX9_keeps_206 : decode cX9_keeps 206 = .ok (.goto (-113), 3) := by decide +kernel
theorem dX9_keeps_209 : decode cX9_keeps 209 = .ok (.aload_n 0, 1) := by decide +kernel
theorem dX9_keeps_210 : decode cX9_keeps 210 = .ok (.iload_n 2, 1) := by decide +kernel
theorem dX9_keeps_211 : decode cX9_keeps 211 = .ok (.ifCond .eq 15, 3) := by decide +kernel
theorem dX9_keeps_214 : decode cX9_keeps 214 = .ok (.aload_n 0, 1) := by decide +kernel
theorem dX9_keeps_215 : decode cX9_keeps 215 = .ok (.getfield 231, 3) := by decide +kernel
theorem dX9_keeps_218 : decode cX9_keeps 218 = .ok (.iconst (-1), 1) := by decide +kernel
theorem dX9_keeps_219 : decode cX9_keeps 219 = .ok (.if_icmp .ne 7, 3) := by decide +kernel
theorem dX9_keeps_222 : decode cX9_keeps 222 = .ok (.iload_n 1, 1) := by decide +kernel
theorem dX9_keeps_223 : decode cX9_keeps 223 = .ok (.goto 7, 3) := by decide +kernel
theorem dX9_keeps_226 : decode cX9_keeps 226 = .ok (.aload_n 0, 1) := by decide +kernel
theorem dX9_keeps_227 : decode cX9_keeps 227 = .ok (.getfield 231, 3) := by decide +kernel
theorem dX9_keeps_230 : decode cX9_keeps 230 = .ok (.putfield 231, 3) := by decide +kernel
theorem dX9_keeps_233 : decode cX9_keeps 233 = .ok (.aload_n 0, 1) := by decide +kernel
theorem dX9_keeps_234 : decode cX9_keeps 234 = .ok (.dup, 1) := by decide +kernel
theorem dX9_keeps_235 : decode cX9_keeps 235 = .ok (.getfield 234, 3) := by decide +kernel
theorem dX9_keeps_238 : decode cX9_keeps 238 = .ok (.iload_n 2, 1) := by decide +kernel
theorem dX9_keeps_239 : decode cX9_keeps 239 = .ok (.ifCond .eq 7, 3) := by decide +kernel
theorem dX9_keeps_242 : decode cX9_keeps 242 = .ok (.iconst 1, 1) := by decide +kernel
theorem dX9_keeps_243 : decode cX9_keeps 243 = .ok (.goto 4, 3) := by decide +kernel
theorem dX9_keeps_246 : decode cX9_keeps 246 = .ok (.iconst 0, 1) := by decide +kernel
theorem dX9_keeps_247 : decode cX9_keeps 247 = .ok (.iadd, 1) := by decide +kernel
theorem dX9_keeps_248 : decode cX9_keeps 248 = .ok (.putfield 234, 3) := by decide +kernel
theorem dX9_keeps_251 : decode cX9_keeps 251 = .ok (.return_, 1) := by decide +kernel
theorem dX9_goesBy_0 : decode cX9_goesBy 0 = .ok (.iconst 0, 1) := by decide +kernel
theorem dX9_goesBy_1 : decode cX9_goesBy 1 = .ok (.istore_n 2, 1) := by decide +kernel
theorem dX9_goesBy_2 : decode cX9_goesBy 2 = .ok (.aload_n 0, 1) := by decide +kernel
theorem dX9_goesBy_3 : decode cX9_goesBy 3 = .ok (.iconst 0, 1) := by decide +kernel
theorem dX9_goesBy_4 : decode cX9_goesBy 4 = .ok (.putfield 212, 3) := by decide +kernel
theorem dX9_goesBy_7 : decode cX9_goesBy 7 = .ok (.iconst 0, 1) := by decide +kernel
theorem dX9_goesBy_8 : decode cX9_goesBy 8 = .ok (.istore_n 3, 1) := by decide +kernel
theorem dX9_goesBy_9 : decode cX9_goesBy 9 = .ok (.iload_n 3, 1) := by decide +kernel
theorem dX9_goesBy_10 : decode cX9_goesBy 10 = .ok (.aload_n 0, 1) := by decide +kernel
theorem dX9_goesBy_11 : decode cX9_goesBy 11 = .ok (.getfield 185, 3) := by decide +kernel
theorem dX9_goesBy_14 : decode cX9_goesBy 14 = .ok (.if_icmp .ge 42, 3) := by decide +kernel
theorem dX9_goesBy_17 : decode cX9_goesBy 17 = .ok (.aload_n 0, 1) := by decide +kernel
theorem dX9_goesBy_18 : decode cX9_goesBy 18 = .ok (.getfield 43, 3) := by decide +kernel
theorem dX9_goesBy_21 : decode cX9_goesBy 21 = .ok (.iload_n 3, 1) := by decide +kernel
theorem dX9_goesBy_22 : decode cX9_goesBy 22 = .ok (.iaload, 1) := by decide +kernel
theorem dX9_goesBy_23 : decode cX9_goesBy 23 = .ok (.iload_n 1, 1) := by decide +kernel
theorem dX9_goesBy_24 : decode cX9_goesBy 24 = .ok (.if_icmp .ne 26, 3) := by decide +kernel
theorem dX9_goesBy_27 : decode cX9_goesBy 27 = .ok (.aload_n 0, 1) := by decide +kernel
theorem dX9_goesBy_28 : decode cX9_goesBy 28 = .ok (.getfield 188, 3) := by decide +kernel
theorem dX9_goesBy_31 : decode cX9_goesBy 31 = .ok (.iload_n 3, 1) := by decide +kernel
theorem dX9_goesBy_32 : decode cX9_goesBy 32 = .ok (.invokestatic 237, 3) := by decide +kernel
theorem dX9_goesBy_35 : decode cX9_goesBy 35 = .ok (.ifCond .ne 15, 3) := by decide +kernel
theorem dX9_goesBy_38 : decode cX9_goesBy 38 = .ok (.iconst 1, 1) := by decide +kernel
theorem dX9_goesBy_39 : decode cX9_goesBy 39 = .ok (.istore_n 2, 1) := by decide +kernel
theorem dX9_goesBy_40 : decode cX9_goesBy 40 = .ok (.aload_n 0, 1) := by decide +kernel
theorem dX9_goesBy_41 : decode cX9_goesBy 41 = .ok (.aload_n 0, 1) := by decide +kernel
theorem dX9_goesBy_42 : decode cX9_goesBy 42 = .ok (.getfield 46, 3) := by decide +kernel
theorem dX9_goesBy_45 : decode cX9_goesBy 45 = .ok (.iload_n 3, 1) := by decide +kernel
theorem dX9_goesBy_46 : decode cX9_goesBy 46 = .ok (.iaload, 1) := by decide +kernel
theorem dX9_goesBy_47 : decode cX9_goesBy 47 = .ok (.invokevirtual 240, 3) := by decide +kernel
theorem dX9_goesBy_50 : decode cX9_goesBy 50 = .ok (.iinc 3 1, 3) := by decide +kernel
theorem dX9_goesBy_53 : decode cX9_goesBy 53 = .ok (.goto (-44), 3) := by decide +kernel
theorem dX9_goesBy_56 : decode cX9_goesBy 56 = .ok (.iload_n 2, 1) := by decide +kernel
theorem dX9_goesBy_57 : decode cX9_goesBy 57 = .ok (.ifCond .ne 7, 3) := by decide +kernel
theorem dX9_goesBy_60 : decode cX9_goesBy 60 = .ok (.aload_n 0, 1) := by decide +kernel
theorem dX9_goesBy_61 : decode cX9_goesBy 61 = .ok (.invokevirtual 225, 3) := by decide +kernel
theorem dX9_goesBy_64 : decode cX9_goesBy 64 = .ok (.iconst 0, 1) := by decide +kernel
theorem dX9_goesBy_65 : decode cX9_goesBy 65 = .ok (.istore_n 3, 1) := by decide +kernel
theorem dX9_goesBy_66 : decode cX9_goesBy 66 = .ok (.iload_n 3, 1) := by decide +kernel
theorem dX9_goesBy_67 : decode cX9_goesBy 67 = .ok (.aload_n 0, 1) := by decide +kernel
theorem dX9_goesBy_68 : decode cX9_goesBy 68 = .ok (.getfield 191, 3) := by decide +kernel
theorem dX9_goesBy_71 : decode cX9_goesBy 71 = .ok (.if_icmp .ge 35, 3) := by decide +kernel
theorem dX9_goesBy_74 : decode cX9_goesBy 74 = .ok (.aload_n 0, 1) := by decide +kernel
theorem dX9_goesBy_75 : decode cX9_goesBy 75 = .ok (.getfield 31, 3) := by decide +kernel
theorem dX9_goesBy_78 : decode cX9_goesBy 78 = .ok (.iload_n 3, 1) := by decide +kernel
theorem dX9_goesBy_79 : decode cX9_goesBy 79 = .ok (.iaload, 1) := by decide +kernel
theorem dX9_goesBy_80 : decode cX9_goesBy 80 = .ok (.iload_n 1, 1) := by decide +kernel
theorem dX9_goesBy_81 : decode cX9_goesBy 81 = .ok (.if_icmp .ne 19, 3) := by decide +kernel
theorem dX9_goesBy_84 : decode cX9_goesBy 84 = .ok (.aload_n 0, 1) := by decide +kernel
theorem dX9_goesBy_85 : decode cX9_goesBy 85 = .ok (.aload_n 0, 1) := by decide +kernel
theorem dX9_goesBy_86 : decode cX9_goesBy 86 = .ok (.getfield 34, 3) := by decide +kernel
theorem dX9_goesBy_89 : decode cX9_goesBy 89 = .ok (.iload_n 3, 1) := by decide +kernel
theorem dX9_goesBy_90 : decode cX9_goesBy 90 = .ok (.iaload, 1) := by decide +kernel
theorem dX9_goesBy_91 : decode cX9_goesBy 91 = .ok (.aload_n 0, 1) := by decide +kernel
theorem dX9_goesBy_92 : decode cX9_goesBy 92 = .ok (.getfield 37, 3) := by decide +kernel
theorem dX9_goesBy_95 : decode cX9_goesBy 95 = .ok (.iload_n 3, 1) := by decide +kernel
theorem dX9_goesBy_96 : decode cX9_goesBy 96 = .ok (.iaload, 1) := by decide +kernel
theorem dX9_goesBy_97 : decode cX9_goesBy 97 = .ok (.invokevirtual 243, 3) := by decide +kernel
theorem dX9_goesBy_100 : decode cX9_goesBy 100 = .ok (.iinc 3 1, 3) := by decide +kernel
theorem dX9_goesBy_103 : decode cX9_goesBy 103 = .ok (.goto (-37), 3) := by decide +kernel
theorem dX9_goesBy_106 : decode cX9_goesBy 106 = .ok (.aload_n 0, 1) := by decide +kernel
theorem dX9_goesBy_107 : decode cX9_goesBy 107 = .ok (.getfield 61, 3) := by decide +kernel
theorem dX9_goesBy_110 : decode cX9_goesBy 110 = .ok (.iload_n 1, 1) := by decide +kernel
theorem dX9_goesBy_111 : decode cX9_goesBy 111 = .ok (.aload_n 0, 1) := by decide +kernel
theorem dX9_goesBy_112 : decode cX9_goesBy 112 = .ok (.getfield 212, 3) := by decide +kernel
theorem dX9_goesBy_115 : decode cX9_goesBy 115 = .ok (.iastore, 1) := by decide +kernel
theorem dX9_goesBy_116 : decode cX9_goesBy 116 = .ok (.aload_n 0, 1) := by decide +kernel
theorem dX9_goesBy_117 : decode cX9_goesBy 117 = .ok (.dup, 1) := by decide +kernel
theorem dX9_goesBy_118 : decode cX9_goesBy 118 = .ok (.getfield 247, 3) := by decide +kernel
theorem dX9_goesBy_121 : decode cX9_goesBy 121 = .ok (.aload_n 0, 1) := by decide +kernel
theorem dX9_goesBy_122 : decode cX9_goesBy 122 = .ok (.getfield 212, 3) := by decide +kernel
theorem dX9_goesBy_125 : decode cX9_goesBy 125 = .ok (.iadd, 1) := by decide +kernel
theorem dX9_goesBy_126 : decode cX9_goesBy 126 = .ok (.putfield 247, 3) := by decide +kernel
theorem dX9_goesBy_129 : decode cX9_goesBy 129 = .ok (.aload_n 0, 1) := by decide +kernel
theorem dX9_goesBy_130 : decode cX9_goesBy 130 = .ok (.iload_n 1, 1) := by decide +kernel
theorem dX9_goesBy_131 : decode cX9_goesBy 131 = .ok (.invokevirtual 250, 3) := by decide +kernel
theorem dX9_goesBy_134 : decode cX9_goesBy 134 = .ok (.return_, 1) := by decide +kernel
theorem dX9_runs_0 : decode cX9_runs 0 = .ok (.iconst 0, 1) := by decide +kernel
theorem dX9_runs_1 : decode cX9_runs 1 = .ok (.istore_n 1, 1) := by decide +kernel
theorem dX9_runs_2 : decode cX9_runs 2 = .ok (.iload_n 1, 1) := by decide +kernel
theorem dX9_runs_3 : decode cX9_runs 3 = .ok (.bipush 40, 2) := by decide +kernel
theorem dX9_runs_5 : decode cX9_runs 5 = .ok (.if_icmp .ge 21, 3) := by decide +kernel
theorem dX9_runs_8 : decode cX9_runs 8 = .ok (.aload_n 0, 1) := by decide +kernel
theorem dX9_runs_9 : decode cX9_runs 9 = .ok (.getfield 40, 3) := by decide +kernel
theorem dX9_runs_12 : decode cX9_runs 12 = .ok (.iload_n 1, 1) := by decide +kernel
theorem dX9_runs_13 : decode cX9_runs 13 = .ok (.aload_n 0, 1) := by decide +kernel
theorem dX9_runs_14 : decode cX9_runs 14 = .ok (.getfield 16, 3) := by decide +kernel
theorem dX9_runs_17 : decode cX9_runs 17 = .ok (.iload_n 1, 1) := by decide +kernel
theorem dX9_runs_18 : decode cX9_runs 18 = .ok (.iaload, 1) := by decide +kernel
theorem dX9_runs_19 : decode cX9_runs 19 = .ok (.iastore, 1) := by decide +kernel
theorem dX9_runs_20 : decode cX9_runs 20 = .ok (.iinc 1 1, 3) := by decide +kernel
theorem dX9_runs_23 : decode cX9_runs 23 = .ok (.goto (-21), 3) := by decide +kernel
theorem dX9_runs_26 : decode cX9_runs 26 = .ok (.iconst 0, 1) := by decide +kernel
theorem dX9_runs_27 : decode cX9_runs 27 = .ok (.istore_n 1, 1) := by decide +kernel
theorem dX9_runs_28 : decode cX9_runs 28 = .ok (.iload_n 1, 1) := by decide +kernel
theorem dX9_runs_29 : decode cX9_runs 29 = .ok (.bipush 8, 2) := by decide +kernel
theorem dX9_runs_31 : decode cX9_runs 31 = .ok (.if_icmp .ge 16, 3) := by decide +kernel
theorem dX9_runs_34 : decode cX9_runs 34 = .ok (.aload_n 0, 1) := by decide +kernel
theorem dX9_runs_35 : decode cX9_runs 35 = .ok (.getfield 52, 3) := by decide +kernel
theorem dX9_runs_38 : decode cX9_runs 38 = .ok (.iload_n 1, 1) := by decide +kernel
theorem dX9_runs_39 : decode cX9_runs 39 = .ok (.iconst 0, 1) := by decide +kernel
theorem dX9_runs_40 : decode cX9_runs 40 = .ok (.iastore, 1) := by decide +kernel
theorem dX9_runs_41 : decode cX9_runs 41 = .ok (.iinc 1 1, 3) := by decide +kernel
theorem dX9_runs_44 : decode cX9_runs 44 = .ok (.goto (-16), 3) := by decide +kernel
theorem dX9_runs_47 : decode cX9_runs 47 = .ok (.aload_n 0, 1) := by decide +kernel
theorem dX9_runs_48 : decode cX9_runs 48 = .ok (.iconst 0, 1) := by decide +kernel
theorem dX9_runs_49 : decode cX9_runs 49 = .ok (.putfield 247, 3) := by decide +kernel
theorem dX9_runs_52 : decode cX9_runs 52 = .ok (.aload_n 0, 1) := by decide +kernel
theorem dX9_runs_53 : decode cX9_runs 53 = .ok (.iconst (-1), 1) := by decide +kernel
theorem dX9_runs_54 : decode cX9_runs 54 = .ok (.putfield 231, 3) := by decide +kernel
theorem dX9_runs_57 : decode cX9_runs 57 = .ok (.aload_n 0, 1) := by decide +kernel
theorem dX9_runs_58 : decode cX9_runs 58 = .ok (.iconst 0, 1) := by decide +kernel
theorem dX9_runs_59 : decode cX9_runs 59 = .ok (.putfield 234, 3) := by decide +kernel
theorem dX9_runs_62 : decode cX9_runs 62 = .ok (.iconst 0, 1) := by decide +kernel
theorem dX9_runs_63 : decode cX9_runs 63 = .ok (.istore_n 1, 1) := by decide +kernel
theorem dX9_runs_64 : decode cX9_runs 64 = .ok (.iload_n 1, 1) := by decide +kernel
theorem dX9_runs_65 : decode cX9_runs 65 = .ok (.bipush 20, 2) := by decide +kernel
theorem dX9_runs_67 : decode cX9_runs 67 = .ok (.if_icmp .ge 14, 3) := by decide +kernel
theorem dX9_runs_70 : decode cX9_runs 70 = .ok (.aload_n 0, 1) := by decide +kernel
theorem dX9_runs_71 : decode cX9_runs 71 = .ok (.iload_n 1, 1) := by decide +kernel
theorem dX9_runs_72 : decode cX9_runs 72 = .ok (.invokevirtual 253, 3) := by decide +kernel
theorem dX9_runs_75 : decode cX9_runs 75 = .ok (.iinc 1 1, 3) := by decide +kernel
theorem dX9_runs_78 : decode cX9_runs 78 = .ok (.goto (-14), 3) := by decide +kernel
theorem dX9_runs_81 : decode cX9_runs 81 = .ok (.return_, 1) := by decide +kernel
theorem dX9_runsTold_0 : decode cX9_runsTold 0 = .ok (.aload_n 0, 1) := by decide +kernel
theorem dX9_runsTold_1 : decode cX9_runsTold 1 = .ok (.invokevirtual 256, 3) := by decide +kernel
theorem dX9_runsTold_4 : decode cX9_runsTold 4 = .ok (.aload_n 0, 1) := by decide +kernel
theorem dX9_runsTold_5 : decode cX9_runsTold 5 = .ok (.invokevirtual 259, 3) := by decide +kernel
theorem dX9_runsTold_8 : decode cX9_runsTold 8 = .ok (.return_, 1) := by decide +kernel
theorem dX9_atOf_0 : decode cX9_atOf 0 = .ok (.aload_n 0, 1) := by decide +kernel
theorem dX9_atOf_1 : decode cX9_atOf 1 = .ok (.invokevirtual 262, 3) := by decide +kernel
theorem dX9_atOf_4 : decode cX9_atOf 4 = .ok (.iload_n 3, 1) := by decide +kernel
theorem dX9_atOf_5 : decode cX9_atOf 5 = .ok (.ifCond .ne 17, 3) := by decide +kernel
theorem dX9_atOf_8 : decode cX9_atOf 8 = .ok (.aload_n 0, 1) := by decide +kernel
theorem dX9_atOf_9 : decode cX9_atOf 9 = .ok (.getfield 55, 3) := by decide +kernel
theorem dX9_atOf_12 : decode cX9_atOf 12 = .ok (.bipush 40, 2) := by decide +kernel
theorem dX9_atOf_14 : decode cX9_atOf 14 = .ok (.iload_n 1, 1) := by decide +kernel
theorem dX9_atOf_15 : decode cX9_atOf 15 = .ok (.imul, 1) := by decide +kernel
theorem dX9_atOf_16 : decode cX9_atOf 16 = .ok (.iload_n 2, 1) := by decide +kernel
theorem dX9_atOf_17 : decode cX9_atOf 17 = .ok (.iadd, 1) := by decide +kernel
theorem dX9_atOf_18 : decode cX9_atOf 18 = .ok (.iaload, 1) := by decide +kernel
theorem dX9_atOf_19 : decode cX9_atOf 19 = .ok (.goto 14, 3) := by decide +kernel
theorem dX9_atOf_22 : decode cX9_atOf 22 = .ok (.aload_n 0, 1) := by decide +kernel
theorem dX9_atOf_23 : decode cX9_atOf 23 = .ok (.getfield 58, 3) := by decide +kernel
theorem dX9_atOf_26 : decode cX9_atOf 26 = .ok (.bipush 40, 2) := by decide +kernel
theorem dX9_atOf_28 : decode cX9_atOf 28 = .ok (.iload_n 1, 1) := by decide +kernel
theorem dX9_atOf_29 : decode cX9_atOf 29 = .ok (.imul, 1) := by decide +kernel
theorem dX9_atOf_30 : decode cX9_atOf 30 = .ok (.iload_n 2, 1) := by decide +kernel
theorem dX9_atOf_31 : decode cX9_atOf 31 = .ok (.iadd, 1) := by decide +kernel
theorem dX9_atOf_32 : decode cX9_atOf 32 = .ok (.iaload, 1) := by decide +kernel
theorem dX9_atOf_33 : decode cX9_atOf 33 = .ok (.ireturn, 1) := by decide +kernel
theorem dX9_at_0 : decode cX9_at 0 = .ok (.iload_n 1, 1) := by decide +kernel
theorem dX9_at_1 : decode cX9_at 1 = .ok (.invokestatic 167, 3) := by decide +kernel
theorem dX9_at_4 : decode cX9_at 4 = .ok (.ifCond .eq 37, 3) := by decide +kernel
theorem dX9_at_7 : decode cX9_at 7 = .ok (.iload_n 2, 1) := by decide +kernel
theorem dX9_at_8 : decode cX9_at 8 = .ok (.iload_n 3, 1) := by decide +kernel
theorem dX9_at_9 : decode cX9_at 9 = .ok (.invokestatic 154, 3) := by decide +kernel
theorem dX9_at_12 : decode cX9_at 12 = .ok (.ifCond .eq 29, 3) := by decide +kernel
theorem dX9_at_15 : decode cX9_at 15 = .ok (.iload 4, 2) := by decide +kernel
theorem dX9_at_17 : decode cX9_at 17 = .ok (.iconst 0, 1) := by decide +kernel
theorem dX9_at_18 : decode cX9_at 18 = .ok (.iconst 1, 1) := by decide +kernel
theorem dX9_at_19 : decode cX9_at 19 = .ok (.invokestatic 107, 3) := by decide +kernel
theorem dX9_at_22 : decode cX9_at 22 = .ok (.ifCond .eq 19, 3) := by decide +kernel
theorem dX9_at_25 : decode cX9_at 25 = .ok (.aload_n 0, 1) := by decide +kernel
theorem dX9_at_26 : decode cX9_at 26 = .ok (.iload_n 1, 1) := by decide +kernel
theorem dX9_at_27 : decode cX9_at 27 = .ok (.bipush 8, 2) := by decide +kernel
theorem dX9_at_29 : decode cX9_at 29 = .ok (.iload_n 2, 1) := by decide +kernel
theorem dX9_at_30 : decode cX9_at 30 = .ok (.imul, 1) := by decide +kernel
theorem dX9_at_31 : decode cX9_at 31 = .ok (.iload_n 3, 1) := by decide +kernel
theorem dX9_at_32 : decode cX9_at 32 = .ok (.iadd, 1) := by decide +kernel
theorem dX9_at_33 : decode cX9_at 33 = .ok (.iload 4, 2) := by decide +kernel
theorem dX9_at_35 : decode cX9_at 35 = .ok (.invokevirtual 265, 3) := by decide +kernel
theorem dX9_at_38 : decode cX9_at 38 = .ok (.goto 5, 3) := by decide +kernel
theorem dX9_at_41 : decode cX9_at 41 = .ok (.bipush (-2), 2) := by decide +kernel
theorem dX9_at_43 : decode cX9_at 43 = .ok (.ireturn, 1) := by decide +kernel
theorem dX9_isColumn_0 : decode cX9_isColumn 0 = .ok (.aload_n 0, 1) := by decide +kernel
theorem dX9_isColumn_1 : decode cX9_isColumn 1 = .ok (.invokevirtual 151, 3) := by decide +kernel
theorem dX9_isColumn_4 : decode cX9_isColumn 4 = .ok (.iload_n 1, 1) := by decide +kernel
theorem dX9_isColumn_5 : decode cX9_isColumn 5 = .ok (.iconst 0, 1) := by decide +kernel
theorem dX9_isColumn_6 : decode cX9_isColumn 6 = .ok (.aload_n 0, 1) := by decide +kernel
theorem dX9_isColumn_7 : decode cX9_isColumn 7 = .ok (.getfield 121, 3) := by decide +kernel
theorem dX9_isColumn_10 : decode cX9_isColumn 10 = .ok (.iconst 1, 1) := by decide +kernel
theorem dX9_isColumn_11 : decode cX9_isColumn 11 = .ok (.isub, 1) := by decide +kernel
theorem dX9_isColumn_12 : decode cX9_isColumn 12 = .ok (.invokestatic 107, 3) := by decide +kernel
theorem dX9_isColumn_15 : decode cX9_isColumn 15 = .ok (.ireturn, 1) := by decide +kernel
theorem dX9_columnOf_0 : decode cX9_columnOf 0 = .ok (.aload_n 0, 1) := by decide +kernel
theorem dX9_columnOf_1 : decode cX9_columnOf 1 = .ok (.invokevirtual 262, 3) := by decide +kernel
theorem dX9_columnOf_4 : decode cX9_columnOf 4 = .ok (.iload_n 3, 1) := by decide +kernel
theorem dX9_columnOf_5 : decode cX9_columnOf 5 = .ok (.ifCond .ne 17, 3) := by decide +kernel
theorem dX9_columnOf_8 : decode cX9_columnOf 8 = .ok (.aload_n 0, 1) := by decide +kernel
theorem dX9_columnOf_9 : decode cX9_columnOf 9 = .ok (.getfield 67, 3) := by decide +kernel
theorem dX9_columnOf_12 : decode cX9_columnOf 12 = .ok (.bipush 8, 2) := by decide +kernel
theorem dX9_columnOf_14 : decode cX9_columnOf 14 = .ok (.iload_n 1, 1) := by decide +kernel
theorem dX9_columnOf_15 : decode cX9_columnOf 15 = .ok (.imul, 1) := by decide +kernel
theorem dX9_columnOf_16 : decode cX9_columnOf 16 = .ok (.iload_n 2, 1) := by decide +kernel
theorem dX9_columnOf_17 : decode cX9_columnOf 17 = .ok (.iadd, 1) := by decide +kernel
theorem dX9_columnOf_18 : decode cX9_columnOf 18 = .ok (.iaload, 1) := by decide +kernel
theorem dX9_columnOf_19 : decode cX9_columnOf 19 = .ok (.goto 22, 3) := by decide +kernel
theorem dX9_columnOf_22 : decode cX9_columnOf 22 = .ok (.aload_n 0, 1) := by decide +kernel
theorem dX9_columnOf_23 : decode cX9_columnOf 23 = .ok (.getfield 70, 3) := by decide +kernel
theorem dX9_columnOf_26 : decode cX9_columnOf 26 = .ok (.bipush 8, 2) := by decide +kernel
theorem dX9_columnOf_28 : decode cX9_columnOf 28 = .ok (.iload_n 1, 1) := by decide +kernel
theorem dX9_columnOf_29 : decode cX9_columnOf 29 = .ok (.imul, 1) := by decide +kernel
theorem dX9_columnOf_30 : decode cX9_columnOf 30 = .ok (.iload_n 2, 1) := by decide +kernel
theorem dX9_columnOf_31 : decode cX9_columnOf 31 = .ok (.iadd, 1) := by decide +kernel
theorem dX9_columnOf_32 : decode cX9_columnOf 32 = .ok (.baload, 1) := by decide +kernel
theorem dX9_columnOf_33 : decode cX9_columnOf 33 = .ok (.ifCond .eq 7, 3) := by decide +kernel
theorem dX9_columnOf_36 : decode cX9_columnOf 36 = .ok (.iconst 1, 1) := by decide +kernel
theorem dX9_columnOf_37 : decode cX9_columnOf 37 = .ok (.goto 4, 3) := by decide +kernel
theorem dX9_columnOf_40 : decode cX9_columnOf 40 = .ok (.iconst 0, 1) := by decide +kernel
theorem dX9_columnOf_41 : decode cX9_columnOf 41 = .ok (.ireturn, 1) := by decide +kernel
theorem dX9_column_0 : decode cX9_column 0 = .ok (.iload_n 1, 1) := by decide +kernel
theorem dX9_column_1 : decode cX9_column 1 = .ok (.invokestatic 167, 3) := by decide +kernel
theorem dX9_column_4 : decode cX9_column 4 = .ok (.ifCond .eq 30, 3) := by decide +kernel
theorem dX9_column_7 : decode cX9_column 7 = .ok (.aload_n 0, 1) := by decide +kernel
theorem dX9_column_8 : decode cX9_column 8 = .ok (.iload_n 2, 1) := by decide +kernel
theorem dX9_column_9 : decode cX9_column 9 = .ok (.invokevirtual 269, 3) := by decide +kernel
theorem dX9_column_12 : decode cX9_column 12 = .ok (.ifCond .eq 22, 3) := by decide +kernel
theorem dX9_column_15 : decode cX9_column 15 = .ok (.iload_n 3, 1) := by decide +kernel
theorem dX9_column_16 : decode cX9_column 16 = .ok (.iconst 0, 1) := by decide +kernel
theorem dX9_column_17 : decode cX9_column 17 = .ok (.iconst 1, 1) := by decide +kernel
theorem dX9_column_18 : decode cX9_column 18 = .ok (.invokestatic 107, 3) := by decide +kernel
theorem dX9_column_21 : decode cX9_column 21 = .ok (.ifCond .eq 13, 3) := by decide +kernel
theorem dX9_column_24 : decode cX9_column 24 = .ok (.aload_n 0, 1) := by decide +kernel
theorem dX9_column_25 : decode cX9_column 25 = .ok (.iload_n 1, 1) := by decide +kernel
theorem dX9_column_26 : decode cX9_column 26 = .ok (.iload_n 2, 1) := by decide +kernel
theorem dX9_column_27 : decode cX9_column 27 = .ok (.iload_n 3, 1) := by decide +kernel
theorem dX9_column_28 : decode cX9_column 28 = .ok (.invokevirtual 272, 3) := by decide +kernel
theorem dX9_column_31 : decode cX9_column 31 = .ok (.goto 5, 3) := by decide +kernel
theorem dX9_column_34 : decode cX9_column 34 = .ok (.bipush (-2), 2) := by decide +kernel
theorem dX9_column_36 : decode cX9_column 36 = .ok (.ireturn, 1) := by decide +kernel
theorem dX9_fallsOf_0 : decode cX9_fallsOf 0 = .ok (.aload_n 0, 1) := by decide +kernel
theorem dX9_fallsOf_1 : decode cX9_fallsOf 1 = .ok (.invokevirtual 262, 3) := by decide +kernel
theorem dX9_fallsOf_4 : decode cX9_fallsOf 4 = .ok (.aload_n 0, 1) := by decide +kernel
theorem dX9_fallsOf_5 : decode cX9_fallsOf 5 = .ok (.getfield 61, 3) := by decide +kernel
theorem dX9_fallsOf_8 : decode cX9_fallsOf 8 = .ok (.iload_n 1, 1) := by decide +kernel
theorem dX9_fallsOf_9 : decode cX9_fallsOf 9 = .ok (.iaload, 1) := by decide +kernel
theorem dX9_fallsOf_10 : decode cX9_fallsOf 10 = .ok (.ireturn, 1) := by decide +kernel
theorem dX9_falls_0 : decode cX9_falls 0 = .ok (.iload_n 1, 1) := by decide +kernel
theorem dX9_falls_1 : decode cX9_falls 1 = .ok (.invokestatic 167, 3) := by decide +kernel
theorem dX9_falls_4 : decode cX9_falls 4 = .ok (.ifCond .eq 11, 3) := by decide +kernel
theorem dX9_falls_7 : decode cX9_falls 7 = .ok (.aload_n 0, 1) := by decide +kernel
theorem dX9_falls_8 : decode cX9_falls 8 = .ok (.iload_n 1, 1) := by decide +kernel
theorem dX9_falls_9 : decode cX9_falls 9 = .ok (.invokevirtual 275, 3) := by decide +kernel
theorem dX9_falls_12 : decode cX9_falls 12 = .ok (.goto 5, 3) := by decide +kernel
theorem dX9_falls_15 : decode cX9_falls 15 = .ok (.bipush (-2), 2) := by decide +kernel
theorem dX9_falls_17 : decode cX9_falls 17 = .ok (.ireturn, 1) := by decide +kernel
theorem dX9_sheepOf_0 : decode cX9_sheepOf 0 = .ok (.aload_n 0, 1) := by decide +kernel
theorem dX9_sheepOf_1 : decode cX9_sheepOf 1 = .ok (.invokevirtual 262, 3) := by decide +kernel
theorem dX9_sheepOf_4 : decode cX9_sheepOf 4 = .ok (.iload_n 1, 1) := by decide +kernel
theorem dX9_sheepOf_5 : decode cX9_sheepOf 5 = .ok (.ifCond .ne 10, 3) := by decide +kernel
theorem dX9_sheepOf_8 : decode cX9_sheepOf 8 = .ok (.aload_n 0, 1) := by decide +kernel
theorem dX9_sheepOf_9 : decode cX9_sheepOf 9 = .ok (.getfield 231, 3) := by decide +kernel
theorem dX9_sheepOf_12 : decode cX9_sheepOf 12 = .ok (.goto 7, 3) := by decide +kernel
theorem dX9_sheepOf_15 : decode cX9_sheepOf 15 = .ok (.aload_n 0, 1) := by decide +kernel
theorem dX9_sheepOf_16 : decode cX9_sheepOf 16 = .ok (.getfield 234, 3) := by decide +kernel
theorem dX9_sheepOf_19 : decode cX9_sheepOf 19 = .ok (.ireturn, 1) := by decide +kernel
theorem dX9_sheep_0 : decode cX9_sheep 0 = .ok (.iload_n 1, 1) := by decide +kernel
theorem dX9_sheep_1 : decode cX9_sheep 1 = .ok (.iconst 0, 1) := by decide +kernel
theorem dX9_sheep_2 : decode cX9_sheep 2 = .ok (.iconst 1, 1) := by decide +kernel
theorem dX9_sheep_3 : decode cX9_sheep 3 = .ok (.invokestatic 107, 3) := by decide +kernel
theorem dX9_sheep_6 : decode cX9_sheep 6 = .ok (.ifCond .eq 11, 3) := by decide +kernel
theorem dX9_sheep_9 : decode cX9_sheep 9 = .ok (.aload_n 0, 1) := by decide +kernel
theorem dX9_sheep_10 : decode cX9_sheep 10 = .ok (.iload_n 1, 1) := by decide +kernel
theorem dX9_sheep_11 : decode cX9_sheep 11 = .ok (.invokevirtual 278, 3) := by decide +kernel
theorem dX9_sheep_14 : decode cX9_sheep 14 = .ok (.goto 5, 3) := by decide +kernel
theorem dX9_sheep_17 : decode cX9_sheep 17 = .ok (.bipush (-2), 2) := by decide +kernel
theorem dX9_sheep_19 : decode cX9_sheep 19 = .ok (.ireturn, 1) := by decide +kernel
theorem dX9_mineNow_0 : decode cX9_mineNow 0 = .ok (.iconst 0, 1) := by decide +kernel
theorem dX9_mineNow_1 : decode cX9_mineNow 1 = .ok (.istore_n 2, 1) := by decide +kernel
theorem dX9_mineNow_2 : decode cX9_mineNow 2 = .ok (.iconst 0, 1) := by decide +kernel
theorem dX9_mineNow_3 : decode cX9_mineNow 3 = .ok (.istore_n 3, 1) := by decide +kernel
theorem dX9_mineNow_4 : decode cX9_mineNow 4 = .ok (.iload_n 3, 1) := by decide +kernel
theorem dX9_mineNow_5 : decode cX9_mineNow 5 = .ok (.bipush 40, 2) := by decide +kernel
theorem dX9_mineNow_7 : decode cX9_mineNow 7 = .ok (.if_icmp .ge 31, 3) := by decide +kernel
theorem dX9_mineNow_10 : decode cX9_mineNow 10 = .ok (.iload_n 2, 1) := by decide +kernel
theorem dX9_mineNow_11 : decode cX9_mineNow 11 = .ok (.aload_n 0, 1) := by decide +kernel
theorem dX9_mineNow_12 : decode cX9_mineNow 12 = .ok (.getfield 55, 3) := by decide +kernel
theorem dX9_mineNow_15 : decode cX9_mineNow 15 = .ok (.sipush 760, 3) := by decide +kernel
theorem dX9_mineNow_18 : decode cX9_mineNow 18 = .ok (.iload_n 3, 1) := by decide +kernel
theorem dX9_mineNow_19 : decode cX9_mineNow 19 = .ok (.iadd, 1) := by decide +kernel
theorem dX9_mineNow_20 : decode cX9_mineNow 20 = .ok (.iaload, 1) := by decide +kernel
theorem dX9_mineNow_21 : decode cX9_mineNow 21 = .ok (.iload_n 1, 1) := by decide +kernel
theorem dX9_mineNow_22 : decode cX9_mineNow 22 = .ok (.if_icmp .ne 7, 3) := by decide +kernel
theorem dX9_mineNow_25 : decode cX9_mineNow 25 = .ok (.iconst 1, 1) := by decide +kernel
theorem dX9_mineNow_26 : decode cX9_mineNow 26 = .ok (.goto 4, 3) := by decide +kernel
theorem dX9_mineNow_29 : decode cX9_mineNow 29 = .ok (.iconst 0, 1) := by decide +kernel
theorem dX9_mineNow_30 : decode cX9_mineNow 30 = .ok (.iadd, 1) := by decide +kernel
theorem dX9_mineNow_31 : decode cX9_mineNow 31 = .ok (.istore_n 2, 1) := by decide +kernel
theorem dX9_mineNow_32 : decode cX9_mineNow 32 = .ok (.iinc 3 1, 3) := by decide +kernel
theorem dX9_mineNow_35 : decode cX9_mineNow 35 = .ok (.goto (-31), 3) := by decide +kernel
theorem dX9_mineNow_38 : decode cX9_mineNow 38 = .ok (.iload_n 2, 1) := by decide +kernel
theorem dX9_mineNow_39 : decode cX9_mineNow 39 = .ok (.ireturn, 1) := by decide +kernel
theorem dX9_mineOf_0 : decode cX9_mineOf 0 = .ok (.aload_n 0, 1) := by decide +kernel
theorem dX9_mineOf_1 : decode cX9_mineOf 1 = .ok (.invokevirtual 262, 3) := by decide +kernel
theorem dX9_mineOf_4 : decode cX9_mineOf 4 = .ok (.aload_n 0, 1) := by decide +kernel
theorem dX9_mineOf_5 : decode cX9_mineOf 5 = .ok (.iload_n 1, 1) := by decide +kernel
theorem dX9_mineOf_6 : decode cX9_mineOf 6 = .ok (.invokevirtual 281, 3) := by decide +kernel
theorem dX9_mineOf_9 : decode cX9_mineOf 9 = .ok (.ireturn, 1) := by decide +kernel
theorem dX9_mine_0 : decode cX9_mine 0 = .ok (.iload_n 1, 1) := by decide +kernel
theorem dX9_mine_1 : decode cX9_mine 1 = .ok (.invokestatic 111, 3) := by decide +kernel
theorem dX9_mine_4 : decode cX9_mine 4 = .ok (.ifCond .eq 11, 3) := by decide +kernel
theorem dX9_mine_7 : decode cX9_mine 7 = .ok (.aload_n 0, 1) := by decide +kernel
theorem dX9_mine_8 : decode cX9_mine 8 = .ok (.iload_n 1, 1) := by decide +kernel
theorem dX9_mine_9 : decode cX9_mine 9 = .ok (.invokevirtual 284, 3) := by decide +kernel
theorem dX9_mine_12 : decode cX9_mine 12 = .ok (.goto 5, 3) := by decide +kernel
theorem dX9_mine_15 : decode cX9_mine 15 = .ok (.bipush (-2), 2) := by decide +kernel
theorem dX9_mine_17 : decode cX9_mine 17 = .ok (.ireturn, 1) := by decide +kernel
theorem dX9_bestNow_0 : decode cX9_bestNow 0 = .ok (.aload_n 0, 1) := by decide +kernel
theorem dX9_bestNow_1 : decode cX9_bestNow 1 = .ok (.invokevirtual 262, 3) := by decide +kernel
theorem dX9_bestNow_4 : decode cX9_bestNow 4 = .ok (.iconst (-1), 1) := by decide +kernel
theorem dX9_bestNow_5 : decode cX9_bestNow 5 = .ok (.istore_n 1, 1) := by decide +kernel
theorem dX9_bestNow_6 : decode cX9_bestNow 6 = .ok (.iconst 0, 1) := by decide +kernel
theorem dX9_bestNow_7 : decode cX9_bestNow 7 = .ok (.istore_n 2, 1) := by decide +kernel
theorem dX9_bestNow_8 : decode cX9_bestNow 8 = .ok (.iconst 0, 1) := by decide +kernel
theorem dX9_bestNow_9 : decode cX9_bestNow 9 = .ok (.istore_n 3, 1) := by decide +kernel
theorem dX9_bestNow_10 : decode cX9_bestNow 10 = .ok (.iload_n 3, 1) := by decide +kernel
theorem dX9_bestNow_11 : decode cX9_bestNow 11 = .ok (.bipush 8, 2) := by decide +kernel
theorem dX9_bestNow_13 : decode cX9_bestNow 13 = .ok (.if_icmp .ge 41, 3) := by decide +kernel
theorem dX9_bestNow_16 : decode cX9_bestNow 16 = .ok (.aload_n 0, 1) := by decide +kernel
theorem dX9_bestNow_17 : decode cX9_bestNow 17 = .ok (.iload_n 3, 1) := by decide +kernel
theorem dX9_bestNow_18 : decode cX9_bestNow 18 = .ok (.invokevirtual 281, 3) := by decide +kernel
theorem dX9_bestNow_21 : decode cX9_bestNow 21 = .ok (.istore 4, 2) := by decide +kernel
theorem dX9_bestNow_23 : decode cX9_bestNow 23 = .ok (.iload 4, 2) := by decide +kernel
theorem dX9_bestNow_25 : decode cX9_bestNow 25 = .ok (.iload_n 2, 1) := by decide +kernel
theorem dX9_bestNow_26 : decode cX9_bestNow 26 = .ok (.if_icmp .le 7, 3) := by decide +kernel
theorem dX9_bestNow_29 : decode cX9_bestNow 29 = .ok (.iload_n 3, 1) := by decide +kernel
theorem dX9_bestNow_30 : decode cX9_bestNow 30 = .ok (.goto 4, 3) := by decide +kernel
theorem dX9_bestNow_33 : decode cX9_bestNow 33 = .ok (.iload_n 1, 1) := by decide +kernel
theorem dX9_bestNow_34 : decode cX9_bestNow 34 = .ok (.istore_n 1, 1) := by decide +kernel
theorem dX9_bestNow_35 : decode cX9_bestNow 35 = .ok (.iload 4, 2) := by decide +kernel
theorem dX9_bestNow_37 : decode cX9_bestNow 37 = .ok (.iload_n 2, 1) := by decide +kernel
theorem dX9_bestNow_38 : decode cX9_bestNow 38 = .ok (.if_icmp .le 8, 3) := by decide +kernel
theorem dX9_bestNow_41 : decode cX9_bestNow 41 = .ok (.iload 4, 2) := by decide +kernel
theorem dX9_bestNow_43 : decode cX9_bestNow 43 = .ok (.goto 4, 3) := by decide +kernel
theorem dX9_bestNow_46 : decode cX9_bestNow 46 = .ok (.iload_n 2, 1) := by decide +kernel
theorem dX9_bestNow_47 : decode cX9_bestNow 47 = .ok (.istore_n 2, 1) := by decide +kernel
theorem dX9_bestNow_48 : decode cX9_bestNow 48 = .ok (.iinc 3 1, 3) := by decide +kernel
theorem dX9_bestNow_51 : decode cX9_bestNow 51 = .ok (.goto (-41), 3) := by decide +kernel
theorem dX9_bestNow_54 : decode cX9_bestNow 54 = .ok (.iload_n 1, 1) := by decide +kernel
theorem dX9_bestNow_55 : decode cX9_bestNow 55 = .ok (.ireturn, 1) := by decide +kernel
theorem dX9_best_0 : decode cX9_best 0 = .ok (.aload_n 0, 1) := by decide +kernel
theorem dX9_best_1 : decode cX9_best 1 = .ok (.invokevirtual 287, 3) := by decide +kernel
theorem dX9_best_4 : decode cX9_best 4 = .ok (.ireturn, 1) := by decide +kernel
theorem dX9_mendOf_0 : decode cX9_mendOf 0 = .ok (.aload_n 0, 1) := by decide +kernel
theorem dX9_mendOf_1 : decode cX9_mendOf 1 = .ok (.invokevirtual 256, 3) := by decide +kernel
theorem dX9_mendOf_4 : decode cX9_mendOf 4 = .ok (.iconst (-1), 1) := by decide +kernel
theorem dX9_mendOf_5 : decode cX9_mendOf 5 = .ok (.istore_n 3, 1) := by decide +kernel
theorem dX9_mendOf_6 : decode cX9_mendOf 6 = .ok (.bipush 99, 2) := by decide +kernel
theorem dX9_mendOf_8 : decode cX9_mendOf 8 = .ok (.istore 4, 2) := by decide +kernel
theorem dX9_mendOf_10 : decode cX9_mendOf 10 = .ok (.aload_n 0, 1) := by decide +kernel
theorem dX9_mendOf_11 : decode cX9_mendOf 11 = .ok (.aload_n 0, 1) := by decide +kernel
theorem dX9_mendOf_12 : decode cX9_mendOf 12 = .ok (.getfield 173, 3) := by decide +kernel
theorem dX9_mendOf_15 : decode cX9_mendOf 15 = .ok (.iconst 1, 1) := by decide +kernel
theorem dX9_mendOf_16 : decode cX9_mendOf 16 = .ok (.iadd, 1) := by decide +kernel
theorem dX9_mendOf_17 : decode cX9_mendOf 17 = .ok (.putfield 191, 3) := by decide +kernel
theorem dX9_mendOf_20 : decode cX9_mendOf 20 = .ok (.aload_n 0, 1) := by decide +kernel
theorem dX9_mendOf_21 : decode cX9_mendOf 21 = .ok (.getfield 31, 3) := by decide +kernel
theorem dX9_mendOf_24 : decode cX9_mendOf 24 = .ok (.aload_n 0, 1) := by decide +kernel
theorem dX9_mendOf_25 : decode cX9_mendOf 25 = .ok (.getfield 173, 3) := by decide +kernel
theorem dX9_mendOf_28 : decode cX9_mendOf 28 = .ok (.iload_n 1, 1) := by decide +kernel
theorem dX9_mendOf_29 : decode cX9_mendOf 29 = .ok (.iastore, 1) := by decide +kernel
theorem dX9_mendOf_30 : decode cX9_mendOf 30 = .ok (.iconst 0, 1) := by decide +kernel
theorem dX9_mendOf_31 : decode cX9_mendOf 31 = .ok (.istore 5, 2) := by decide +kernel
theorem dX9_mendOf_33 : decode cX9_mendOf 33 = .ok (.iload 5, 2) := by decide +kernel
theorem dX9_mendOf_35 : decode cX9_mendOf 35 = .ok (.aload_n 0, 1) := by decide +kernel
theorem dX9_mendOf_36 : decode cX9_mendOf 36 = .ok (.getfield 121, 3) := by decide +kernel
theorem dX9_mendOf_39 : decode cX9_mendOf 39 = .ok (.aload_n 0, 1) := by decide +kernel
theorem dX9_mendOf_40 : decode cX9_mendOf 40 = .ok (.getfield 135, 3) := by decide +kernel
theorem dX9_mendOf_43 : decode cX9_mendOf 43 = .ok (.imul, 1) := by decide +kernel
theorem dX9_mendOf_44 : decode cX9_mendOf 44 = .ok (.if_icmp .ge 81, 3) := by decide +kernel
theorem dX9_mendOf_47 : decode cX9_mendOf 47 = .ok (.aload_n 0, 1) := by decide +kernel
theorem dX9_mendOf_48 : decode cX9_mendOf 48 = .ok (.getfield 34, 3) := by decide +kernel
theorem dX9_mendOf_51 : decode cX9_mendOf 51 = .ok (.aload_n 0, 1) := by decide +kernel
theorem dX9_mendOf_52 : decode cX9_mendOf 52 = .ok (.getfield 173, 3) := by decide +kernel
theorem dX9_mendOf_55 : decode cX9_mendOf 55 = .ok (.iload 5, 2) := by decide +kernel
theorem dX9_mendOf_57 : decode cX9_mendOf 57 = .ok (.aload_n 0, 1) := by decide +kernel
theorem dX9_mendOf_58 : decode cX9_mendOf 58 = .ok (.getfield 135, 3) := by decide +kernel
theorem dX9_mendOf_61 : decode cX9_mendOf 61 = .ok (.idiv, 1) := by decide +kernel
theorem dX9_mendOf_62 : decode cX9_mendOf 62 = .ok (.iastore, 1) := by decide +kernel
theorem dX9_mendOf_63 : decode cX9_mendOf 63 = .ok (.aload_n 0, 1) := by decide +kernel
theorem dX9_mendOf_64 : decode cX9_mendOf 64 = .ok (.getfield 37, 3) := by decide +kernel
theorem dX9_mendOf_67 : decode cX9_mendOf 67 = .ok (.aload_n 0, 1) := by decide +kernel
theorem dX9_mendOf_68 : decode cX9_mendOf 68 = .ok (.getfield 173, 3) := by decide +kernel
theorem dX9_mendOf_71 : decode cX9_mendOf 71 = .ok (.iload 5, 2) := by decide +kernel
theorem dX9_mendOf_73 : decode cX9_mendOf 73 = .ok (.aload_n 0, 1) := by decide +kernel
theorem dX9_mendOf_74 : decode cX9_mendOf 74 = .ok (.getfield 135, 3) := by decide +kernel
theorem dX9_mendOf_77 : decode cX9_mendOf 77 = .ok (.irem, 1) := by decide +kernel
theorem dX9_mendOf_78 : decode cX9_mendOf 78 = .ok (.iastore, 1) := by decide +kernel
theorem dX9_mendOf_79 : decode cX9_mendOf 79 = .ok (.aload_n 0, 1) := by decide +kernel
theorem dX9_mendOf_80 : decode cX9_mendOf 80 = .ok (.invokevirtual 259, 3) := by decide +kernel
theorem dX9_mendOf_83 : decode cX9_mendOf 83 = .ok (.aload_n 0, 1) := by decide +kernel
theorem dX9_mendOf_84 : decode cX9_mendOf 84 = .ok (.getfield 234, 3) := by decide +kernel
theorem dX9_mendOf_87 : decode cX9_mendOf 87 = .ok (.iload 4, 2) := by decide +kernel
theorem dX9_mendOf_89 : decode cX9_mendOf 89 = .ok (.if_icmp .ge 8, 3) := by decide +kernel
theorem dX9_mendOf_92 : decode cX9_mendOf 92 = .ok (.iload 5, 2) := by decide +kernel
theorem dX9_mendOf_94 : decode cX9_mendOf 94 = .ok (.goto 4, 3) := by decide +kernel
theorem dX9_mendOf_97 : decode cX9_mendOf 97 = .ok (.iload_n 3, 1) := by decide +kernel
theorem dX9_mendOf_98 : decode cX9_mendOf 98 = .ok (.istore_n 3, 1) := by decide +kernel
theorem dX9_mendOf_99 : decode cX9_mendOf 99 = .ok (.aload_n 0, 1) := by decide +kernel
theorem dX9_mendOf_100 : decode cX9_mendOf 100 = .ok (.getfield 234, 3) := by decide +kernel
theorem dX9_mendOf_103 : decode cX9_mendOf 103 = .ok (.iload 4, 2) := by decide +kernel
theorem dX9_mendOf_105 : decode cX9_mendOf 105 = .ok (.if_icmp .ge 10, 3) := by decide +kernel
theorem dX9_mendOf_108 : decode cX9_mendOf 108 = .ok (.aload_n 0, 1) := by decide +kernel
theorem dX9_mendOf_109 : decode cX9_mendOf 109 = .ok (.getfield 234, 3) := by decide +kernel
theorem dX9_mendOf_112 : decode cX9_mendOf 112 = .ok (.goto 5, 3) := by decide +kernel
theorem dX9_mendOf_115 : decode cX9_mendOf 115 = .ok (.iload 4, 2) := by decide +kernel
theorem dX9_mendOf_117 : decode cX9_mendOf 117 = .ok (.istore 4, 2) := by decide +kernel
theorem dX9_mendOf_119 : decode cX9_mendOf 119 = .ok (.iinc 5 1, 3) := by decide +kernel
theorem dX9_mendOf_122 : decode cX9_mendOf 122 = .ok (.goto (-89), 3) := by decide +kernel
theorem dX9_mendOf_125 : decode cX9_mendOf 125 = .ok (.iload_n 3, 1) := by decide +kernel
theorem dX9_mendOf_126 : decode cX9_mendOf 126 = .ok (.iconst (-1), 1) := by decide +kernel
theorem dX9_mendOf_127 : decode cX9_mendOf 127 = .ok (.if_icmp .ne 7, 3) := by decide +kernel
theorem dX9_mendOf_130 : decode cX9_mendOf 130 = .ok (.iconst (-1), 1) := by decide +kernel
theorem dX9_mendOf_131 : decode cX9_mendOf 131 = .ok (.goto 32, 3) := by decide +kernel
theorem dX9_mendOf_134 : decode cX9_mendOf 134 = .ok (.iload_n 2, 1) := by decide +kernel
theorem dX9_mendOf_135 : decode cX9_mendOf 135 = .ok (.ifCond .ne 12, 3) := by decide +kernel
theorem dX9_mendOf_138 : decode cX9_mendOf 138 = .ok (.iload_n 3, 1) := by decide +kernel
theorem dX9_mendOf_139 : decode cX9_mendOf 139 = .ok (.aload_n 0, 1) := by decide +kernel
theorem dX9_mendOf_140 : decode cX9_mendOf 140 = .ok (.getfield 135, 3) := by decide +kernel
theorem dX9_mendOf_143 : decode cX9_mendOf 143 = .ok (.idiv, 1) := by decide +kernel
theorem dX9_mendOf_144 : decode cX9_mendOf 144 = .ok (.goto 19, 3) := by decide +kernel
theorem dX9_mendOf_147 : decode cX9_mendOf 147 = .ok (.iload_n 2, 1) := by decide +kernel
theorem dX9_mendOf_148 : decode cX9_mendOf 148 = .ok (.iconst 1, 1) := by decide +kernel
theorem dX9_mendOf_149 : decode cX9_mendOf 149 = .ok (.if_icmp .ne 12, 3) := by decide +kernel
theorem dX9_mendOf_152 : decode cX9_mendOf 152 = .ok (.iload_n 3, 1) := by decide +kernel
theorem dX9_mendOf_153 : decode cX9_mendOf 153 = .ok (.aload_n 0, 1) := by decide +kernel
theorem dX9_mendOf_154 : decode cX9_mendOf 154 = .ok (.getfield 135, 3) := by decide +kernel
theorem dX9_mendOf_157 : decode cX9_mendOf 157 = .ok (.irem, 1) := by decide +kernel
theorem dX9_mendOf_158 : decode cX9_mendOf 158 = .ok (.goto 5, 3) := by decide +kernel
theorem dX9_mendOf_161 : decode cX9_mendOf 161 = .ok (.iload 4, 2) := by decide +kernel
theorem dX9_mendOf_163 : decode cX9_mendOf 163 = .ok (.ireturn, 1) := by decide +kernel
theorem dX9_mend_0 : decode cX9_mend 0 = .ok (.iload_n 1, 1) := by decide +kernel
theorem dX9_mend_1 : decode cX9_mend 1 = .ok (.invokestatic 167, 3) := by decide +kernel
theorem dX9_mend_4 : decode cX9_mend 4 = .ok (.ifCond .eq 21, 3) := by decide +kernel
theorem dX9_mend_7 : decode cX9_mend 7 = .ok (.iload_n 2, 1) := by decide +kernel
theorem dX9_mend_8 : decode cX9_mend 8 = .ok (.iconst 0, 1) := by decide +kernel
theorem dX9_mend_9 : decode cX9_mend 9 = .ok (.iconst 2, 1) := by decide +kernel
theorem dX9_mend_10 : decode cX9_mend 10 = .ok (.invokestatic 107, 3) := by decide +kernel
theorem dX9_mend_13 : decode cX9_mend 13 = .ok (.ifCond .eq 12, 3) := by decide +kernel
theorem dX9_mend_16 : decode cX9_mend 16 = .ok (.aload_n 0, 1) := by decide +kernel
theorem dX9_mend_17 : decode cX9_mend 17 = .ok (.iload_n 1, 1) := by decide +kernel
theorem dX9_mend_18 : decode cX9_mend 18 = .ok (.iload_n 2, 1) := by decide +kernel
theorem dX9_mend_19 : decode cX9_mend 19 = .ok (.invokevirtual 290, 3) := by decide +kernel
theorem dX9_mend_22 : decode cX9_mend 22 = .ok (.goto 5, 3) := by decide +kernel
theorem dX9_mend_25 : decode cX9_mend 25 = .ok (.bipush (-2), 2) := by decide +kernel
theorem dX9_mend_27 : decode cX9_mend 27 = .ok (.ireturn, 1) := by decide +kernel
theorem dX9_firmOf_0 : decode cX9_firmOf 0 = .ok (.aload_n 0, 1) := by decide +kernel
theorem dX9_firmOf_1 : decode cX9_firmOf 1 = .ok (.invokevirtual 256, 3) := by decide +kernel
theorem dX9_firmOf_4 : decode cX9_firmOf 4 = .ok (.aload_n 0, 1) := by decide +kernel
theorem dX9_firmOf_5 : decode cX9_firmOf 5 = .ok (.getfield 22, 3) := by decide +kernel
theorem dX9_firmOf_8 : decode cX9_firmOf 8 = .ok (.iload_n 1, 1) := by decide +kernel
theorem dX9_firmOf_9 : decode cX9_firmOf 9 = .ok (.iaload, 1) := by decide +kernel
theorem dX9_firmOf_10 : decode cX9_firmOf 10 = .ok (.istore_n 2, 1) := by decide +kernel
theorem dX9_firmOf_11 : decode cX9_firmOf 11 = .ok (.iconst (-1), 1) := by decide +kernel
theorem dX9_firmOf_12 : decode cX9_firmOf 12 = .ok (.istore_n 3, 1) := by decide +kernel
theorem dX9_firmOf_13 : decode cX9_firmOf 13 = .ok (.iconst 1, 1) := by decide +kernel
theorem dX9_firmOf_14 : decode cX9_firmOf 14 = .ok (.istore 4, 2) := by decide +kernel
theorem dX9_firmOf_16 : decode cX9_firmOf 16 = .ok (.iload 4, 2) := by decide +kernel
theorem dX9_firmOf_18 : decode cX9_firmOf 18 = .ok (.bipush 10, 2) := by decide +kernel
theorem dX9_firmOf_20 : decode cX9_firmOf 20 = .ok (.if_icmp .ge 42, 3) := by decide +kernel
theorem dX9_firmOf_23 : decode cX9_firmOf 23 = .ok (.iload_n 3, 1) := by decide +kernel
theorem dX9_firmOf_24 : decode cX9_firmOf 24 = .ok (.iconst (-1), 1) := by decide +kernel
theorem dX9_firmOf_25 : decode cX9_firmOf 25 = .ok (.if_icmp .ne 37, 3) := by decide +kernel
theorem dX9_firmOf_28 : decode cX9_firmOf 28 = .ok (.aload_n 0, 1) := by decide +kernel
theorem dX9_firmOf_29 : decode cX9_firmOf 29 = .ok (.getfield 22, 3) := by decide +kernel
theorem dX9_firmOf_32 : decode cX9_firmOf 32 = .ok (.iload_n 1, 1) := by decide +kernel
theorem dX9_firmOf_33 : decode cX9_firmOf 33 = .ok (.iload 4, 2) := by decide +kernel
theorem dX9_firmOf_35 : decode cX9_firmOf 35 = .ok (.iastore, 1) := by decide +kernel
theorem dX9_firmOf_36 : decode cX9_firmOf 36 = .ok (.aload_n 0, 1) := by decide +kernel
theorem dX9_firmOf_37 : decode cX9_firmOf 37 = .ok (.invokevirtual 259, 3) := by decide +kernel
theorem dX9_firmOf_40 : decode cX9_firmOf 40 = .ok (.aload_n 0, 1) := by decide +kernel
theorem dX9_firmOf_41 : decode cX9_firmOf 41 = .ok (.getfield 52, 3) := by decide +kernel
theorem dX9_firmOf_44 : decode cX9_firmOf 44 = .ok (.iload_n 1, 1) := by decide +kernel
theorem dX9_firmOf_45 : decode cX9_firmOf 45 = .ok (.iaload, 1) := by decide +kernel
theorem dX9_firmOf_46 : decode cX9_firmOf 46 = .ok (.ifCond .ne 8, 3) := by decide +kernel
theorem dX9_firmOf_49 : decode cX9_firmOf 49 = .ok (.iload 4, 2) := by decide +kernel
theorem dX9_firmOf_51 : decode cX9_firmOf 51 = .ok (.goto 4, 3) := by decide +kernel
theorem dX9_firmOf_54 : decode cX9_firmOf 54 = .ok (.iconst (-1), 1) := by decide +kernel
theorem dX9_firmOf_55 : decode cX9_firmOf 55 = .ok (.istore_n 3, 1) := by decide +kernel
theorem dX9_firmOf_56 : decode cX9_firmOf 56 = .ok (.iinc 4 1, 3) := by decide +kernel
theorem dX9_firmOf_59 : decode cX9_firmOf 59 = .ok (.goto (-43), 3) := by decide +kernel
theorem dX9_firmOf_62 : decode cX9_firmOf 62 = .ok (.aload_n 0, 1) := by decide +kernel
theorem dX9_firmOf_63 : decode cX9_firmOf 63 = .ok (.getfield 22, 3) := by decide +kernel
theorem dX9_firmOf_66 : decode cX9_firmOf 66 = .ok (.iload_n 1, 1) := by decide +kernel
theorem dX9_firmOf_67 : decode cX9_firmOf 67 = .ok (.iload_n 2, 1) := by decide +kernel
theorem dX9_firmOf_68 : decode cX9_firmOf 68 = .ok (.iastore, 1) := by decide +kernel
theorem dX9_firmOf_69 : decode cX9_firmOf 69 = .ok (.iload_n 3, 1) := by decide +kernel
theorem dX9_firmOf_70 : decode cX9_firmOf 70 = .ok (.ireturn, 1) := by decide +kernel
theorem dX9_firm_0 : decode cX9_firm 0 = .ok (.aload_n 0, 1) := by decide +kernel
theorem dX9_firm_1 : decode cX9_firm 1 = .ok (.iload_n 1, 1) := by decide +kernel
theorem dX9_firm_2 : decode cX9_firm 2 = .ok (.invokevirtual 161, 3) := by decide +kernel
theorem dX9_firm_5 : decode cX9_firm 5 = .ok (.ifCond .eq 11, 3) := by decide +kernel
theorem dX9_firm_8 : decode cX9_firm 8 = .ok (.aload_n 0, 1) := by decide +kernel
theorem dX9_firm_9 : decode cX9_firm 9 = .ok (.iload_n 1, 1) := by decide +kernel
theorem dX9_firm_10 : decode cX9_firm 10 = .ok (.invokevirtual 293, 3) := by decide +kernel
theorem dX9_firm_13 : decode cX9_firm 13 = .ok (.goto 5, 3) := by decide +kernel
theorem dX9_firm_16 : decode cX9_firm 16 = .ok (.bipush (-2), 2) := by decide +kernel
theorem dX9_firm_18 : decode cX9_firm 18 = .ok (.ireturn, 1) := by decide +kernel
theorem dX9_relayOf_0 : decode cX9_relayOf 0 = .ok (.aload_n 0, 1) := by decide +kernel
theorem dX9_relayOf_1 : decode cX9_relayOf 1 = .ok (.invokevirtual 256, 3) := by decide +kernel
theorem dX9_relayOf_4 : decode cX9_relayOf 4 = .ok (.iconst (-1), 1) := by decide +kernel
theorem dX9_relayOf_5 : decode cX9_relayOf 5 = .ok (.istore_n 3, 1) := by decide +kernel
theorem dX9_relayOf_6 : decode cX9_relayOf 6 = .ok (.sipush 9999, 3) := by decide +kernel
theorem dX9_relayOf_9 : decode cX9_relayOf 9 = .ok (.istore 4, 2) := by decide +kernel
theorem dX9_relayOf_11 : decode cX9_relayOf 11 = .ok (.iconst 0, 1) := by decide +kernel
theorem dX9_relayOf_12 : decode cX9_relayOf 12 = .ok (.istore 5, 2) := by decide +kernel
theorem dX9_relayOf_14 : decode cX9_relayOf 14 = .ok (.iload 5, 2) := by decide +kernel
theorem dX9_relayOf_16 : decode cX9_relayOf 16 = .ok (.bipush 40, 2) := by decide +kernel
theorem dX9_relayOf_18 : decode cX9_relayOf 18 = .ok (.if_icmp .ge 81, 3) := by decide +kernel
theorem dX9_relayOf_21 : decode cX9_relayOf 21 = .ok (.aload_n 0, 1) := by decide +kernel
theorem dX9_relayOf_22 : decode cX9_relayOf 22 = .ok (.getfield 16, 3) := by decide +kernel
theorem dX9_relayOf_25 : decode cX9_relayOf 25 = .ok (.iload 5, 2) := by decide +kernel
theorem dX9_relayOf_27 : decode cX9_relayOf 27 = .ok (.iaload, 1) := by decide +kernel
theorem dX9_relayOf_28 : decode cX9_relayOf 28 = .ok (.istore 6, 2) := by decide +kernel
theorem dX9_relayOf_30 : decode cX9_relayOf 30 = .ok (.iload 6, 2) := by decide +kernel
theorem dX9_relayOf_32 : decode cX9_relayOf 32 = .ok (.iconst (-1), 1) := by decide +kernel
theorem dX9_relayOf_33 : decode cX9_relayOf 33 = .ok (.if_icmp .eq 60, 3) := by decide +kernel
theorem dX9_relayOf_36 : decode cX9_relayOf 36 = .ok (.aload_n 0, 1) := by decide +kernel
theorem dX9_relayOf_37 : decode cX9_relayOf 37 = .ok (.getfield 16, 3) := by decide +kernel
theorem dX9_relayOf_40 : decode cX9_relayOf 40 = .ok (.iload 5, 2) := by decide +kernel
theorem dX9_relayOf_42 : decode cX9_relayOf 42 = .ok (.iload_n 1, 1) := by decide +kernel
theorem dX9_relayOf_43 : decode cX9_relayOf 43 = .ok (.iastore, 1) := by decide +kernel
theorem dX9_relayOf_44 : decode cX9_relayOf 44 = .ok (.aload_n 0, 1) := by decide +kernel
theorem dX9_relayOf_45 : decode cX9_relayOf 45 = .ok (.invokevirtual 259, 3) := by decide +kernel
theorem dX9_relayOf_48 : decode cX9_relayOf 48 = .ok (.aload_n 0, 1) := by decide +kernel
theorem dX9_relayOf_49 : decode cX9_relayOf 49 = .ok (.getfield 16, 3) := by decide +kernel
theorem dX9_relayOf_52 : decode cX9_relayOf 52 = .ok (.iload 5, 2) := by decide +kernel
theorem dX9_relayOf_54 : decode cX9_relayOf 54 = .ok (.iload 6, 2) := by decide +kernel
theorem dX9_relayOf_56 : decode cX9_relayOf 56 = .ok (.iastore, 1) := by decide +kernel
theorem dX9_relayOf_57 : decode cX9_relayOf 57 = .ok (.aload_n 0, 1) := by decide +kernel
theorem dX9_relayOf_58 : decode cX9_relayOf 58 = .ok (.getfield 247, 3) := by decide +kernel
theorem dX9_relayOf_61 : decode cX9_relayOf 61 = .ok (.iload 4, 2) := by decide +kernel
theorem dX9_relayOf_63 : decode cX9_relayOf 63 = .ok (.if_icmp .ge 8, 3) := by decide +kernel
theorem dX9_relayOf_66 : decode cX9_relayOf 66 = .ok (.iload 5, 2) := by decide +kernel
theorem dX9_relayOf_68 : decode cX9_relayOf 68 = .ok (.goto 4, 3) := by decide +kernel
theorem dX9_relayOf_71 : decode cX9_relayOf 71 = .ok (.iload_n 3, 1) := by decide +kernel
theorem dX9_relayOf_72 : decode cX9_relayOf 72 = .ok (.istore_n 3, 1) := by decide +kernel
theorem dX9_relayOf_73 : decode cX9_relayOf 73 = .ok (.aload_n 0, 1) := by decide +kernel
theorem dX9_relayOf_74 : decode cX9_relayOf 74 = .ok (.getfield 247, 3) := by decide +kernel
theorem dX9_relayOf_77 : decode cX9_relayOf 77 = .ok (.iload 4, 2) := by decide +kernel
theorem dX9_relayOf_79 : decode cX9_relayOf 79 = .ok (.if_icmp .ge 10, 3) := by decide +kernel
theorem dX9_relayOf_82 : decode cX9_relayOf 82 = .ok (.aload_n 0, 1) := by decide +kernel
theorem dX9_relayOf_83 : decode cX9_relayOf 83 = .ok (.getfield 247, 3) := by decide +kernel
theorem dX9_relayOf_86 : decode cX9_relayOf 86 = .ok (.goto 5, 3) := by decide +kernel
theorem dX9_relayOf_89 : decode cX9_relayOf 89 = .ok (.iload 4, 2) := by decide +kernel
theorem dX9_relayOf_91 : decode cX9_relayOf 91 = .ok (.istore 4, 2) := by decide +kernel
theorem dX9_relayOf_93 : decode cX9_relayOf 93 = .ok (.iinc 5 1, 3) := by decide +kernel
theorem dX9_relayOf_96 : decode cX9_relayOf 96 = .ok (.goto (-82), 3) := by decide +kernel
theorem dX9_relayOf_99 : decode cX9_relayOf 99 = .ok (.iload_n 3, 1) := by decide +kernel
theorem dX9_relayOf_100 : decode cX9_relayOf 100 = .ok (.iconst (-1), 1) := by decide +kernel
theorem dX9_relayOf_101 : decode cX9_relayOf 101 = .ok (.if_icmp .eq 7, 3) := by decide +kernel
theorem dX9_relayOf_104 : decode cX9_relayOf 104 = .ok (.iload_n 2, 1) := by decide +kernel
theorem dX9_relayOf_105 : decode cX9_relayOf 105 = .ok (.ifCond .ne 7, 3) := by decide +kernel
theorem dX9_relayOf_108 : decode cX9_relayOf 108 = .ok (.iload_n 3, 1) := by decide +kernel
theorem dX9_relayOf_109 : decode cX9_relayOf 109 = .ok (.goto 5, 3) := by decide +kernel
theorem dX9_relayOf_112 : decode cX9_relayOf 112 = .ok (.iload 4, 2) := by decide +kernel
theorem dX9_relayOf_114 : decode cX9_relayOf 114 = .ok (.ireturn, 1) := by decide +kernel
theorem dX9_relay_0 : decode cX9_relay 0 = .ok (.aload_n 0, 1) := by decide +kernel
theorem dX9_relay_1 : decode cX9_relay 1 = .ok (.iload_n 1, 1) := by decide +kernel
theorem dX9_relay_2 : decode cX9_relay 2 = .ok (.invokevirtual 161, 3) := by decide +kernel
theorem dX9_relay_5 : decode cX9_relay 5 = .ok (.ifCond .eq 21, 3) := by decide +kernel
theorem dX9_relay_8 : decode cX9_relay 8 = .ok (.iload_n 2, 1) := by decide +kernel
theorem dX9_relay_9 : decode cX9_relay 9 = .ok (.iconst 0, 1) := by decide +kernel
theorem dX9_relay_10 : decode cX9_relay 10 = .ok (.iconst 1, 1) := by decide +kernel
theorem dX9_relay_11 : decode cX9_relay 11 = .ok (.invokestatic 107, 3) := by decide +kernel
theorem dX9_relay_14 : decode cX9_relay 14 = .ok (.ifCond .eq 12, 3) := by decide +kernel
theorem dX9_relay_17 : decode cX9_relay 17 = .ok (.aload_n 0, 1) := by decide +kernel
theorem dX9_relay_18 : decode cX9_relay 18 = .ok (.iload_n 1, 1) := by decide +kernel
theorem dX9_relay_19 : decode cX9_relay 19 = .ok (.iload_n 2, 1) := by decide +kernel
theorem dX9_relay_20 : decode cX9_relay 20 = .ok (.invokevirtual 296, 3) := by decide +kernel
theorem dX9_relay_23 : decode cX9_relay 23 = .ok (.goto 5, 3) := by decide +kernel
theorem dX9_relay_26 : decode cX9_relay 26 = .ok (.bipush (-2), 2) := by decide +kernel
theorem dX9_relay_28 : decode cX9_relay 28 = .ok (.ireturn, 1) := by decide +kernel
theorem dX9_loose_0 : decode cX9_loose 0 = .ok (.iconst 0, 1) := by decide +kernel
theorem dX9_loose_1 : decode cX9_loose 1 = .ok (.istore_n 2, 1) := by decide +kernel
theorem dX9_loose_2 : decode cX9_loose 2 = .ok (.iload_n 2, 1) := by decide +kernel
theorem dX9_loose_3 : decode cX9_loose 3 = .ok (.bipush 40, 2) := by decide +kernel
theorem dX9_loose_5 : decode cX9_loose 5 = .ok (.if_icmp .ge 30, 3) := by decide +kernel
theorem dX9_loose_8 : decode cX9_loose 8 = .ok (.aload_n 0, 1) := by decide +kernel
theorem dX9_loose_9 : decode cX9_loose 9 = .ok (.getfield 40, 3) := by decide +kernel
theorem dX9_loose_12 : decode cX9_loose 12 = .ok (.iload_n 2, 1) := by decide +kernel
theorem dX9_loose_13 : decode cX9_loose 13 = .ok (.iload_n 2, 1) := by decide +kernel
theorem dX9_loose_14 : decode cX9_loose 14 = .ok (.iload_n 1, 1) := by decide +kernel
theorem dX9_loose_15 : decode cX9_loose 15 = .ok (.if_icmp .ne 7, 3) := by decide +kernel
theorem dX9_loose_18 : decode cX9_loose 18 = .ok (.iconst (-1), 1) := by decide +kernel
theorem dX9_loose_19 : decode cX9_loose 19 = .ok (.goto 9, 3) := by decide +kernel
theorem dX9_loose_22 : decode cX9_loose 22 = .ok (.aload_n 0, 1) := by decide +kernel
theorem dX9_loose_23 : decode cX9_loose 23 = .ok (.getfield 16, 3) := by decide +kernel
theorem dX9_loose_26 : decode cX9_loose 26 = .ok (.iload_n 2, 1) := by decide +kernel
theorem dX9_loose_27 : decode cX9_loose 27 = .ok (.iaload, 1) := by decide +kernel
theorem dX9_loose_28 : decode cX9_loose 28 = .ok (.iastore, 1) := by decide +kernel
theorem dX9_loose_29 : decode cX9_loose 29 = .ok (.iinc 2 1, 3) := by decide +kernel
theorem dX9_loose_32 : decode cX9_loose 32 = .ok (.goto (-30), 3) := by decide +kernel
theorem dX9_loose_35 : decode cX9_loose 35 = .ok (.aload_n 0, 1) := by decide +kernel
theorem dX9_loose_36 : decode cX9_loose 36 = .ok (.iconst 0, 1) := by decide +kernel
theorem dX9_loose_37 : decode cX9_loose 37 = .ok (.putfield 212, 3) := by decide +kernel
theorem dX9_loose_40 : decode cX9_loose 40 = .ok (.aload_n 0, 1) := by decide +kernel
theorem dX9_loose_41 : decode cX9_loose 41 = .ok (.invokevirtual 225, 3) := by decide +kernel
theorem dX9_loose_44 : decode cX9_loose 44 = .ok (.aload_n 0, 1) := by decide +kernel
theorem dX9_loose_45 : decode cX9_loose 45 = .ok (.getfield 212, 3) := by decide +kernel
theorem dX9_loose_48 : decode cX9_loose 48 = .ok (.ireturn, 1) := by decide +kernel
theorem dX9_liftOf_0 : decode cX9_liftOf 0 = .ok (.aload_n 0, 1) := by decide +kernel
theorem dX9_liftOf_1 : decode cX9_liftOf 1 = .ok (.invokevirtual 151, 3) := by decide +kernel
theorem dX9_liftOf_4 : decode cX9_liftOf 4 = .ok (.aload_n 0, 1) := by decide +kernel
theorem dX9_liftOf_5 : decode cX9_liftOf 5 = .ok (.getfield 16, 3) := by decide +kernel
theorem dX9_liftOf_8 : decode cX9_liftOf 8 = .ok (.iload_n 1, 1) := by decide +kernel
theorem dX9_liftOf_9 : decode cX9_liftOf 9 = .ok (.iaload, 1) := by decide +kernel
theorem dX9_liftOf_10 : decode cX9_liftOf 10 = .ok (.iconst (-1), 1) := by decide +kernel
theorem dX9_liftOf_11 : decode cX9_liftOf 11 = .ok (.if_icmp .ne 5, 3) := by decide +kernel
theorem dX9_liftOf_14 : decode cX9_liftOf 14 = .ok (.iconst (-1), 1) := by decide +kernel
theorem dX9_liftOf_15 : decode cX9_liftOf 15 = .ok (.ireturn, 1) := by decide +kernel
theorem dX9_liftOf_16 : decode cX9_liftOf 16 = .ok (.aload_n 0, 1) := by decide +kernel
theorem dX9_liftOf_17 : decode cX9_liftOf 17 = .ok (.iconst (-1), 1) := by decide +kernel
theorem dX9_liftOf_18 : decode cX9_liftOf 18 = .ok (.invokevirtual 299, 3) := by decide +kernel
theorem dX9_liftOf_21 : decode cX9_liftOf 21 = .ok (.istore_n 2, 1) := by decide +kernel
theorem dX9_liftOf_22 : decode cX9_liftOf 22 = .ok (.aload_n 0, 1) := by decide +kernel
theorem dX9_liftOf_23 : decode cX9_liftOf 23 = .ok (.getfield 40, 3) := by decide +kernel
theorem dX9_liftOf_26 : decode cX9_liftOf 26 = .ok (.iload_n 1, 1) := by decide +kernel
theorem dX9_liftOf_27 : decode cX9_liftOf 27 = .ok (.iaload, 1) := by decide +kernel
theorem dX9_liftOf_28 : decode cX9_liftOf 28 = .ok (.iconst (-1), 1) := by decide +kernel
theorem dX9_liftOf_29 : decode cX9_liftOf 29 = .ok (.if_icmp .ne 7, 3) := by decide +kernel
theorem dX9_liftOf_32 : decode cX9_liftOf 32 = .ok (.iconst 1, 1) := by decide +kernel
theorem dX9_liftOf_33 : decode cX9_liftOf 33 = .ok (.goto 4, 3) := by decide +kernel
theorem dX9_liftOf_36 : decode cX9_liftOf 36 = .ok (.iconst 0, 1) := by decide +kernel
theorem dX9_liftOf_37 : decode cX9_liftOf 37 = .ok (.istore_n 3, 1) := by decide +kernel
theorem dX9_liftOf_38 : decode cX9_liftOf 38 = .ok (.aload_n 0, 1) := by decide +kernel
theorem dX9_liftOf_39 : decode cX9_liftOf 39 = .ok (.iload_n 1, 1) := by decide +kernel
theorem dX9_liftOf_40 : decode cX9_liftOf 40 = .ok (.invokevirtual 299, 3) := by decide +kernel
theorem dX9_liftOf_43 : decode cX9_liftOf 43 = .ok (.iload_n 2, 1) := by decide +kernel
theorem dX9_liftOf_44 : decode cX9_liftOf 44 = .ok (.iload_n 3, 1) := by decide +kernel
theorem dX9_liftOf_45 : decode cX9_liftOf 45 = .ok (.isub, 1) := by decide +kernel
theorem dX9_liftOf_46 : decode cX9_liftOf 46 = .ok (.isub, 1) := by decide +kernel
theorem dX9_liftOf_47 : decode cX9_liftOf 47 = .ok (.ireturn, 1) := by decide +kernel
theorem dX9_lift_0 : decode cX9_lift 0 = .ok (.iload_n 1, 1) := by decide +kernel
theorem dX9_lift_1 : decode cX9_lift 1 = .ok (.iload_n 2, 1) := by decide +kernel
theorem dX9_lift_2 : decode cX9_lift 2 = .ok (.invokestatic 154, 3) := by decide +kernel
theorem dX9_lift_5 : decode cX9_lift 5 = .ok (.ifCond .eq 16, 3) := by decide +kernel
theorem dX9_lift_8 : decode cX9_lift 8 = .ok (.aload_n 0, 1) := by decide +kernel
theorem dX9_lift_9 : decode cX9_lift 9 = .ok (.bipush 8, 2) := by decide +kernel
theorem dX9_lift_11 : decode cX9_lift 11 = .ok (.iload_n 1, 1) := by decide +kernel
theorem dX9_lift_12 : decode cX9_lift 12 = .ok (.imul, 1) := by decide +kernel
theorem dX9_lift_13 : decode cX9_lift 13 = .ok (.iload_n 2, 1) := by decide +kernel
theorem dX9_lift_14 : decode cX9_lift 14 = .ok (.iadd, 1) := by decide +kernel
theorem dX9_lift_15 : decode cX9_lift 15 = .ok (.invokevirtual 302, 3) := by decide +kernel
theorem dX9_lift_18 : decode cX9_lift 18 = .ok (.goto 5, 3) := by decide +kernel
theorem dX9_lift_21 : decode cX9_lift 21 = .ok (.bipush (-2), 2) := by decide +kernel
theorem dX9_lift_23 : decode cX9_lift 23 = .ok (.ireturn, 1) := by decide +kernel
theorem dX9_seen_0 : decode cX9_seen 0 = .ok (.iload_n 1, 1) := by decide +kernel
theorem dX9_seen_1 : decode cX9_seen 1 = .ok (.invokestatic 167, 3) := by decide +kernel
theorem dX9_seen_4 : decode cX9_seen 4 = .ok (.ifCond .eq 22, 3) := by decide +kernel
theorem dX9_seen_7 : decode cX9_seen 7 = .ok (.iload_n 2, 1) := by decide +kernel
theorem dX9_seen_8 : decode cX9_seen 8 = .ok (.iload_n 3, 1) := by decide +kernel
