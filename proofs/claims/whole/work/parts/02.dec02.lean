theorem dX8_stone_2 : decode cX8_stone 2 = .ok (.invokestatic 115, 3) := by decide +kernel
theorem dX8_stone_5 : decode cX8_stone 5 = .ok (.ifCond .ne 6, 3) := by decide +kernel
theorem dX8_stone_8 : decode cX8_stone 8 = .ok (.bipush (-2), 2) := by decide +kernel
theorem dX8_stone_10 : decode cX8_stone 10 = .ok (.ireturn, 1) := by decide +kernel
theorem dX8_stone_11 : decode cX8_stone 11 = .ok (.aload_n 0, 1) := by decide +kernel
theorem dX8_stone_12 : decode cX8_stone 12 = .ok (.getfield 24, 3) := by decide +kernel
theorem dX8_stone_15 : decode cX8_stone 15 = .ok (.getfield 119, 3) := by decide +kernel
theorem dX8_stone_18 : decode cX8_stone 18 = .ok (.iconst 0, 1) := by decide +kernel
theorem dX8_stone_19 : decode cX8_stone 19 = .ok (.bipush 8, 2) := by decide +kernel
theorem dX8_stone_21 : decode cX8_stone 21 = .ok (.iload_n 1, 1) := by decide +kernel
theorem dX8_stone_22 : decode cX8_stone 22 = .ok (.imul, 1) := by decide +kernel
theorem dX8_stone_23 : decode cX8_stone 23 = .ok (.iload_n 2, 1) := by decide +kernel
theorem dX8_stone_24 : decode cX8_stone 24 = .ok (.iadd, 1) := by decide +kernel
theorem dX8_stone_25 : decode cX8_stone 25 = .ok (.invokestatic 123, 3) := by decide +kernel
theorem dX8_stone_28 : decode cX8_stone 28 = .ok (.ireturn, 1) := by decide +kernel
theorem dX8_hand_0 : decode cX8_hand 0 = .ok (.aload_n 0, 1) := by decide +kernel
theorem dX8_hand_1 : decode cX8_hand 1 = .ok (.getfield 31, 3) := by decide +kernel
theorem dX8_hand_4 : decode cX8_hand 4 = .ok (.iload_n 1, 1) := by decide +kernel
theorem dX8_hand_5 : decode cX8_hand 5 = .ok (.invokevirtual 127, 3) := by decide +kernel
theorem dX8_hand_8 : decode cX8_hand 8 = .ok (.ifCond .eq 10, 3) := by decide +kernel
theorem dX8_hand_11 : decode cX8_hand 11 = .ok (.iload_n 2, 1) := by decide +kernel
theorem dX8_hand_12 : decode cX8_hand 12 = .ok (.invokestatic 90, 3) := by decide +kernel
theorem dX8_hand_15 : decode cX8_hand 15 = .ok (.ifCond .ne 6, 3) := by decide +kernel
theorem dX8_hand_18 : decode cX8_hand 18 = .ok (.bipush (-2), 2) := by decide +kernel
theorem dX8_hand_20 : decode cX8_hand 20 = .ok (.ireturn, 1) := by decide +kernel
theorem dX8_hand_21 : decode cX8_hand 21 = .ok (.iload_n 2, 1) := by decide +kernel
theorem dX8_hand_22 : decode cX8_hand 22 = .ok (.ifCond .ne 15, 3) := by decide +kernel
theorem dX8_hand_25 : decode cX8_hand 25 = .ok (.aload_n 0, 1) := by decide +kernel
theorem dX8_hand_26 : decode cX8_hand 26 = .ok (.getfield 31, 3) := by decide +kernel
theorem dX8_hand_29 : decode cX8_hand 29 = .ok (.getfield 130, 3) := by decide +kernel
theorem dX8_hand_32 : decode cX8_hand 32 = .ok (.iload_n 1, 1) := by decide +kernel
theorem dX8_hand_33 : decode cX8_hand 33 = .ok (.iaload, 1) := by decide +kernel
theorem dX8_hand_34 : decode cX8_hand 34 = .ok (.goto 12, 3) := by decide +kernel
theorem dX8_hand_37 : decode cX8_hand 37 = .ok (.aload_n 0, 1) := by decide +kernel
theorem dX8_hand_38 : decode cX8_hand 38 = .ok (.getfield 31, 3) := by decide +kernel
theorem dX8_hand_41 : decode cX8_hand 41 = .ok (.getfield 133, 3) := by decide +kernel
theorem dX8_hand_44 : decode cX8_hand 44 = .ok (.iload_n 1, 1) := by decide +kernel
theorem dX8_hand_45 : decode cX8_hand 45 = .ok (.iaload, 1) := by decide +kernel
theorem dX8_hand_46 : decode cX8_hand 46 = .ok (.ireturn, 1) := by decide +kernel
theorem dX8_jump_0 : decode cX8_jump 0 = .ok (.iload_n 1, 1) := by decide +kernel
theorem dX8_jump_1 : decode cX8_jump 1 = .ok (.iconst 1, 1) := by decide +kernel
theorem dX8_jump_2 : decode cX8_jump 2 = .ok (.iconst 5, 1) := by decide +kernel
theorem dX8_jump_3 : decode cX8_jump 3 = .ok (.invokestatic 94, 3) := by decide +kernel
theorem dX8_jump_6 : decode cX8_jump 6 = .ok (.ifCond .ne 6, 3) := by decide +kernel
theorem dX8_jump_9 : decode cX8_jump 9 = .ok (.bipush (-2), 2) := by decide +kernel
theorem dX8_jump_11 : decode cX8_jump 11 = .ok (.ireturn, 1) := by decide +kernel
theorem dX8_jump_12 : decode cX8_jump 12 = .ok (.aload_n 0, 1) := by decide +kernel
theorem dX8_jump_13 : decode cX8_jump 13 = .ok (.getfield 24, 3) := by decide +kernel
theorem dX8_jump_16 : decode cX8_jump 16 = .ok (.getfield 136, 3) := by decide +kernel
theorem dX8_jump_19 : decode cX8_jump 19 = .ok (.istore_n 2, 1) := by decide +kernel
theorem dX8_jump_20 : decode cX8_jump 20 = .ok (.aload_n 0, 1) := by decide +kernel
theorem dX8_jump_21 : decode cX8_jump 21 = .ok (.getfield 24, 3) := by decide +kernel
theorem dX8_jump_24 : decode cX8_jump 24 = .ok (.iload_n 1, 1) := by decide +kernel
theorem dX8_jump_25 : decode cX8_jump 25 = .ok (.putfield 136, 3) := by decide +kernel
theorem dX8_jump_28 : decode cX8_jump 28 = .ok (.aload_n 0, 1) := by decide +kernel
theorem dX8_jump_29 : decode cX8_jump 29 = .ok (.iconst 1, 1) := by decide +kernel
theorem dX8_jump_30 : decode cX8_jump 30 = .ok (.putfield 81, 3) := by decide +kernel
theorem dX8_jump_33 : decode cX8_jump 33 = .ok (.iload_n 2, 1) := by decide +kernel
theorem dX8_jump_34 : decode cX8_jump 34 = .ok (.ireturn, 1) := by decide +kernel
theorem dX8_frost_0 : decode cX8_frost 0 = .ok (.iload_n 1, 1) := by decide +kernel
theorem dX8_frost_1 : decode cX8_frost 1 = .ok (.iload_n 2, 1) := by decide +kernel
theorem dX8_frost_2 : decode cX8_frost 2 = .ok (.invokestatic 139, 3) := by decide +kernel
theorem dX8_frost_5 : decode cX8_frost 5 = .ok (.ifCond .ne 6, 3) := by decide +kernel
theorem dX8_frost_8 : decode cX8_frost 8 = .ok (.bipush (-2), 2) := by decide +kernel
theorem dX8_frost_10 : decode cX8_frost 10 = .ok (.ireturn, 1) := by decide +kernel
theorem dX8_frost_11 : decode cX8_frost 11 = .ok (.aload_n 0, 1) := by decide +kernel
theorem dX8_frost_12 : decode cX8_frost 12 = .ok (.getfield 38, 3) := by decide +kernel
theorem dX8_frost_15 : decode cX8_frost 15 = .ok (.getfield 142, 3) := by decide +kernel
theorem dX8_frost_18 : decode cX8_frost 18 = .ok (.bipush 6, 2) := by decide +kernel
theorem dX8_frost_20 : decode cX8_frost 20 = .ok (.if_icmp .lt 6, 3) := by decide +kernel
theorem dX8_frost_23 : decode cX8_frost 23 = .ok (.bipush (-4), 2) := by decide +kernel
theorem dX8_frost_25 : decode cX8_frost 25 = .ok (.ireturn, 1) := by decide +kernel
theorem dX8_frost_26 : decode cX8_frost 26 = .ok (.aload_n 0, 1) := by decide +kernel
theorem dX8_frost_27 : decode cX8_frost 27 = .ok (.getfield 38, 3) := by decide +kernel
theorem dX8_frost_30 : decode cX8_frost 30 = .ok (.iload_n 1, 1) := by decide +kernel
theorem dX8_frost_31 : decode cX8_frost 31 = .ok (.iload_n 2, 1) := by decide +kernel
theorem dX8_frost_32 : decode cX8_frost 32 = .ok (.invokevirtual 144, 3) := by decide +kernel
theorem dX8_frost_35 : decode cX8_frost 35 = .ok (.aload_n 0, 1) := by decide +kernel
theorem dX8_frost_36 : decode cX8_frost 36 = .ok (.iconst 1, 1) := by decide +kernel
theorem dX8_frost_37 : decode cX8_frost 37 = .ok (.putfield 81, 3) := by decide +kernel
theorem dX8_frost_40 : decode cX8_frost 40 = .ok (.aload_n 0, 1) := by decide +kernel
theorem dX8_frost_41 : decode cX8_frost 41 = .ok (.getfield 38, 3) := by decide +kernel
theorem dX8_frost_44 : decode cX8_frost 44 = .ok (.getfield 142, 3) := by decide +kernel
theorem dX8_frost_47 : decode cX8_frost 47 = .ok (.ireturn, 1) := by decide +kernel
theorem dX8_gapping_0 : decode cX8_gapping 0 = .ok (.iload_n 1, 1) := by decide +kernel
theorem dX8_gapping_1 : decode cX8_gapping 1 = .ok (.invokestatic 148, 3) := by decide +kernel
theorem dX8_gapping_4 : decode cX8_gapping 4 = .ok (.ifCond .eq 23, 3) := by decide +kernel
theorem dX8_gapping_7 : decode cX8_gapping 7 = .ok (.iload_n 2, 1) := by decide +kernel
theorem dX8_gapping_8 : decode cX8_gapping 8 = .ok (.iconst 0, 1) := by decide +kernel
theorem dX8_gapping_9 : decode cX8_gapping 9 = .ok (.bipush 7, 2) := by decide +kernel
theorem dX8_gapping_11 : decode cX8_gapping 11 = .ok (.invokestatic 94, 3) := by decide +kernel
theorem dX8_gapping_14 : decode cX8_gapping 14 = .ok (.ifCond .eq 13, 3) := by decide +kernel
theorem dX8_gapping_17 : decode cX8_gapping 17 = .ok (.iload_n 3, 1) := by decide +kernel
theorem dX8_gapping_18 : decode cX8_gapping 18 = .ok (.iconst 0, 1) := by decide +kernel
theorem dX8_gapping_19 : decode cX8_gapping 19 = .ok (.bipush 7, 2) := by decide +kernel
theorem dX8_gapping_21 : decode cX8_gapping 21 = .ok (.invokestatic 94, 3) := by decide +kernel
theorem dX8_gapping_24 : decode cX8_gapping 24 = .ok (.ifCond .ne 6, 3) := by decide +kernel
theorem dX8_gapping_27 : decode cX8_gapping 27 = .ok (.bipush (-2), 2) := by decide +kernel
theorem dX8_gapping_29 : decode cX8_gapping 29 = .ok (.ireturn, 1) := by decide +kernel
theorem dX8_gapping_30 : decode cX8_gapping 30 = .ok (.aload_n 0, 1) := by decide +kernel
theorem dX8_gapping_31 : decode cX8_gapping 31 = .ok (.getfield 48, 3) := by decide +kernel
theorem dX8_gapping_34 : decode cX8_gapping 34 = .ok (.getfield 151, 3) := by decide +kernel
theorem dX8_gapping_37 : decode cX8_gapping 37 = .ok (.bipush 6, 2) := by decide +kernel
theorem dX8_gapping_39 : decode cX8_gapping 39 = .ok (.if_icmp .lt 6, 3) := by decide +kernel
theorem dX8_gapping_42 : decode cX8_gapping 42 = .ok (.bipush (-4), 2) := by decide +kernel
theorem dX8_gapping_44 : decode cX8_gapping 44 = .ok (.ireturn, 1) := by decide +kernel
theorem dX8_gapping_45 : decode cX8_gapping 45 = .ok (.aload_n 0, 1) := by decide +kernel
theorem dX8_gapping_46 : decode cX8_gapping 46 = .ok (.getfield 48, 3) := by decide +kernel
theorem dX8_gapping_49 : decode cX8_gapping 49 = .ok (.iload_n 1, 1) := by decide +kernel
theorem dX8_gapping_50 : decode cX8_gapping 50 = .ok (.iload_n 2, 1) := by decide +kernel
theorem dX8_gapping_51 : decode cX8_gapping 51 = .ok (.iload_n 3, 1) := by decide +kernel
theorem dX8_gapping_52 : decode cX8_gapping 52 = .ok (.invokevirtual 152, 3) := by decide +kernel
theorem dX8_gapping_55 : decode cX8_gapping 55 = .ok (.aload_n 0, 1) := by decide +kernel
theorem dX8_gapping_56 : decode cX8_gapping 56 = .ok (.iconst 1, 1) := by decide +kernel
theorem dX8_gapping_57 : decode cX8_gapping 57 = .ok (.putfield 81, 3) := by decide +kernel
theorem dX8_gapping_60 : decode cX8_gapping 60 = .ok (.aload_n 0, 1) := by decide +kernel
theorem dX8_gapping_61 : decode cX8_gapping 61 = .ok (.getfield 48, 3) := by decide +kernel
theorem dX8_gapping_64 : decode cX8_gapping 64 = .ok (.getfield 151, 3) := by decide +kernel
theorem dX8_gapping_67 : decode cX8_gapping 67 = .ok (.ireturn, 1) := by decide +kernel
theorem dX8_back_0 : decode cX8_back 0 = .ok (.iload_n 1, 1) := by decide +kernel
theorem dX8_back_1 : decode cX8_back 1 = .ok (.invokestatic 90, 3) := by decide +kernel
theorem dX8_back_4 : decode cX8_back 4 = .ok (.ifCond .ne 6, 3) := by decide +kernel
theorem dX8_back_7 : decode cX8_back 7 = .ok (.bipush (-2), 2) := by decide +kernel
theorem dX8_back_9 : decode cX8_back 9 = .ok (.ireturn, 1) := by decide +kernel
theorem dX8_back_10 : decode cX8_back 10 = .ok (.iload_n 1, 1) := by decide +kernel
theorem dX8_back_11 : decode cX8_back 11 = .ok (.ifCond .ne 13, 3) := by decide +kernel
theorem dX8_back_14 : decode cX8_back 14 = .ok (.aload_n 0, 1) := by decide +kernel
theorem dX8_back_15 : decode cX8_back 15 = .ok (.getfield 38, 3) := by decide +kernel
theorem dX8_back_18 : decode cX8_back 18 = .ok (.getfield 142, 3) := by decide +kernel
theorem dX8_back_21 : decode cX8_back 21 = .ok (.goto 10, 3) := by decide +kernel
theorem dX8_back_24 : decode cX8_back 24 = .ok (.aload_n 0, 1) := by decide +kernel
theorem dX8_back_25 : decode cX8_back 25 = .ok (.getfield 48, 3) := by decide +kernel
theorem dX8_back_28 : decode cX8_back 28 = .ok (.getfield 151, 3) := by decide +kernel
theorem dX8_back_31 : decode cX8_back 31 = .ok (.istore_n 2, 1) := by decide +kernel
theorem dX8_back_32 : decode cX8_back 32 = .ok (.iload_n 2, 1) := by decide +kernel
theorem dX8_back_33 : decode cX8_back 33 = .ok (.ifCond .ne 6, 3) := by decide +kernel
theorem dX8_back_36 : decode cX8_back 36 = .ok (.bipush (-3), 2) := by decide +kernel
theorem dX8_back_38 : decode cX8_back 38 = .ok (.ireturn, 1) := by decide +kernel
theorem dX8_back_39 : decode cX8_back 39 = .ok (.iload_n 1, 1) := by decide +kernel
theorem dX8_back_40 : decode cX8_back 40 = .ok (.ifCond .ne 19, 3) := by decide +kernel
theorem dX8_back_43 : decode cX8_back 43 = .ok (.aload_n 0, 1) := by decide +kernel
theorem dX8_back_44 : decode cX8_back 44 = .ok (.getfield 38, 3) := by decide +kernel
theorem dX8_back_47 : decode cX8_back 47 = .ok (.dup, 1) := by decide +kernel
theorem dX8_back_48 : decode cX8_back 48 = .ok (.getfield 142, 3) := by decide +kernel
theorem dX8_back_51 : decode cX8_back 51 = .ok (.iconst 1, 1) := by decide +kernel
theorem dX8_back_52 : decode cX8_back 52 = .ok (.isub, 1) := by decide +kernel
theorem dX8_back_53 : decode cX8_back 53 = .ok (.putfield 142, 3) := by decide +kernel
theorem dX8_back_56 : decode cX8_back 56 = .ok (.goto 16, 3) := by decide +kernel
theorem dX8_back_59 : decode cX8_back 59 = .ok (.aload_n 0, 1) := by decide +kernel
theorem dX8_back_60 : decode cX8_back 60 = .ok (.getfield 48, 3) := by decide +kernel
theorem dX8_back_63 : decode cX8_back 63 = .ok (.dup, 1) := by decide +kernel
theorem dX8_back_64 : decode cX8_back 64 = .ok (.getfield 151, 3) := by decide +kernel
theorem dX8_back_67 : decode cX8_back 67 = .ok (.iconst 1, 1) := by decide +kernel
theorem dX8_back_68 : decode cX8_back 68 = .ok (.isub, 1) := by decide +kernel
theorem dX8_back_69 : decode cX8_back 69 = .ok (.putfield 151, 3) := by decide +kernel
theorem dX8_back_72 : decode cX8_back 72 = .ok (.aload_n 0, 1) := by decide +kernel
theorem dX8_back_73 : decode cX8_back 73 = .ok (.iconst 1, 1) := by decide +kernel
theorem dX8_back_74 : decode cX8_back 74 = .ok (.putfield 81, 3) := by decide +kernel
theorem dX8_back_77 : decode cX8_back 77 = .ok (.iload_n 2, 1) := by decide +kernel
theorem dX8_back_78 : decode cX8_back 78 = .ok (.iconst 1, 1) := by decide +kernel
theorem dX8_back_79 : decode cX8_back 79 = .ok (.isub, 1) := by decide +kernel
theorem dX8_back_80 : decode cX8_back 80 = .ok (.ireturn, 1) := by decide +kernel
theorem dX8_read_0 : decode cX8_read 0 = .ok (.iload_n 1, 1) := by decide +kernel
theorem dX8_read_1 : decode cX8_read 1 = .ok (.invokestatic 155, 3) := by decide +kernel
theorem dX8_read_4 : decode cX8_read 4 = .ok (.ifCond .ne 6, 3) := by decide +kernel
theorem dX8_read_7 : decode cX8_read 7 = .ok (.bipush (-2), 2) := by decide +kernel
theorem dX8_read_9 : decode cX8_read 9 = .ok (.ireturn, 1) := by decide +kernel
theorem dX8_read_10 : decode cX8_read 10 = .ok (.aload_n 0, 1) := by decide +kernel
theorem dX8_read_11 : decode cX8_read 11 = .ok (.getfield 61, 3) := by decide +kernel
theorem dX8_read_14 : decode cX8_read 14 = .ok (.iload_n 1, 1) := by decide +kernel
theorem dX8_read_15 : decode cX8_read 15 = .ok (.aaload, 1) := by decide +kernel
theorem dX8_read_16 : decode cX8_read 16 = .ok (.astore_n 2, 1) := by decide +kernel
theorem dX8_read_17 : decode cX8_read 17 = .ok (.aload_n 2, 1) := by decide +kernel
theorem dX8_read_18 : decode cX8_read 18 = .ok (.getfield 158, 3) := by decide +kernel
theorem dX8_read_21 : decode cX8_read 21 = .ok (.iconst (-1), 1) := by decide +kernel
theorem dX8_read_22 : decode cX8_read 22 = .ok (.if_icmp .ne 9, 3) := by decide +kernel
theorem dX8_read_25 : decode cX8_read 25 = .ok (.aload_n 0, 1) := by decide +kernel
theorem dX8_read_26 : decode cX8_read 26 = .ok (.iconst 1, 1) := by decide +kernel
theorem dX8_read_27 : decode cX8_read 27 = .ok (.invokevirtual 161, 3) := by decide +kernel
theorem dX8_read_30 : decode cX8_read 30 = .ok (.ireturn, 1) := by decide +kernel
theorem dX8_read_31 : decode cX8_read 31 = .ok (.aload_n 0, 1) := by decide +kernel
theorem dX8_read_32 : decode cX8_read 32 = .ok (.getfield 38, 3) := by decide +kernel
theorem dX8_read_35 : decode cX8_read 35 = .ok (.getfield 142, 3) := by decide +kernel
theorem dX8_read_38 : decode cX8_read 38 = .ok (.istore_n 3, 1) := by decide +kernel
theorem dX8_read_39 : decode cX8_read 39 = .ok (.iconst 0, 1) := by decide +kernel
theorem dX8_read_40 : decode cX8_read 40 = .ok (.istore 4, 2) := by decide +kernel
theorem dX8_read_42 : decode cX8_read 42 = .ok (.iload 4, 2) := by decide +kernel
theorem dX8_read_44 : decode cX8_read 44 = .ok (.iconst 1, 1) := by decide +kernel
theorem dX8_read_45 : decode cX8_read 45 = .ok (.iadd, 1) := by decide +kernel
theorem dX8_read_46 : decode cX8_read 46 = .ok (.aload_n 2, 1) := by decide +kernel
theorem dX8_read_47 : decode cX8_read 47 = .ok (.getfield 165, 3) := by decide +kernel
theorem dX8_read_50 : decode cX8_read 50 = .ok (.if_icmp .ge 69, 3) := by decide +kernel
theorem dX8_read_53 : decode cX8_read 53 = .ok (.aload_n 0, 1) := by decide +kernel
theorem dX8_read_54 : decode cX8_read 54 = .ok (.getfield 38, 3) := by decide +kernel
theorem dX8_read_57 : decode cX8_read 57 = .ok (.getfield 142, 3) := by decide +kernel
theorem dX8_read_60 : decode cX8_read 60 = .ok (.bipush 6, 2) := by decide +kernel
theorem dX8_read_62 : decode cX8_read 62 = .ok (.if_icmp .ge 57, 3) := by decide +kernel
theorem dX8_read_65 : decode cX8_read 65 = .ok (.aload_n 2, 1) := by decide +kernel
theorem dX8_read_66 : decode cX8_read 66 = .ok (.getfield 168, 3) := by decide +kernel
theorem dX8_read_69 : decode cX8_read 69 = .ok (.iload 4, 2) := by decide +kernel
theorem dX8_read_71 : decode cX8_read 71 = .ok (.iaload, 1) := by decide +kernel
theorem dX8_read_72 : decode cX8_read 72 = .ok (.aload_n 2, 1) := by decide +kernel
theorem dX8_read_73 : decode cX8_read 73 = .ok (.getfield 168, 3) := by decide +kernel
theorem dX8_read_76 : decode cX8_read 76 = .ok (.iload 4, 2) := by decide +kernel
theorem dX8_read_78 : decode cX8_read 78 = .ok (.iconst 1, 1) := by decide +kernel
theorem dX8_read_79 : decode cX8_read 79 = .ok (.iadd, 1) := by decide +kernel
theorem dX8_read_80 : decode cX8_read 80 = .ok (.iaload, 1) := by decide +kernel
theorem dX8_read_81 : decode cX8_read 81 = .ok (.invokestatic 139, 3) := by decide +kernel
theorem dX8_read_84 : decode cX8_read 84 = .ok (.ifCond .ne 6, 3) := by decide +kernel
theorem dX8_read_87 : decode cX8_read 87 = .ok (.goto 32, 3) := by decide +kernel
theorem dX8_read_90 : decode cX8_read 90 = .ok (.aload_n 0, 1) := by decide +kernel
theorem dX8_read_91 : decode cX8_read 91 = .ok (.getfield 38, 3) := by decide +kernel
theorem dX8_read_94 : decode cX8_read 94 = .ok (.aload_n 2, 1) := by decide +kernel
theorem dX8_read_95 : decode cX8_read 95 = .ok (.getfield 168, 3) := by decide +kernel
theorem dX8_read_98 : decode cX8_read 98 = .ok (.iload 4, 2) := by decide +kernel
theorem dX8_read_100 : decode cX8_read 100 = .ok (.iaload, 1) := by decide +kernel
theorem dX8_read_101 : decode cX8_read 101 = .ok (.aload_n 2, 1) := by decide +kernel
theorem dX8_read_102 : decode cX8_read 102 = .ok (.getfield 168, 3) := by decide +kernel
theorem dX8_read_105 : decode cX8_read 105 = .ok (.iload 4, 2) := by decide +kernel
theorem dX8_read_107 : decode cX8_read 107 = .ok (.iconst 1, 1) := by decide +kernel
theorem dX8_read_108 : decode cX8_read 108 = .ok (.iadd, 1) := by decide +kernel
theorem dX8_read_109 : decode cX8_read 109 = .ok (.iaload, 1) := by decide +kernel
theorem dX8_read_110 : decode cX8_read 110 = .ok (.invokevirtual 144, 3) := by decide +kernel
theorem dX8_read_113 : decode cX8_read 113 = .ok (.iinc 4 2, 3) := by decide +kernel
theorem dX8_read_116 : decode cX8_read 116 = .ok (.goto (-74), 3) := by decide +kernel
theorem dX8_read_119 : decode cX8_read 119 = .ok (.aload_n 0, 1) := by decide +kernel
theorem dX8_read_120 : decode cX8_read 120 = .ok (.iconst 1, 1) := by decide +kernel
theorem dX8_read_121 : decode cX8_read 121 = .ok (.putfield 81, 3) := by decide +kernel
theorem dX8_read_124 : decode cX8_read 124 = .ok (.aload_n 0, 1) := by decide +kernel
theorem dX8_read_125 : decode cX8_read 125 = .ok (.getfield 38, 3) := by decide +kernel
theorem dX8_read_128 : decode cX8_read 128 = .ok (.getfield 142, 3) := by decide +kernel
theorem dX8_read_131 : decode cX8_read 131 = .ok (.iload_n 3, 1) := by decide +kernel
theorem dX8_read_132 : decode cX8_read 132 = .ok (.isub, 1) := by decide +kernel
theorem dX8_read_133 : decode cX8_read 133 = .ok (.ireturn, 1) := by decide +kernel
theorem dX8_at_0 : decode cX8_at 0 = .ok (.iload_n 1, 1) := by decide +kernel
theorem dX8_at_1 : decode cX8_at 1 = .ok (.invokestatic 148, 3) := by decide +kernel
theorem dX8_at_4 : decode cX8_at 4 = .ok (.ifCond .eq 19, 3) := by decide +kernel
theorem dX8_at_7 : decode cX8_at 7 = .ok (.iload_n 2, 1) := by decide +kernel
theorem dX8_at_8 : decode cX8_at 8 = .ok (.iload_n 3, 1) := by decide +kernel
theorem dX8_at_9 : decode cX8_at 9 = .ok (.invokestatic 115, 3) := by decide +kernel
theorem dX8_at_12 : decode cX8_at 12 = .ok (.ifCond .eq 11, 3) := by decide +kernel
theorem dX8_at_15 : decode cX8_at 15 = .ok (.iload 4, 2) := by decide +kernel
theorem dX8_at_17 : decode cX8_at 17 = .ok (.invokestatic 90, 3) := by decide +kernel
theorem dX8_at_20 : decode cX8_at 20 = .ok (.ifCond .ne 6, 3) := by decide +kernel
theorem dX8_at_23 : decode cX8_at 23 = .ok (.bipush (-2), 2) := by decide +kernel
theorem dX8_at_25 : decode cX8_at 25 = .ok (.ireturn, 1) := by decide +kernel
theorem dX8_at_26 : decode cX8_at 26 = .ok (.aload_n 0, 1) := by decide +kernel
theorem dX8_at_27 : decode cX8_at 27 = .ok (.invokevirtual 171, 3) := by decide +kernel
theorem dX8_at_30 : decode cX8_at 30 = .ok (.astore 5, 2) := by decide +kernel
theorem dX8_at_32 : decode cX8_at 32 = .ok (.bipush 8, 2) := by decide +kernel
theorem dX8_at_34 : decode cX8_at 34 = .ok (.iload_n 2, 1) := by decide +kernel
theorem dX8_at_35 : decode cX8_at 35 = .ok (.imul, 1) := by decide +kernel
theorem dX8_at_36 : decode cX8_at 36 = .ok (.iload_n 3, 1) := by decide +kernel
theorem dX8_at_37 : decode cX8_at 37 = .ok (.iadd, 1) := by decide +kernel
theorem dX8_at_38 : decode cX8_at 38 = .ok (.istore 6, 2) := by decide +kernel
theorem dX8_at_40 : decode cX8_at 40 = .ok (.iload 4, 2) := by decide +kernel
theorem dX8_at_42 : decode cX8_at 42 = .ok (.ifCond .ne 14, 3) := by decide +kernel
theorem dX8_at_45 : decode cX8_at 45 = .ok (.aload 5, 2) := by decide +kernel
theorem dX8_at_47 : decode cX8_at 47 = .ok (.iload_n 1, 1) := by decide +kernel
theorem dX8_at_48 : decode cX8_at 48 = .ok (.iload 6, 2) := by decide +kernel
theorem dX8_at_50 : decode cX8_at 50 = .ok (.invokevirtual 175, 3) := by decide +kernel
theorem dX8_at_53 : decode cX8_at 53 = .ok (.goto 11, 3) := by decide +kernel
theorem dX8_at_56 : decode cX8_at 56 = .ok (.aload 5, 2) := by decide +kernel
theorem dX8_at_58 : decode cX8_at 58 = .ok (.iload_n 1, 1) := by decide +kernel
theorem dX8_at_59 : decode cX8_at 59 = .ok (.iload 6, 2) := by decide +kernel
theorem dX8_at_61 : decode cX8_at 61 = .ok (.invokevirtual 179, 3) := by decide +kernel
theorem dX8_at_64 : decode cX8_at 64 = .ok (.ireturn, 1) := by decide +kernel
theorem dX8_column_0 : decode cX8_column 0 = .ok (.iload_n 1, 1) := by decide +kernel
theorem dX8_column_1 : decode cX8_column 1 = .ok (.invokestatic 148, 3) := by decide +kernel
theorem dX8_column_4 : decode cX8_column 4 = .ok (.ifCond .eq 27, 3) := by decide +kernel
theorem dX8_column_7 : decode cX8_column 7 = .ok (.iload_n 2, 1) := by decide +kernel
theorem dX8_column_8 : decode cX8_column 8 = .ok (.iconst 0, 1) := by decide +kernel
theorem dX8_column_9 : decode cX8_column 9 = .ok (.aload_n 0, 1) := by decide +kernel
theorem dX8_column_10 : decode cX8_column 10 = .ok (.getfield 24, 3) := by decide +kernel
theorem dX8_column_13 : decode cX8_column 13 = .ok (.getfield 182, 3) := by decide +kernel
theorem dX8_column_16 : decode cX8_column 16 = .ok (.iconst 1, 1) := by decide +kernel
theorem dX8_column_17 : decode cX8_column 17 = .ok (.isub, 1) := by decide +kernel
theorem dX8_column_18 : decode cX8_column 18 = .ok (.invokestatic 94, 3) := by decide +kernel
theorem dX8_column_21 : decode cX8_column 21 = .ok (.ifCond .eq 10, 3) := by decide +kernel
theorem dX8_column_24 : decode cX8_column 24 = .ok (.iload_n 3, 1) := by decide +kernel
theorem dX8_column_25 : decode cX8_column 25 = .ok (.invokestatic 90, 3) := by decide +kernel
theorem dX8_column_28 : decode cX8_column 28 = .ok (.ifCond .ne 6, 3) := by decide +kernel
theorem dX8_column_31 : decode cX8_column 31 = .ok (.bipush (-2), 2) := by decide +kernel
theorem dX8_column_33 : decode cX8_column 33 = .ok (.ireturn, 1) := by decide +kernel
theorem dX8_column_34 : decode cX8_column 34 = .ok (.aload_n 0, 1) := by decide +kernel
theorem dX8_column_35 : decode cX8_column 35 = .ok (.invokevirtual 171, 3) := by decide +kernel
theorem dX8_column_38 : decode cX8_column 38 = .ok (.astore 4, 2) := by decide +kernel
theorem dX8_column_40 : decode cX8_column 40 = .ok (.iload_n 3, 1) := by decide +kernel
theorem dX8_column_41 : decode cX8_column 41 = .ok (.ifCond .ne 13, 3) := by decide +kernel
theorem dX8_column_44 : decode cX8_column 44 = .ok (.aload 4, 2) := by decide +kernel
theorem dX8_column_46 : decode cX8_column 46 = .ok (.iload_n 1, 1) := by decide +kernel
theorem dX8_column_47 : decode cX8_column 47 = .ok (.iload_n 2, 1) := by decide +kernel
theorem dX8_column_48 : decode cX8_column 48 = .ok (.invokevirtual 185, 3) := by decide +kernel
theorem dX8_column_51 : decode cX8_column 51 = .ok (.goto 14, 3) := by decide +kernel
theorem dX8_column_54 : decode cX8_column 54 = .ok (.aload 4, 2) := by decide +kernel
theorem dX8_column_56 : decode cX8_column 56 = .ok (.getfield 188, 3) := by decide +kernel
theorem dX8_column_59 : decode cX8_column 59 = .ok (.iload_n 1, 1) := by decide +kernel
theorem dX8_column_60 : decode cX8_column 60 = .ok (.iaload, 1) := by decide +kernel
theorem dX8_column_61 : decode cX8_column 61 = .ok (.iload_n 2, 1) := by decide +kernel
theorem dX8_column_62 : decode cX8_column 62 = .ok (.iushr, 1) := by decide +kernel
theorem dX8_column_63 : decode cX8_column 63 = .ok (.iconst 1, 1) := by decide +kernel
theorem dX8_column_64 : decode cX8_column 64 = .ok (.iand, 1) := by decide +kernel
theorem dX8_column_65 : decode cX8_column 65 = .ok (.ireturn, 1) := by decide +kernel
theorem dX8_falls_0 : decode cX8_falls 0 = .ok (.iload_n 1, 1) := by decide +kernel
theorem dX8_falls_1 : decode cX8_falls 1 = .ok (.invokestatic 148, 3) := by decide +kernel
theorem dX8_falls_4 : decode cX8_falls 4 = .ok (.ifCond .eq 15, 3) := by decide +kernel
theorem dX8_falls_7 : decode cX8_falls 7 = .ok (.aload_n 0, 1) := by decide +kernel
theorem dX8_falls_8 : decode cX8_falls 8 = .ok (.invokevirtual 171, 3) := by decide +kernel
theorem dX8_falls_11 : decode cX8_falls 11 = .ok (.getfield 191, 3) := by decide +kernel
theorem dX8_falls_14 : decode cX8_falls 14 = .ok (.iload_n 1, 1) := by decide +kernel
theorem dX8_falls_15 : decode cX8_falls 15 = .ok (.iaload, 1) := by decide +kernel
theorem dX8_falls_16 : decode cX8_falls 16 = .ok (.goto 5, 3) := by decide +kernel
theorem dX8_falls_19 : decode cX8_falls 19 = .ok (.bipush (-2), 2) := by decide +kernel
theorem dX8_falls_21 : decode cX8_falls 21 = .ok (.ireturn, 1) := by decide +kernel
theorem dX8_sheep_0 : decode cX8_sheep 0 = .ok (.iload_n 1, 1) := by decide +kernel
theorem dX8_sheep_1 : decode cX8_sheep 1 = .ok (.invokestatic 90, 3) := by decide +kernel
theorem dX8_sheep_4 : decode cX8_sheep 4 = .ok (.ifCond .ne 6, 3) := by decide +kernel
theorem dX8_sheep_7 : decode cX8_sheep 7 = .ok (.bipush (-2), 2) := by decide +kernel
theorem dX8_sheep_9 : decode cX8_sheep 9 = .ok (.ireturn, 1) := by decide +kernel
theorem dX8_sheep_10 : decode cX8_sheep 10 = .ok (.aload_n 0, 1) := by decide +kernel
theorem dX8_sheep_11 : decode cX8_sheep 11 = .ok (.invokevirtual 171, 3) := by decide +kernel
theorem dX8_sheep_14 : decode cX8_sheep 14 = .ok (.astore_n 2, 1) := by decide +kernel
theorem dX8_sheep_15 : decode cX8_sheep 15 = .ok (.iload_n 1, 1) := by decide +kernel
theorem dX8_sheep_16 : decode cX8_sheep 16 = .ok (.ifCond .ne 10, 3) := by decide +kernel
theorem dX8_sheep_19 : decode cX8_sheep 19 = .ok (.aload_n 2, 1) := by decide +kernel
theorem dX8_sheep_20 : decode cX8_sheep 20 = .ok (.invokevirtual 194, 3) := by decide +kernel
theorem dX8_sheep_23 : decode cX8_sheep 23 = .ok (.goto 7, 3) := by decide +kernel
theorem dX8_sheep_26 : decode cX8_sheep 26 = .ok (.aload_n 2, 1) := by decide +kernel
theorem dX8_sheep_27 : decode cX8_sheep 27 = .ok (.invokevirtual 198, 3) := by decide +kernel
theorem dX8_sheep_30 : decode cX8_sheep 30 = .ok (.ireturn, 1) := by decide +kernel
theorem dX8_mine_0 : decode cX8_mine 0 = .ok (.iload_n 1, 1) := by decide +kernel
theorem dX8_mine_1 : decode cX8_mine 1 = .ok (.iconst 0, 1) := by decide +kernel
theorem dX8_mine_2 : decode cX8_mine 2 = .ok (.bipush 7, 2) := by decide +kernel
theorem dX8_mine_4 : decode cX8_mine 4 = .ok (.invokestatic 94, 3) := by decide +kernel
theorem dX8_mine_7 : decode cX8_mine 7 = .ok (.ifCond .eq 14, 3) := by decide +kernel
theorem dX8_mine_10 : decode cX8_mine 10 = .ok (.aload_n 0, 1) := by decide +kernel
theorem dX8_mine_11 : decode cX8_mine 11 = .ok (.invokevirtual 171, 3) := by decide +kernel
theorem dX8_mine_14 : decode cX8_mine 14 = .ok (.iload_n 1, 1) := by decide +kernel
theorem dX8_mine_15 : decode cX8_mine 15 = .ok (.invokevirtual 201, 3) := by decide +kernel
theorem dX8_mine_18 : decode cX8_mine 18 = .ok (.goto 5, 3) := by decide +kernel
theorem dX8_mine_21 : decode cX8_mine 21 = .ok (.bipush (-2), 2) := by decide +kernel
theorem dX8_mine_23 : decode cX8_mine 23 = .ok (.ireturn, 1) := by decide +kernel
theorem dX8_best_0 : decode cX8_best 0 = .ok (.aload_n 0, 1) := by decide +kernel
theorem dX8_best_1 : decode cX8_best 1 = .ok (.invokevirtual 171, 3) := by decide +kernel
theorem dX8_best_4 : decode cX8_best 4 = .ok (.astore_n 1, 1) := by decide +kernel
theorem dX8_best_5 : decode cX8_best 5 = .ok (.iconst (-1), 1) := by decide +kernel
theorem dX8_best_6 : decode cX8_best 6 = .ok (.istore_n 2, 1) := by decide +kernel
theorem dX8_best_7 : decode cX8_best 7 = .ok (.iconst 0, 1) := by decide +kernel
theorem dX8_best_8 : decode cX8_best 8 = .ok (.istore_n 3, 1) := by decide +kernel
theorem dX8_best_9 : decode cX8_best 9 = .ok (.iconst 0, 1) := by decide +kernel
theorem dX8_best_10 : decode cX8_best 10 = .ok (.istore 4, 2) := by decide +kernel
theorem dX8_best_12 : decode cX8_best 12 = .ok (.iload 4, 2) := by decide +kernel
theorem dX8_best_14 : decode cX8_best 14 = .ok (.bipush 8, 2) := by decide +kernel
theorem dX8_best_16 : decode cX8_best 16 = .ok (.if_icmp .ge 29, 3) := by decide +kernel
theorem dX8_best_19 : decode cX8_best 19 = .ok (.aload_n 1, 1) := by decide +kernel
theorem dX8_best_20 : decode cX8_best 20 = .ok (.iload 4, 2) := by decide +kernel
theorem dX8_best_22 : decode cX8_best 22 = .ok (.invokevirtual 201, 3) := by decide +kernel
theorem dX8_best_25 : decode cX8_best 25 = .ok (.istore 5, 2) := by decide +kernel
theorem dX8_best_27 : decode cX8_best 27 = .ok (.iload 5, 2) := by decide +kernel
theorem dX8_best_29 : decode cX8_best 29 = .ok (.iload_n 3, 1) := by decide +kernel
theorem dX8_best_30 : decode cX8_best 30 = .ok (.if_icmp .le 9, 3) := by decide +kernel
theorem dX8_best_33 : decode cX8_best 33 = .ok (.iload 5, 2) := by decide +kernel
theorem dX8_best_35 : decode cX8_best 35 = .ok (.istore_n 3, 1) := by decide +kernel
theorem dX8_best_36 : decode cX8_best 36 = .ok (.iload 4, 2) := by decide +kernel
theorem dX8_best_38 : decode cX8_best 38 = .ok (.istore_n 2, 1) := by decide +kernel
theorem dX8_best_39 : decode cX8_best 39 = .ok (.iinc 4 1, 3) := by decide +kernel
theorem dX8_best_42 : decode cX8_best 42 = .ok (.goto (-30), 3) := by decide +kernel
theorem dX8_best_45 : decode cX8_best 45 = .ok (.iload_n 2, 1) := by decide +kernel
theorem dX8_best_46 : decode cX8_best 46 = .ok (.ireturn, 1) := by decide +kernel
theorem dX8_mend_0 : decode cX8_mend 0 = .ok (.iload_n 1, 1) := by decide +kernel
theorem dX8_mend_1 : decode cX8_mend 1 = .ok (.invokestatic 148, 3) := by decide +kernel
theorem dX8_mend_4 : decode cX8_mend 4 = .ok (.ifCond .eq 12, 3) := by decide +kernel
theorem dX8_mend_7 : decode cX8_mend 7 = .ok (.iload_n 2, 1) := by decide +kernel
theorem dX8_mend_8 : decode cX8_mend 8 = .ok (.iconst 0, 1) := by decide +kernel
theorem dX8_mend_9 : decode cX8_mend 9 = .ok (.iconst 2, 1) := by decide +kernel
theorem dX8_mend_10 : decode cX8_mend 10 = .ok (.invokestatic 94, 3) := by decide +kernel
theorem dX8_mend_13 : decode cX8_mend 13 = .ok (.ifCond .ne 6, 3) := by decide +kernel
theorem dX8_mend_16 : decode cX8_mend 16 = .ok (.bipush (-2), 2) := by decide +kernel
theorem dX8_mend_18 : decode cX8_mend 18 = .ok (.ireturn, 1) := by decide +kernel
theorem dX8_mend_19 : decode cX8_mend 19 = .ok (.iconst (-1), 1) := by decide +kernel
theorem dX8_mend_20 : decode cX8_mend 20 = .ok (.istore_n 3, 1) := by decide +kernel
theorem dX8_mend_21 : decode cX8_mend 21 = .ok (.iconst (-1), 1) := by decide +kernel
theorem dX8_mend_22 : decode cX8_mend 22 = .ok (.istore 4, 2) := by decide +kernel
theorem dX8_mend_24 : decode cX8_mend 24 = .ok (.iconst (-1), 1) := by decide +kernel
theorem dX8_mend_25 : decode cX8_mend 25 = .ok (.istore 5, 2) := by decide +kernel
theorem dX8_mend_27 : decode cX8_mend 27 = .ok (.iconst 0, 1) := by decide +kernel
theorem dX8_mend_28 : decode cX8_mend 28 = .ok (.istore 6, 2) := by decide +kernel
theorem dX8_mend_30 : decode cX8_mend 30 = .ok (.iload 6, 2) := by decide +kernel
theorem dX8_mend_32 : decode cX8_mend 32 = .ok (.aload_n 0, 1) := by decide +kernel
theorem dX8_mend_33 : decode cX8_mend 33 = .ok (.getfield 24, 3) := by decide +kernel
theorem dX8_mend_36 : decode cX8_mend 36 = .ok (.getfield 182, 3) := by decide +kernel
theorem dX8_mend_39 : decode cX8_mend 39 = .ok (.if_icmp .ge 98, 3) := by decide +kernel
theorem dX8_mend_42 : decode cX8_mend 42 = .ok (.iconst 0, 1) := by decide +kernel
theorem dX8_mend_43 : decode cX8_mend 43 = .ok (.istore 7, 2) := by decide +kernel
theorem dX8_mend_45 : decode cX8_mend 45 = .ok (.iload 7, 2) := by decide +kernel
theorem dX8_mend_47 : decode cX8_mend 47 = .ok (.aload_n 0, 1) := by decide +kernel
theorem dX8_mend_48 : decode cX8_mend 48 = .ok (.getfield 31, 3) := by decide +kernel
theorem dX8_mend_51 : decode cX8_mend 51 = .ok (.getfield 204, 3) := by decide +kernel
theorem dX8_mend_54 : decode cX8_mend 54 = .ok (.if_icmp .ge 77, 3) := by decide +kernel
theorem dX8_mend_57 : decode cX8_mend 57 = .ok (.aload_n 0, 1) := by decide +kernel
theorem dX8_mend_58 : decode cX8_mend 58 = .ok (.getfield 48, 3) := by decide +kernel
theorem dX8_mend_61 : decode cX8_mend 61 = .ok (.iload_n 1, 1) := by decide +kernel
theorem dX8_mend_62 : decode cX8_mend 62 = .ok (.iload 6, 2) := by decide +kernel
theorem dX8_mend_64 : decode cX8_mend 64 = .ok (.iload 7, 2) := by decide +kernel
theorem dX8_mend_66 : decode cX8_mend 66 = .ok (.invokevirtual 152, 3) := by decide +kernel
theorem dX8_mend_69 : decode cX8_mend 69 = .ok (.aload_n 0, 1) := by decide +kernel
theorem dX8_mend_70 : decode cX8_mend 70 = .ok (.getfield 74, 3) := by decide +kernel
theorem dX8_mend_73 : decode cX8_mend 73 = .ok (.aload_n 0, 1) := by decide +kernel
theorem dX8_mend_74 : decode cX8_mend 74 = .ok (.getfield 38, 3) := by decide +kernel
theorem dX8_mend_77 : decode cX8_mend 77 = .ok (.iconst 0, 1) := by decide +kernel
theorem dX8_mend_78 : decode cX8_mend 78 = .ok (.invokevirtual 205, 3) := by decide +kernel
theorem dX8_mend_81 : decode cX8_mend 81 = .ok (.aload_n 0, 1) := by decide +kernel
theorem dX8_mend_82 : decode cX8_mend 82 = .ok (.getfield 48, 3) := by decide +kernel
theorem dX8_mend_85 : decode cX8_mend 85 = .ok (.dup, 1) := by decide +kernel
theorem dX8_mend_86 : decode cX8_mend 86 = .ok (.getfield 151, 3) := by decide +kernel
theorem dX8_mend_89 : decode cX8_mend 89 = .ok (.iconst 1, 1) := by decide +kernel
theorem dX8_mend_90 : decode cX8_mend 90 = .ok (.isub, 1) := by decide +kernel
theorem dX8_mend_91 : decode cX8_mend 91 = .ok (.putfield 151, 3) := by decide +kernel
theorem dX8_mend_94 : decode cX8_mend 94 = .ok (.aload_n 0, 1) := by decide +kernel
theorem dX8_mend_95 : decode cX8_mend 95 = .ok (.getfield 74, 3) := by decide +kernel
theorem dX8_mend_98 : decode cX8_mend 98 = .ok (.invokevirtual 198, 3) := by decide +kernel
theorem dX8_mend_101 : decode cX8_mend 101 = .ok (.istore 8, 2) := by decide +kernel
theorem dX8_mend_103 : decode cX8_mend 103 = .ok (.iload_n 3, 1) := by decide +kernel
theorem dX8_mend_104 : decode cX8_mend 104 = .ok (.iconst (-1), 1) := by decide +kernel
theorem dX8_mend_105 : decode cX8_mend 105 = .ok (.if_icmp .eq 9, 3) := by decide +kernel
theorem dX8_mend_108 : decode cX8_mend 108 = .ok (.iload 8, 2) := by decide +kernel
theorem dX8_mend_110 : decode cX8_mend 110 = .ok (.iload_n 3, 1) := by decide +kernel
theorem dX8_mend_111 : decode cX8_mend 111 = .ok (.if_icmp .ge 14, 3) := by decide +kernel
theorem dX8_mend_114 : decode cX8_mend 114 = .ok (.iload 8, 2) := by decide +kernel
theorem dX8_mend_116 : decode cX8_mend 116 = .ok (.istore_n 3, 1) := by decide +kernel
theorem dX8_mend_117 : decode cX8_mend 117 = .ok (.iload 6, 2) := by decide +kernel
theorem dX8_mend_119 : decode cX8_mend 119 = .ok (.istore 4, 2) := by decide +kernel
theorem dX8_mend_121 : decode cX8_mend 121 = .ok (.iload 7, 2) := by decide +kernel
theorem dX8_mend_123 : decode cX8_mend 123 = .ok (.istore 5, 2) := by decide +kernel
theorem dX8_mend_125 : decode cX8_mend 125 = .ok (.iinc 7 1, 3) := by decide +kernel
theorem dX8_mend_128 : decode cX8_mend 128 = .ok (.goto (-83), 3) := by decide +kernel
theorem dX8_mend_131 : decode cX8_mend 131 = .ok (.iinc 6 1, 3) := by decide +kernel
theorem dX8_mend_134 : decode cX8_mend 134 = .ok (.goto (-104), 3) := by decide +kernel
theorem dX8_mend_137 : decode cX8_mend 137 = .ok (.iload_n 2, 1) := by decide +kernel
theorem dX8_mend_138 : decode cX8_mend 138 = .ok (.ifCond .ne 8, 3) := by decide +kernel
theorem dX8_mend_141 : decode cX8_mend 141 = .ok (.iload 4, 2) := by decide +kernel
theorem dX8_mend_143 : decode cX8_mend 143 = .ok (.goto 14, 3) := by decide +kernel
theorem dX8_mend_146 : decode cX8_mend 146 = .ok (.iload_n 2, 1) := by decide +kernel
theorem dX8_mend_147 : decode cX8_mend 147 = .ok (.iconst 1, 1) := by decide +kernel
theorem dX8_mend_148 : decode cX8_mend 148 = .ok (.if_icmp .ne 8, 3) := by decide +kernel
theorem dX8_mend_151 : decode cX8_mend 151 = .ok (.iload 5, 2) := by decide +kernel
theorem dX8_mend_153 : decode cX8_mend 153 = .ok (.goto 4, 3) := by decide +kernel
theorem dX8_mend_156 : decode cX8_mend 156 = .ok (.iload_n 3, 1) := by decide +kernel
theorem dX8_mend_157 : decode cX8_mend 157 = .ok (.ireturn, 1) := by decide +kernel
theorem dX8_firm_0 : decode cX8_firm 0 = .ok (.aload_n 0, 1) := by decide +kernel
theorem dX8_firm_1 : decode cX8_firm 1 = .ok (.getfield 31, 3) := by decide +kernel
theorem dX8_firm_4 : decode cX8_firm 4 = .ok (.iload_n 1, 1) := by decide +kernel
theorem dX8_firm_5 : decode cX8_firm 5 = .ok (.invokevirtual 127, 3) := by decide +kernel
theorem dX8_firm_8 : decode cX8_firm 8 = .ok (.ifCond .ne 6, 3) := by decide +kernel
theorem dX8_firm_11 : decode cX8_firm 11 = .ok (.bipush (-2), 2) := by decide +kernel
theorem dX8_firm_13 : decode cX8_firm 13 = .ok (.ireturn, 1) := by decide +kernel
theorem dX8_firm_14 : decode cX8_firm 14 = .ok (.aload_n 0, 1) := by decide +kernel
theorem dX8_firm_15 : decode cX8_firm 15 = .ok (.getfield 31, 3) := by decide +kernel
theorem dX8_firm_18 : decode cX8_firm 18 = .ok (.getfield 133, 3) := by decide +kernel
theorem dX8_firm_21 : decode cX8_firm 21 = .ok (.iload_n 1, 1) := by decide +kernel
theorem dX8_firm_22 : decode cX8_firm 22 = .ok (.iaload, 1) := by decide +kernel
theorem dX8_firm_23 : decode cX8_firm 23 = .ok (.istore_n 2, 1) := by decide +kernel
theorem dX8_firm_24 : decode cX8_firm 24 = .ok (.iconst (-1), 1) := by decide +kernel
theorem dX8_firm_25 : decode cX8_firm 25 = .ok (.istore_n 3, 1) := by decide +kernel
theorem dX8_firm_26 : decode cX8_firm 26 = .ok (.iconst 1, 1) := by decide +kernel
theorem dX8_firm_27 : decode cX8_firm 27 = .ok (.istore 4, 2) := by decide +kernel
theorem dX8_firm_29 : decode cX8_firm 29 = .ok (.iload 4, 2) := by decide +kernel
theorem dX8_firm_31 : decode cX8_firm 31 = .ok (.bipush 9, 2) := by decide +kernel
theorem dX8_firm_33 : decode cX8_firm 33 = .ok (.if_icmp .gt 54, 3) := by decide +kernel
theorem dX8_firm_36 : decode cX8_firm 36 = .ok (.iload_n 3, 1) := by decide +kernel
theorem dX8_firm_37 : decode cX8_firm 37 = .ok (.iconst (-1), 1) := by decide +kernel
theorem dX8_firm_38 : decode cX8_firm 38 = .ok (.if_icmp .ne 49, 3) := by decide +kernel
theorem dX8_firm_41 : decode cX8_firm 41 = .ok (.aload_n 0, 1) := by decide +kernel
theorem dX8_firm_42 : decode cX8_firm 42 = .ok (.getfield 31, 3) := by decide +kernel
theorem dX8_firm_45 : decode cX8_firm 45 = .ok (.getfield 133, 3) := by decide +kernel
theorem dX8_firm_48 : decode cX8_firm 48 = .ok (.iload_n 1, 1) := by decide +kernel
theorem dX8_firm_49 : decode cX8_firm 49 = .ok (.iload 4, 2) := by decide +kernel
theorem dX8_firm_51 : decode cX8_firm 51 = .ok (.iastore, 1) := by decide +kernel
theorem dX8_firm_52 : decode cX8_firm 52 = .ok (.aload_n 0, 1) := by decide +kernel
theorem dX8_firm_53 : decode cX8_firm 53 = .ok (.getfield 74, 3) := by decide +kernel
theorem dX8_firm_56 : decode cX8_firm 56 = .ok (.aload_n 0, 1) := by decide +kernel
theorem dX8_firm_57 : decode cX8_firm 57 = .ok (.getfield 38, 3) := by decide +kernel
theorem dX8_firm_60 : decode cX8_firm 60 = .ok (.iconst 0, 1) := by decide +kernel
theorem dX8_firm_61 : decode cX8_firm 61 = .ok (.invokevirtual 205, 3) := by decide +kernel
theorem dX8_firm_64 : decode cX8_firm 64 = .ok (.aload_n 0, 1) := by decide +kernel
theorem dX8_firm_65 : decode cX8_firm 65 = .ok (.getfield 74, 3) := by decide +kernel
theorem dX8_firm_68 : decode cX8_firm 68 = .ok (.getfield 209, 3) := by decide +kernel
theorem dX8_firm_71 : decode cX8_firm 71 = .ok (.iload_n 1, 1) := by decide +kernel
theorem dX8_firm_72 : decode cX8_firm 72 = .ok (.iushr, 1) := by decide +kernel
theorem dX8_firm_73 : decode cX8_firm 73 = .ok (.iconst 1, 1) := by decide +kernel
theorem dX8_firm_74 : decode cX8_firm 74 = .ok (.iand, 1) := by decide +kernel
theorem dX8_firm_75 : decode cX8_firm 75 = .ok (.ifCond .ne 6, 3) := by decide +kernel
theorem dX8_firm_78 : decode cX8_firm 78 = .ok (.iload 4, 2) := by decide +kernel
theorem dX8_firm_80 : decode cX8_firm 80 = .ok (.istore_n 3, 1) := by decide +kernel
theorem dX8_firm_81 : decode cX8_firm 81 = .ok (.iinc 4 1, 3) := by decide +kernel
theorem dX8_firm_84 : decode cX8_firm 84 = .ok (.goto (-55), 3) := by decide +kernel
theorem dX8_firm_87 : decode cX8_firm 87 = .ok (.aload_n 0, 1) := by decide +kernel
theorem dX8_firm_88 : decode cX8_firm 88 = .ok (.getfield 31, 3) := by decide +kernel
theorem dX8_firm_91 : decode cX8_firm 91 = .ok (.getfield 133, 3) := by decide +kernel
theorem dX8_firm_94 : decode cX8_firm 94 = .ok (.iload_n 1, 1) := by decide +kernel
theorem dX8_firm_95 : decode cX8_firm 95 = .ok (.iload_n 2, 1) := by decide +kernel
theorem dX8_firm_96 : decode cX8_firm 96 = .ok (.iastore, 1) := by decide +kernel
theorem dX8_firm_97 : decode cX8_firm 97 = .ok (.iload_n 3, 1) := by decide +kernel
theorem dX8_firm_98 : decode cX8_firm 98 = .ok (.ireturn, 1) := by decide +kernel
theorem dX8_relay_0 : decode cX8_relay 0 = .ok (.aload_n 0, 1) := by decide +kernel
theorem dX8_relay_1 : decode cX8_relay 1 = .ok (.getfield 31, 3) := by decide +kernel
theorem dX8_relay_4 : decode cX8_relay 4 = .ok (.iload_n 1, 1) := by decide +kernel
theorem dX8_relay_5 : decode cX8_relay 5 = .ok (.invokevirtual 127, 3) := by decide +kernel
theorem dX8_relay_8 : decode cX8_relay 8 = .ok (.ifCond .eq 10, 3) := by decide +kernel
theorem dX8_relay_11 : decode cX8_relay 11 = .ok (.iload_n 2, 1) := by decide +kernel
theorem dX8_relay_12 : decode cX8_relay 12 = .ok (.invokestatic 90, 3) := by decide +kernel
theorem dX8_relay_15 : decode cX8_relay 15 = .ok (.ifCond .ne 6, 3) := by decide +kernel
theorem dX8_relay_18 : decode cX8_relay 18 = .ok (.bipush (-2), 2) := by decide +kernel
theorem dX8_relay_20 : decode cX8_relay 20 = .ok (.ireturn, 1) := by decide +kernel
theorem dX8_relay_21 : decode cX8_relay 21 = .ok (.iconst (-1), 1) := by decide +kernel
theorem dX8_relay_22 : decode cX8_relay 22 = .ok (.istore_n 3, 1) := by decide +kernel
theorem dX8_relay_23 : decode cX8_relay 23 = .ok (.iconst (-1), 1) := by decide +kernel
theorem dX8_relay_24 : decode cX8_relay 24 = .ok (.istore 4, 2) := by decide +kernel
theorem dX8_relay_26 : decode cX8_relay 26 = .ok (.iconst 0, 1) := by decide +kernel
theorem dX8_relay_27 : decode cX8_relay 27 = .ok (.istore 5, 2) := by decide +kernel
theorem dX8_relay_29 : decode cX8_relay 29 = .ok (.iload 5, 2) := by decide +kernel
theorem dX8_relay_31 : decode cX8_relay 31 = .ok (.bipush 40, 2) := by decide +kernel
theorem dX8_relay_33 : decode cX8_relay 33 = .ok (.if_icmp .ge 96, 3) := by decide +kernel
theorem dX8_relay_36 : decode cX8_relay 36 = .ok (.aload_n 0, 1) := by decide +kernel
theorem dX8_relay_37 : decode cX8_relay 37 = .ok (.getfield 24, 3) := by decide +kernel
theorem dX8_relay_40 : decode cX8_relay 40 = .ok (.getfield 119, 3) := by decide +kernel
theorem dX8_relay_43 : decode cX8_relay 43 = .ok (.iconst 0, 1) := by decide +kernel
theorem dX8_relay_44 : decode cX8_relay 44 = .ok (.iload 5, 2) := by decide +kernel
theorem dX8_relay_46 : decode cX8_relay 46 = .ok (.invokestatic 123, 3) := by decide +kernel
theorem dX8_relay_49 : decode cX8_relay 49 = .ok (.istore 6, 2) := by decide +kernel
theorem dX8_relay_51 : decode cX8_relay 51 = .ok (.iload 6, 2) := by decide +kernel
theorem dX8_relay_53 : decode cX8_relay 53 = .ok (.iconst (-1), 1) := by decide +kernel
theorem dX8_relay_54 : decode cX8_relay 54 = .ok (.if_icmp .ne 6, 3) := by decide +kernel
theorem dX8_relay_57 : decode cX8_relay 57 = .ok (.goto 66, 3) := by decide +kernel
theorem dX8_relay_60 : decode cX8_relay 60 = .ok (.aload_n 0, 1) := by decide +kernel
theorem dX8_relay_61 : decode cX8_relay 61 = .ok (.getfield 24, 3) := by decide +kernel
theorem dX8_relay_64 : decode cX8_relay 64 = .ok (.iload 5, 2) := by decide +kernel
theorem dX8_relay_66 : decode cX8_relay 66 = .ok (.iload 6, 2) := by decide +kernel
theorem dX8_relay_68 : decode cX8_relay 68 = .ok (.iload_n 1, 1) := by decide +kernel
theorem dX8_relay_69 : decode cX8_relay 69 = .ok (.invokevirtual 212, 3) := by decide +kernel
theorem dX8_relay_72 : decode cX8_relay 72 = .ok (.aload_n 0, 1) := by decide +kernel
theorem dX8_relay_73 : decode cX8_relay 73 = .ok (.getfield 74, 3) := by decide +kernel
theorem dX8_relay_76 : decode cX8_relay 76 = .ok (.aload_n 0, 1) := by decide +kernel
theorem dX8_relay_77 : decode cX8_relay 77 = .ok (.getfield 38, 3) := by decide +kernel
theorem dX8_relay_80 : decode cX8_relay 80 = .ok (.iconst 0, 1) := by decide +kernel
theorem dX8_relay_81 : decode cX8_relay 81 = .ok (.invokevirtual 205, 3) := by decide +kernel
theorem dX8_relay_84 : decode cX8_relay 84 = .ok (.aload_n 0, 1) := by decide +kernel
theorem dX8_relay_85 : decode cX8_relay 85 = .ok (.getfield 24, 3) := by decide +kernel
theorem dX8_relay_88 : decode cX8_relay 88 = .ok (.iload 5, 2) := by decide +kernel
theorem dX8_relay_90 : decode cX8_relay 90 = .ok (.iload_n 1, 1) := by decide +kernel
theorem dX8_relay_91 : decode cX8_relay 91 = .ok (.iload 6, 2) := by decide +kernel
theorem dX8_relay_93 : decode cX8_relay 93 = .ok (.invokevirtual 212, 3) := by decide +kernel
theorem dX8_relay_96 : decode cX8_relay 96 = .ok (.aload_n 0, 1) := by decide +kernel
theorem dX8_relay_97 : decode cX8_relay 97 = .ok (.getfield 74, 3) := by decide +kernel
theorem dX8_relay_100 : decode cX8_relay 100 = .ok (.invokevirtual 215, 3) := by decide +kernel
theorem dX8_relay_103 : decode cX8_relay 103 = .ok (.istore 7, 2) := by decide +kernel
theorem dX8_relay_105 : decode cX8_relay 105 = .ok (.iload_n 3, 1) := by decide +kernel
theorem dX8_relay_106 : decode cX8_relay 106 = .ok (.iconst (-1), 1) := by decide +kernel
theorem dX8_relay_107 : decode cX8_relay 107 = .ok (.if_icmp .eq 9, 3) := by decide +kernel
theorem dX8_relay_110 : decode cX8_relay 110 = .ok (.iload 7, 2) := by decide +kernel
theorem dX8_relay_112 : decode cX8_relay 112 = .ok (.iload_n 3, 1) := by decide +kernel
theorem dX8_relay_113 : decode cX8_relay 113 = .ok (.if_icmp .ge 10, 3) := by decide +kernel
theorem dX8_relay_116 : decode cX8_relay 116 = .ok (.iload 7, 2) := by decide +kernel
theorem dX8_relay_118 : decode cX8_relay 118 = .ok (.istore_n 3, 1) := by decide +kernel
theorem dX8_relay_119 : decode cX8_relay 119 = .ok (.iload 5, 2) := by decide +kernel
theorem dX8_relay_121 : decode cX8_relay 121 = .ok (.istore 4, 2) := by decide +kernel
theorem dX8_relay_123 : decode cX8_relay 123 = .ok (.iinc 5 1, 3) := by decide +kernel
theorem dX8_relay_126 : decode cX8_relay 126 = .ok (.goto (-97), 3) := by decide +kernel
theorem dX8_relay_129 : decode cX8_relay 129 = .ok (.iload_n 2, 1) := by decide +kernel
theorem dX8_relay_130 : decode cX8_relay 130 = .ok (.ifCond .ne 8, 3) := by decide +kernel
theorem dX8_relay_133 : decode cX8_relay 133 = .ok (.iload 4, 2) := by decide +kernel
theorem dX8_relay_135 : decode cX8_relay 135 = .ok (.goto 4, 3) := by decide +kernel
theorem dX8_relay_138 : decode cX8_relay 138 = .ok (.iload_n 3, 1) := by decide +kernel
theorem dX8_relay_139 : decode cX8_relay 139 = .ok (.ireturn, 1) := by decide +kernel
theorem dX8_lift_0 : decode cX8_lift 0 = .ok (.iload_n 1, 1) := by decide +kernel
theorem dX8_lift_1 : decode cX8_lift 1 = .ok (.iload_n 2, 1) := by decide +kernel
theorem dX8_lift_2 : decode cX8_lift 2 = .ok (.invokestatic 115, 3) := by decide +kernel
theorem dX8_lift_5 : decode cX8_lift 5 = .ok (.ifCond .ne 6, 3) := by decide +kernel
theorem dX8_lift_8 : decode cX8_lift 8 = .ok (.bipush (-2), 2) := by decide +kernel
theorem dX8_lift_10 : decode cX8_lift 10 = .ok (.ireturn, 1) := by decide +kernel
theorem dX8_lift_11 : decode cX8_lift 11 = .ok (.aload_n 0, 1) := by decide +kernel
theorem dX8_lift_12 : decode cX8_lift 12 = .ok (.getfield 24, 3) := by decide +kernel
theorem dX8_lift_15 : decode cX8_lift 15 = .ok (.getfield 119, 3) := by decide +kernel
theorem dX8_lift_18 : decode cX8_lift 18 = .ok (.invokestatic 218, 3) := by decide +kernel
theorem dX8_lift_21 : decode cX8_lift 21 = .ok (.lstore_n 3, 1) := by decide +kernel
theorem dX8_lift_22 : decode cX8_lift 22 = .ok (.lconst 1, 1) := by decide +kernel
theorem dX8_lift_23 : decode cX8_lift 23 = .ok (.bipush 8, 2) := by decide +kernel
theorem dX8_lift_25 : decode cX8_lift 25 = .ok (.iload_n 1, 1) := by decide +kernel
theorem dX8_lift_26 : decode cX8_lift 26 = .ok (.imul, 1) := by decide +kernel
theorem dX8_lift_27 : decode cX8_lift 27 = .ok (.iload_n 2, 1) := by decide +kernel
theorem dX8_lift_28 : decode cX8_lift 28 = .ok (.iadd, 1) := by decide +kernel
theorem dX8_lift_29 : decode cX8_lift 29 = .ok (.lshl, 1) := by decide +kernel
theorem dX8_lift_30 : decode cX8_lift 30 = .ok (.lstore 5, 2) := by decide +kernel
theorem dX8_lift_32 : decode cX8_lift 32 = .ok (.lload_n 3, 1) := by decide +kernel
theorem dX8_lift_33 : decode cX8_lift 33 = .ok (.lload 5, 2) := by decide +kernel
theorem dX8_lift_35 : decode cX8_lift 35 = .ok (.land, 1) := by decide +kernel
theorem dX8_lift_36 : decode cX8_lift 36 = .ok (.lconst 0, 1) := by decide +kernel
theorem dX8_lift_37 : decode cX8_lift 37 = .ok (.lcmp, 1) := by decide +kernel
theorem dX8_lift_38 : decode cX8_lift 38 = .ok (.ifCond .ne 5, 3) := by decide +kernel
theorem dX8_lift_41 : decode cX8_lift 41 = .ok (.iconst (-1), 1) := by decide +kernel
theorem dX8_lift_42 : decode cX8_lift 42 = .ok (.ireturn, 1) := by decide +kernel
theorem dX8_lift_43 : decode cX8_lift 43 = .ok (.lload_n 3, 1) := by decide +kernel
theorem dX8_lift_44 : decode cX8_lift 44 = .ok (.invokestatic 222, 3) := by decide +kernel
theorem dX8_lift_47 : decode cX8_lift 47 = .ok (.lload 5, 2) := by decide +kernel
theorem dX8_lift_49 : decode cX8_lift 49 = .ok (.ldc2_w 226, 3) := by decide +kernel
theorem dX8_lift_52 : decode cX8_lift 52 = .ok (.lxor, 1) := by decide +kernel
theorem dX8_lift_53 : decode cX8_lift 53 = .ok (.land, 1) := by decide +kernel
theorem dX8_lift_54 : decode cX8_lift 54 = .ok (.lstore 7, 2) := by decide +kernel
theorem dX8_lift_56 : decode cX8_lift 56 = .ok (.lload 7, 2) := by decide +kernel
theorem dX8_lift_58 : decode cX8_lift 58 = .ok (.lload_n 3, 1) := by decide +kernel
theorem dX8_lift_59 : decode cX8_lift 59 = .ok (.lload 5, 2) := by decide +kernel
theorem dX8_lift_61 : decode cX8_lift 61 = .ok (.ldc2_w 226, 3) := by decide +kernel
theorem dX8_lift_64 : decode cX8_lift 64 = .ok (.lxor, 1) := by decide +kernel
theorem dX8_lift_65 : decode cX8_lift 65 = .ok (.land, 1) := by decide +kernel
theorem dX8_lift_66 : decode cX8_lift 66 = .ok (.invokestatic 222, 3) := by decide +kernel
theorem dX8_lift_69 : decode cX8_lift 69 = .ok (.ldc2_w 226, 3) := by decide +kernel
theorem dX8_lift_72 : decode cX8_lift 72 = .ok (.lxor, 1) := by decide +kernel
theorem dX8_lift_73 : decode cX8_lift 73 = .ok (.land, 1) := by decide +kernel
theorem dX8_lift_74 : decode cX8_lift 74 = .ok (.invokestatic 228, 3) := by decide +kernel
theorem dX8_lift_77 : decode cX8_lift 77 = .ok (.ireturn, 1) := by decide +kernel
theorem dX8_seen_0 : decode cX8_seen 0 = .ok (.iload_n 1, 1) := by decide +kernel
theorem dX8_seen_1 : decode cX8_seen 1 = .ok (.invokestatic 148, 3) := by decide +kernel
theorem dX8_seen_4 : decode cX8_seen 4 = .ok (.ifCond .eq 22, 3) := by decide +kernel
theorem dX8_seen_7 : decode cX8_seen 7 = .ok (.iload_n 2, 1) := by decide +kernel
theorem dX8_seen_8 : decode cX8_seen 8 = .ok (.iload_n 3, 1) := by decide +kernel
theorem dX8_seen_9 : decode cX8_seen 9 = .ok (.invokestatic 115, 3) := by decide +kernel
theorem dX8_seen_12 : decode cX8_seen 12 = .ok (.ifCond .eq 14, 3) := by decide +kernel
theorem dX8_seen_15 : decode cX8_seen 15 = .ok (.iload 4, 2) := by decide +kernel
theorem dX8_seen_17 : decode cX8_seen 17 = .ok (.iconst 0, 1) := by decide +kernel
theorem dX8_seen_18 : decode cX8_seen 18 = .ok (.bipush 8, 2) := by decide +kernel
theorem dX8_seen_20 : decode cX8_seen 20 = .ok (.invokestatic 94, 3) := by decide +kernel
theorem dX8_seen_23 : decode cX8_seen 23 = .ok (.ifCond .ne 6, 3) := by decide +kernel
theorem dX8_seen_26 : decode cX8_seen 26 = .ok (.bipush (-2), 2) := by decide +kernel
theorem dX8_seen_28 : decode cX8_seen 28 = .ok (.ireturn, 1) := by decide +kernel
theorem dX8_seen_29 : decode cX8_seen 29 = .ok (.aload_n 0, 1) := by decide +kernel
theorem dX8_seen_30 : decode cX8_seen 30 = .ok (.getfield 55, 3) := by decide +kernel
theorem dX8_seen_33 : decode cX8_seen 33 = .ok (.getfield 234, 3) := by decide +kernel
theorem dX8_seen_36 : decode cX8_seen 36 = .ok (.bipush 8, 2) := by decide +kernel
theorem dX8_seen_38 : decode cX8_seen 38 = .ok (.if_icmp .lt 6, 3) := by decide +kernel
theorem dX8_seen_41 : decode cX8_seen 41 = .ok (.bipush (-4), 2) := by decide +kernel
theorem dX8_seen_43 : decode cX8_seen 43 = .ok (.ireturn, 1) := by decide +kernel
theorem dX8_seen_44 : decode cX8_seen 44 = .ok (.aload_n 0, 1) := by decide +kernel
theorem dX8_seen_45 : decode cX8_seen 45 = .ok (.getfield 55, 3) := by decide +kernel
theorem dX8_seen_48 : decode cX8_seen 48 = .ok (.iload_n 1, 1) := by decide +kernel
theorem dX8_seen_49 : decode cX8_seen 49 = .ok (.bipush 8, 2) := by decide +kernel
theorem dX8_seen_51 : decode cX8_seen 51 = .ok (.iload_n 2, 1) := by decide +kernel
theorem dX8_seen_52 : decode cX8_seen 52 = .ok (.imul, 1) := by decide +kernel
theorem dX8_seen_53 : decode cX8_seen 53 = .ok (.iload_n 3, 1) := by decide +kernel
theorem dX8_seen_54 : decode cX8_seen 54 = .ok (.iadd, 1) := by decide +kernel
theorem dX8_seen_55 : decode cX8_seen 55 = .ok (.iload 4, 2) := by decide +kernel
theorem dX8_seen_57 : decode cX8_seen 57 = .ok (.bipush 8, 2) := by decide +kernel
theorem dX8_seen_59 : decode cX8_seen 59 = .ok (.if_icmp .ne 7, 3) := by decide +kernel
theorem dX8_seen_62 : decode cX8_seen 62 = .ok (.iconst (-1), 1) := by decide +kernel
theorem dX8_seen_63 : decode cX8_seen 63 = .ok (.goto 5, 3) := by decide +kernel
theorem dX8_seen_66 : decode cX8_seen 66 = .ok (.iload 4, 2) := by decide +kernel
theorem dX8_seen_68 : decode cX8_seen 68 = .ok (.invokevirtual 235, 3) := by decide +kernel
theorem dX8_seen_71 : decode cX8_seen 71 = .ok (.aload_n 0, 1) := by decide +kernel
theorem dX8_seen_72 : decode cX8_seen 72 = .ok (.getfield 55, 3) := by decide +kernel
theorem dX8_seen_75 : decode cX8_seen 75 = .ok (.getfield 234, 3) := by decide +kernel
theorem dX8_seen_78 : decode cX8_seen 78 = .ok (.ireturn, 1) := by decide +kernel
theorem dX8_forget_0 : decode cX8_forget 0 = .ok (.aload_n 0, 1) := by decide +kernel
theorem dX8_forget_1 : decode cX8_forget 1 = .ok (.getfield 55, 3) := by decide +kernel
theorem dX8_forget_4 : decode cX8_forget 4 = .ok (.getfield 234, 3) := by decide +kernel
theorem dX8_forget_7 : decode cX8_forget 7 = .ok (.istore_n 1, 1) := by decide +kernel
theorem dX8_forget_8 : decode cX8_forget 8 = .ok (.aload_n 0, 1) := by decide +kernel
theorem dX8_forget_9 : decode cX8_forget 9 = .ok (.getfield 55, 3) := by decide +kernel
theorem dX8_forget_12 : decode cX8_forget 12 = .ok (.iconst 0, 1) := by decide +kernel
theorem dX8_forget_13 : decode cX8_forget 13 = .ok (.putfield 234, 3) := by decide +kernel
theorem dX8_forget_16 : decode cX8_forget 16 = .ok (.iload_n 1, 1) := by decide +kernel
theorem dX8_forget_17 : decode cX8_forget 17 = .ok (.ireturn, 1) := by decide +kernel
theorem dX8_never_0 : decode cX8_never 0 = .ok (.iconst 0, 1) := by decide +kernel
theorem dX8_never_1 : decode cX8_never 1 = .ok (.istore_n 1, 1) := by decide +kernel
theorem dX8_never_2 : decode cX8_never 2 = .ok (.iconst 0, 1) := by decide +kernel
theorem dX8_never_3 : decode cX8_never 3 = .ok (.istore_n 2, 1) := by decide +kernel
theorem dX8_never_4 : decode cX8_never 4 = .ok (.iload_n 2, 1) := by decide +kernel
theorem dX8_never_5 : decode cX8_never 5 = .ok (.aload_n 0, 1) := by decide +kernel
theorem dX8_never_6 : decode cX8_never 6 = .ok (.getfield 38, 3) := by decide +kernel
theorem dX8_never_9 : decode cX8_never 9 = .ok (.getfield 142, 3) := by decide +kernel
theorem dX8_never_12 : decode cX8_never 12 = .ok (.if_icmp .ge 43, 3) := by decide +kernel
theorem dX8_never_15 : decode cX8_never 15 = .ok (.aload_n 0, 1) := by decide +kernel
theorem dX8_never_16 : decode cX8_never 16 = .ok (.getfield 74, 3) := by decide +kernel
theorem dX8_never_19 : decode cX8_never 19 = .ok (.aload_n 0, 1) := by decide +kernel
theorem dX8_never_20 : decode cX8_never 20 = .ok (.getfield 38, 3) := by decide +kernel
theorem dX8_never_23 : decode cX8_never 23 = .ok (.iconst 1, 1) := by decide +kernel
theorem dX8_never_24 : decode cX8_never 24 = .ok (.iload_n 2, 1) := by decide +kernel
theorem dX8_never_25 : decode cX8_never 25 = .ok (.ishl, 1) := by decide +kernel
theorem dX8_never_26 : decode cX8_never 26 = .ok (.invokevirtual 205, 3) := by decide +kernel
theorem dX8_never_29 : decode cX8_never 29 = .ok (.aload_n 0, 1) := by decide +kernel
theorem dX8_never_30 : decode cX8_never 30 = .ok (.getfield 55, 3) := by decide +kernel
theorem dX8_never_33 : decode cX8_never 33 = .ok (.aload_n 0, 1) := by decide +kernel
theorem dX8_never_34 : decode cX8_never 34 = .ok (.getfield 74, 3) := by decide +kernel
theorem dX8_never_37 : decode cX8_never 37 = .ok (.invokevirtual 236, 3) := by decide +kernel
theorem dX8_never_40 : decode cX8_never 40 = .ok (.ifCond .eq 9, 3) := by decide +kernel
theorem dX8_never_43 : decode cX8_never 43 = .ok (.iload_n 1, 1) := by decide +kernel
theorem dX8_never_44 : decode cX8_never 44 = .ok (.iconst 1, 1) := by decide +kernel
theorem dX8_never_45 : decode cX8_never 45 = .ok (.iload_n 2, 1) := by decide +kernel
theorem dX8_never_46 : decode cX8_never 46 = .ok (.ishl, 1) := by decide +kernel
theorem dX8_never_47 : decode cX8_never 47 = .ok (.ior, 1) := by decide +kernel
theorem dX8_never_48 : decode cX8_never 48 = .ok (.istore_n 1, 1) := by decide +kernel
theorem dX8_never_49 : decode cX8_never 49 = .ok (.iinc 2 1, 3) := by decide +kernel
theorem dX8_never_52 : decode cX8_never 52 = .ok (.goto (-48), 3) := by decide +kernel
theorem dX8_never_55 : decode cX8_never 55 = .ok (.iload_n 1, 1) := by decide +kernel
theorem dX8_never_56 : decode cX8_never 56 = .ok (.ireturn, 1) := by decide +kernel
theorem dX8_was_0 : decode cX8_was 0 = .ok (.aload_n 0, 1) := by decide +kernel
theorem dX8_was_1 : decode cX8_was 1 = .ok (.getfield 31, 3) := by decide +kernel
theorem dX8_was_4 : decode cX8_was 4 = .ok (.iload_n 1, 1) := by decide +kernel
theorem dX8_was_5 : decode cX8_was 5 = .ok (.invokevirtual 127, 3) := by decide +kernel
theorem dX8_was_8 : decode cX8_was 8 = .ok (.ifCond .eq 10, 3) := by decide +kernel
theorem dX8_was_11 : decode cX8_was 11 = .ok (.iload_n 2, 1) := by decide +kernel
theorem dX8_was_12 : decode cX8_was 12 = .ok (.invokestatic 90, 3) := by decide +kernel
theorem dX8_was_15 : decode cX8_was 15 = .ok (.ifCond .ne 6, 3) := by decide +kernel
theorem dX8_was_18 : decode cX8_was 18 = .ok (.bipush (-2), 2) := by decide +kernel
theorem dX8_was_20 : decode cX8_was 20 = .ok (.ireturn, 1) := by decide +kernel
theorem dX8_was_21 : decode cX8_was 21 = .ok (.iload_n 2, 1) := by decide +kernel
theorem dX8_was_22 : decode cX8_was 22 = .ok (.ifCond .ne 13, 3) := by decide +kernel
theorem dX8_was_25 : decode cX8_was 25 = .ok (.aload_n 0, 1) := by decide +kernel
theorem dX8_was_26 : decode cX8_was 26 = .ok (.getfield 31, 3) := by decide +kernel
theorem dX8_was_29 : decode cX8_was 29 = .ok (.getfield 133, 3) := by decide +kernel
theorem dX8_was_32 : decode cX8_was 32 = .ok (.goto 10, 3) := by decide +kernel
theorem dX8_was_35 : decode cX8_was 35 = .ok (.aload_n 0, 1) := by decide +kernel
theorem dX8_was_36 : decode cX8_was 36 = .ok (.getfield 31, 3) := by decide +kernel
theorem dX8_was_39 : decode cX8_was 39 = .ok (.getfield 130, 3) := by decide +kernel
theorem dX8_was_42 : decode cX8_was 42 = .ok (.astore_n 3, 1) := by decide +kernel
theorem dX8_was_43 : decode cX8_was 43 = .ok (.iload_n 2, 1) := by decide +kernel
theorem dX8_was_44 : decode cX8_was 44 = .ok (.ifCond .ne 7, 3) := by decide +kernel
theorem dX8_was_47 : decode cX8_was 47 = .ok (.iconst 1, 1) := by decide +kernel
theorem dX8_was_48 : decode cX8_was 48 = .ok (.goto 4, 3) := by decide +kernel
theorem dX8_was_51 : decode cX8_was 51 = .ok (.iconst 0, 1) := by decide +kernel
theorem dX8_was_52 : decode cX8_was 52 = .ok (.istore 4, 2) := by decide +kernel
theorem dX8_was_54 : decode cX8_was 54 = .ok (.iload_n 2, 1) := by decide +kernel
theorem dX8_was_55 : decode cX8_was 55 = .ok (.ifCond .ne 8, 3) := by decide +kernel
theorem dX8_was_58 : decode cX8_was 58 = .ok (.bipush 9, 2) := by decide +kernel
theorem dX8_was_60 : decode cX8_was 60 = .ok (.goto 4, 3) := by decide +kernel
theorem dX8_was_63 : decode cX8_was 63 = .ok (.iconst 3, 1) := by decide +kernel
theorem dX8_was_64 : decode cX8_was 64 = .ok (.istore 5, 2) := by decide +kernel
theorem dX8_was_66 : decode cX8_was 66 = .ok (.aload_n 3, 1) := by decide +kernel
theorem dX8_was_67 : decode cX8_was 67 = .ok (.iload_n 1, 1) := by decide +kernel
theorem dX8_was_68 : decode cX8_was 68 = .ok (.iaload, 1) := by decide +kernel
theorem dX8_was_69 : decode cX8_was 69 = .ok (.istore 6, 2) := by decide +kernel
theorem dX8_was_71 : decode cX8_was 71 = .ok (.iconst 0, 1) := by decide +kernel
theorem dX8_was_72 : decode cX8_was 72 = .ok (.istore 7, 2) := by decide +kernel
theorem dX8_was_74 : decode cX8_was 74 = .ok (.iload 4, 2) := by decide +kernel
theorem dX8_was_76 : decode cX8_was 76 = .ok (.istore 8, 2) := by decide +kernel
theorem dX8_was_78 : decode cX8_was 78 = .ok (.iload 8, 2) := by decide +kernel
theorem dX8_was_80 : decode cX8_was 80 = .ok (.iload 5, 2) := by decide +kernel
theorem dX8_was_82 : decode cX8_was 82 = .ok (.if_icmp .gt 49, 3) := by decide +kernel
theorem dX8_was_85 : decode cX8_was 85 = .ok (.aload_n 3, 1) := by decide +kernel
theorem dX8_was_86 : decode cX8_was 86 = .ok (.iload_n 1, 1) := by decide +kernel
theorem dX8_was_87 : decode cX8_was 87 = .ok (.iload 8, 2) := by decide +kernel
theorem dX8_was_89 : decode cX8_was 89 = .ok (.iastore, 1) := by decide +kernel
theorem dX8_was_90 : decode cX8_was 90 = .ok (.aload_n 0, 1) := by decide +kernel
theorem dX8_was_91 : decode cX8_was 91 = .ok (.getfield 74, 3) := by decide +kernel
theorem dX8_was_94 : decode cX8_was 94 = .ok (.aload_n 0, 1) := by decide +kernel
theorem dX8_was_95 : decode cX8_was 95 = .ok (.getfield 38, 3) := by decide +kernel
theorem dX8_was_98 : decode cX8_was 98 = .ok (.iconst 0, 1) := by decide +kernel
theorem dX8_was_99 : decode cX8_was 99 = .ok (.invokevirtual 205, 3) := by decide +kernel
theorem dX8_was_102 : decode cX8_was 102 = .ok (.aload_n 0, 1) := by decide +kernel
theorem dX8_was_103 : decode cX8_was 103 = .ok (.getfield 55, 3) := by decide +kernel
theorem dX8_was_106 : decode cX8_was 106 = .ok (.aload_n 0, 1) := by decide +kernel
theorem dX8_was_107 : decode cX8_was 107 = .ok (.getfield 74, 3) := by decide +kernel
theorem dX8_was_110 : decode cX8_was 110 = .ok (.invokevirtual 236, 3) := by decide +kernel
theorem dX8_was_113 : decode cX8_was 113 = .ok (.ifCond .eq 12, 3) := by decide +kernel
theorem dX8_was_116 : decode cX8_was 116 = .ok (.iload 7, 2) := by decide +kernel
theorem dX8_was_118 : decode cX8_was 118 = .ok (.iconst 1, 1) := by decide +kernel
theorem dX8_was_119 : decode cX8_was 119 = .ok (.iload 8, 2) := by decide +kernel
theorem dX8_was_121 : decode cX8_was 121 = .ok (.ishl, 1) := by decide +kernel
theorem dX8_was_122 : decode cX8_was 122 = .ok (.ior, 1) := by decide +kernel
theorem dX8_was_123 : decode cX8_was 123 = .ok (.istore 7, 2) := by decide +kernel
theorem dX8_was_125 : decode cX8_was 125 = .ok (.iinc 8 1, 3) := by decide +kernel
theorem dX8_was_128 : decode cX8_was 128 = .ok (.goto (-50), 3) := by decide +kernel
theorem dX8_was_131 : decode cX8_was 131 = .ok (.aload_n 3, 1) := by decide +kernel
theorem dX8_was_132 : decode cX8_was 132 = .ok (.iload_n 1, 1) := by decide +kernel
theorem dX8_was_133 : decode cX8_was 133 = .ok (.iload 6, 2) := by decide +kernel
theorem dX8_was_135 : decode cX8_was 135 = .ok (.iastore, 1) := by decide +kernel
theorem dX8_was_136 : decode cX8_was 136 = .ok (.iload 7, 2) := by decide +kernel
theorem dX8_was_138 : decode cX8_was 138 = .ok (.ireturn, 1) := by decide +kernel
theorem dX8_ask_0 : decode cX8_ask 0 = .ok (.aload_n 0, 1) := by decide +kernel
theorem dX8_ask_1 : decode cX8_ask 1 = .ok (.getfield 31, 3) := by decide +kernel
theorem dX8_ask_4 : decode cX8_ask 4 = .ok (.iload_n 1, 1) := by decide +kernel
theorem dX8_ask_5 : decode cX8_ask 5 = .ok (.invokevirtual 127, 3) := by decide +kernel
theorem dX8_ask_8 : decode cX8_ask 8 = .ok (.ifCond .ne 6, 3) := by decide +kernel
theorem dX8_ask_11 : decode cX8_ask 11 = .ok (.bipush (-2), 2) := by decide +kernel
theorem dX8_ask_13 : decode cX8_ask 13 = .ok (.ireturn, 1) := by decide +kernel
theorem dX8_ask_14 : decode cX8_ask 14 = .ok (.aload_n 0, 1) := by decide +kernel
theorem dX8_ask_15 : decode cX8_ask 15 = .ok (.getfield 31, 3) := by decide +kernel
theorem dX8_ask_18 : decode cX8_ask 18 = .ok (.getfield 133, 3) := by decide +kernel
theorem dX8_ask_21 : decode cX8_ask 21 = .ok (.iload_n 1, 1) := by decide +kernel
theorem dX8_ask_22 : decode cX8_ask 22 = .ok (.iaload, 1) := by decide +kernel
theorem dX8_ask_23 : decode cX8_ask 23 = .ok (.istore_n 2, 1) := by decide +kernel
theorem dX8_ask_24 : decode cX8_ask 24 = .ok (.iconst 0, 1) := by decide +kernel
theorem dX8_ask_25 : decode cX8_ask 25 = .ok (.istore_n 3, 1) := by decide +kernel
theorem dX8_ask_26 : decode cX8_ask 26 = .ok (.iconst 1, 1) := by decide +kernel
theorem dX8_ask_27 : decode cX8_ask 27 = .ok (.istore 4, 2) := by decide +kernel
theorem dX8_ask_29 : decode cX8_ask 29 = .ok (.iload 4, 2) := by decide +kernel
theorem dX8_ask_31 : decode cX8_ask 31 = .ok (.bipush 9, 2) := by decide +kernel
theorem dX8_ask_33 : decode cX8_ask 33 = .ok (.if_icmp .gt 64, 3) := by decide +kernel
theorem dX8_ask_36 : decode cX8_ask 36 = .ok (.aload_n 0, 1) := by decide +kernel
theorem dX8_ask_37 : decode cX8_ask 37 = .ok (.getfield 31, 3) := by decide +kernel
theorem dX8_ask_40 : decode cX8_ask 40 = .ok (.getfield 133, 3) := by decide +kernel
theorem dX8_ask_43 : decode cX8_ask 43 = .ok (.iload_n 1, 1) := by decide +kernel
theorem dX8_ask_44 : decode cX8_ask 44 = .ok (.iload 4, 2) := by decide +kernel
theorem dX8_ask_46 : decode cX8_ask 46 = .ok (.iastore, 1) := by decide +kernel
theorem dX8_ask_47 : decode cX8_ask 47 = .ok (.aload_n 0, 1) := by decide +kernel
theorem dX8_ask_48 : decode cX8_ask 48 = .ok (.getfield 74, 3) := by decide +kernel
theorem dX8_ask_51 : decode cX8_ask 51 = .ok (.aload_n 0, 1) := by decide +kernel
theorem dX8_ask_52 : decode cX8_ask 52 = .ok (.getfield 38, 3) := by decide +kernel
theorem dX8_ask_55 : decode cX8_ask 55 = .ok (.iconst 0, 1) := by decide +kernel
theorem dX8_ask_56 : decode cX8_ask 56 = .ok (.invokevirtual 205, 3) := by decide +kernel
theorem dX8_ask_59 : decode cX8_ask 59 = .ok (.aload_n 0, 1) := by decide +kernel
theorem dX8_ask_60 : decode cX8_ask 60 = .ok (.getfield 55, 3) := by decide +kernel
theorem dX8_ask_63 : decode cX8_ask 63 = .ok (.aload_n 0, 1) := by decide +kernel
theorem dX8_ask_64 : decode cX8_ask 64 = .ok (.getfield 74, 3) := by decide +kernel
theorem dX8_ask_67 : decode cX8_ask 67 = .ok (.invokevirtual 236, 3) := by decide +kernel
theorem dX8_ask_70 : decode cX8_ask 70 = .ok (.ifCond .eq 21, 3) := by decide +kernel
theorem dX8_ask_73 : decode cX8_ask 73 = .ok (.aload_n 0, 1) := by decide +kernel
theorem dX8_ask_74 : decode cX8_ask 74 = .ok (.getfield 74, 3) := by decide +kernel
theorem dX8_ask_77 : decode cX8_ask 77 = .ok (.aload_n 0, 1) := by decide +kernel
theorem dX8_ask_78 : decode cX8_ask 78 = .ok (.getfield 77, 3) := by decide +kernel
theorem dX8_ask_81 : decode cX8_ask 81 = .ok (.iload_n 3, 1) := by decide +kernel
theorem dX8_ask_82 : decode cX8_ask 82 = .ok (.bipush 20, 2) := by decide +kernel
theorem dX8_ask_84 : decode cX8_ask 84 = .ok (.imul, 1) := by decide +kernel
theorem dX8_ask_85 : decode cX8_ask 85 = .ok (.invokevirtual 240, 3) := by decide +kernel
theorem dX8_ask_88 : decode cX8_ask 88 = .ok (.iinc 3 1, 3) := by decide +kernel
theorem dX8_ask_91 : decode cX8_ask 91 = .ok (.iinc 4 1, 3) := by decide +kernel
theorem dX8_ask_94 : decode cX8_ask 94 = .ok (.goto (-65), 3) := by decide +kernel
theorem dX8_ask_97 : decode cX8_ask 97 = .ok (.aload_n 0, 1) := by decide +kernel
theorem dX8_ask_98 : decode cX8_ask 98 = .ok (.getfield 31, 3) := by decide +kernel
theorem dX8_ask_101 : decode cX8_ask 101 = .ok (.getfield 133, 3) := by decide +kernel
theorem dX8_ask_104 : decode cX8_ask 104 = .ok (.iload_n 1, 1) := by decide +kernel
theorem dX8_ask_105 : decode cX8_ask 105 = .ok (.iload_n 2, 1) := by decide +kernel
theorem dX8_ask_106 : decode cX8_ask 106 = .ok (.iastore, 1) := by decide +kernel
theorem dX8_ask_107 : decode cX8_ask 107 = .ok (.iconst 0, 1) := by decide +kernel
theorem dX8_ask_108 : decode cX8_ask 108 = .ok (.istore 4, 2) := by decide +kernel
theorem dX8_ask_110 : decode cX8_ask 110 = .ok (.aload_n 0, 1) := by decide +kernel
theorem dX8_ask_111 : decode cX8_ask 111 = .ok (.iload_n 3, 1) := by decide +kernel
theorem dX8_ask_112 : decode cX8_ask 112 = .ok (.iconst 0, 1) := by decide +kernel
theorem dX8_ask_113 : decode cX8_ask 113 = .ok (.invokevirtual 244, 3) := by decide +kernel
theorem dX8_ask_116 : decode cX8_ask 116 = .ok (.istore 5, 2) := by decide +kernel
theorem dX8_ask_118 : decode cX8_ask 118 = .ok (.iconst 1, 1) := by decide +kernel
theorem dX8_ask_119 : decode cX8_ask 119 = .ok (.istore 6, 2) := by decide +kernel
theorem dX8_ask_121 : decode cX8_ask 121 = .ok (.iload 6, 2) := by decide +kernel
theorem dX8_ask_123 : decode cX8_ask 123 = .ok (.bipush 20, 2) := by decide +kernel
theorem dX8_ask_125 : decode cX8_ask 125 = .ok (.if_icmp .ge 33, 3) := by decide +kernel
theorem dX8_ask_128 : decode cX8_ask 128 = .ok (.aload_n 0, 1) := by decide +kernel
theorem dX8_ask_129 : decode cX8_ask 129 = .ok (.iload_n 3, 1) := by decide +kernel
theorem dX8_ask_130 : decode cX8_ask 130 = .ok (.iload 6, 2) := by decide +kernel
theorem dX8_ask_132 : decode cX8_ask 132 = .ok (.invokevirtual 244, 3) := by decide +kernel
theorem dX8_ask_135 : decode cX8_ask 135 = .ok (.istore 7, 2) := by decide +kernel
theorem dX8_ask_137 : decode cX8_ask 137 = .ok (.iload 7, 2) := by decide +kernel
theorem dX8_ask_139 : decode cX8_ask 139 = .ok (.iload 5, 2) := by decide +kernel
theorem dX8_ask_141 : decode cX8_ask 141 = .ok (.if_icmp .ge 11, 3) := by decide +kernel
theorem dX8_ask_144 : decode cX8_ask 144 = .ok (.iload 7, 2) := by decide +kernel
theorem dX8_ask_146 : decode cX8_ask 146 = .ok (.istore 5, 2) := by decide +kernel
theorem dX8_ask_148 : decode cX8_ask 148 = .ok (.iload 6, 2) := by decide +kernel
theorem dX8_ask_150 : decode cX8_ask 150 = .ok (.istore 4, 2) := by decide +kernel
theorem dX8_ask_152 : decode cX8_ask 152 = .ok (.iinc 6 1, 3) := by decide +kernel
theorem dX8_ask_155 : decode cX8_ask 155 = .ok (.goto (-34), 3) := by decide +kernel
theorem dX8_ask_158 : decode cX8_ask 158 = .ok (.iload 4, 2) := by decide +kernel
theorem dX8_ask_160 : decode cX8_ask 160 = .ok (.ireturn, 1) := by decide +kernel
theorem dX8_luck_0 : decode cX8_luck 0 = .ok (.iload_n 1, 1) := by decide +kernel
theorem dX8_luck_1 : decode cX8_luck 1 = .ok (.iconst 0, 1) := by decide +kernel
theorem dX8_luck_2 : decode cX8_luck 2 = .ok (.bipush 16, 2) := by decide +kernel
theorem dX8_luck_4 : decode cX8_luck 4 = .ok (.invokestatic 94, 3) := by decide +kernel
theorem dX8_luck_7 : decode cX8_luck 7 = .ok (.ifCond .eq 10, 3) := by decide +kernel
theorem dX8_luck_10 : decode cX8_luck 10 = .ok (.iload_n 2, 1) := by decide +kernel
theorem dX8_luck_11 : decode cX8_luck 11 = .ok (.invokestatic 90, 3) := by decide +kernel
theorem dX8_luck_14 : decode cX8_luck 14 = .ok (.ifCond .ne 7, 3) := by decide +kernel
theorem dX8_luck_17 : decode cX8_luck 17 = .ok (.ldc2_w 247, 3) := by decide +kernel
theorem dX8_luck_20 : decode cX8_luck 20 = .ok (.lreturn, 1) := by decide +kernel
theorem dX8_luck_21 : decode cX8_luck 21 = .ok (.lconst 0, 1) := by decide +kernel
theorem dX8_luck_22 : decode cX8_luck 22 = .ok (.lstore_n 3, 1) := by decide +kernel
theorem dX8_luck_23 : decode cX8_luck 23 = .ok (.iconst 0, 1) := by decide +kernel
theorem dX8_luck_24 : decode cX8_luck 24 = .ok (.istore 5, 2) := by decide +kernel
theorem dX8_luck_26 : decode cX8_luck 26 = .ok (.iload 5, 2) := by decide +kernel
theorem dX8_luck_28 : decode cX8_luck 28 = .ok (.iconst 1, 1) := by decide +kernel
theorem dX8_luck_29 : decode cX8_luck 29 = .ok (.aload_n 0, 1) := by decide +kernel
theorem dX8_luck_30 : decode cX8_luck 30 = .ok (.getfield 38, 3) := by decide +kernel
theorem dX8_luck_33 : decode cX8_luck 33 = .ok (.getfield 142, 3) := by decide +kernel
theorem dX8_luck_36 : decode cX8_luck 36 = .ok (.ishl, 1) := by decide +kernel
theorem dX8_luck_37 : decode cX8_luck 37 = .ok (.if_icmp .ge 42, 3) := by decide +kernel
theorem dX8_luck_40 : decode cX8_luck 40 = .ok (.aload_n 0, 1) := by decide +kernel
theorem dX8_luck_41 : decode cX8_luck 41 = .ok (.getfield 74, 3) := by decide +kernel
theorem dX8_luck_44 : decode cX8_luck 44 = .ok (.aload_n 0, 1) := by decide +kernel
theorem dX8_luck_45 : decode cX8_luck 45 = .ok (.getfield 38, 3) := by decide +kernel
theorem dX8_luck_48 : decode cX8_luck 48 = .ok (.iload 5, 2) := by decide +kernel
theorem dX8_luck_50 : decode cX8_luck 50 = .ok (.invokevirtual 205, 3) := by decide +kernel
theorem dX8_luck_53 : decode cX8_luck 53 = .ok (.aload_n 0, 1) := by decide +kernel
theorem dX8_luck_54 : decode cX8_luck 54 = .ok (.getfield 74, 3) := by decide +kernel
theorem dX8_luck_57 : decode cX8_luck 57 = .ok (.invokevirtual 198, 3) := by decide +kernel
theorem dX8_luck_60 : decode cX8_luck 60 = .ok (.ifCond .ne 13, 3) := by decide +kernel
theorem dX8_luck_63 : decode cX8_luck 63 = .ok (.lload_n 3, 1) := by decide +kernel
theorem dX8_luck_64 : decode cX8_luck 64 = .ok (.aload_n 0, 1) := by decide +kernel
theorem dX8_luck_65 : decode cX8_luck 65 = .ok (.iload 5, 2) := by decide +kernel
theorem dX8_luck_67 : decode cX8_luck 67 = .ok (.iload_n 1, 1) := by decide +kernel
theorem dX8_luck_68 : decode cX8_luck 68 = .ok (.invokevirtual 249, 3) := by decide +kernel
theorem dX8_luck_71 : decode cX8_luck 71 = .ok (.ladd, 1) := by decide +kernel
theorem dX8_luck_72 : decode cX8_luck 72 = .ok (.lstore_n 3, 1) := by decide +kernel
theorem dX8_luck_73 : decode cX8_luck 73 = .ok (.iinc 5 1, 3) := by decide +kernel
theorem dX8_luck_76 : decode cX8_luck 76 = .ok (.goto (-50), 3) := by decide +kernel
theorem dX8_luck_79 : decode cX8_luck 79 = .ok (.iconst 4, 1) := by decide +kernel
theorem dX8_luck_80 : decode cX8_luck 80 = .ok (.aload_n 0, 1) := by decide +kernel
theorem dX8_luck_81 : decode cX8_luck 81 = .ok (.getfield 38, 3) := by decide +kernel
theorem dX8_luck_84 : decode cX8_luck 84 = .ok (.getfield 142, 3) := by decide +kernel
theorem dX8_luck_87 : decode cX8_luck 87 = .ok (.imul, 1) := by decide +kernel
theorem dX8_luck_88 : decode cX8_luck 88 = .ok (.istore 5, 2) := by decide +kernel
theorem dX8_luck_90 : decode cX8_luck 90 = .ok (.lconst 1, 1) := by decide +kernel
theorem dX8_luck_91 : decode cX8_luck 91 = .ok (.iload 5, 2) := by decide +kernel
theorem dX8_luck_93 : decode cX8_luck 93 = .ok (.lshl, 1) := by decide +kernel
theorem dX8_luck_94 : decode cX8_luck 94 = .ok (.lstore 6, 2) := by decide +kernel
theorem dX8_luck_96 : decode cX8_luck 96 = .ok (.iconst 0, 1) := by decide +kernel
theorem dX8_luck_97 : decode cX8_luck 97 = .ok (.istore 8, 2) := by decide +kernel
theorem dX8_luck_99 : decode cX8_luck 99 = .ok (.iload 8, 2) := by decide +kernel
theorem dX8_luck_101 : decode cX8_luck 101 = .ok (.iload 5, 2) := by decide +kernel
theorem dX8_luck_103 : decode cX8_luck 103 = .ok (.if_icmp .ge 27, 3) := by decide +kernel
theorem dX8_luck_106 : decode cX8_luck 106 = .ok (.lload_n 3, 1) := by decide +kernel
theorem dX8_luck_107 : decode cX8_luck 107 = .ok (.lconst 1, 1) := by decide +kernel
theorem dX8_luck_108 : decode cX8_luck 108 = .ok (.land, 1) := by decide +kernel
theorem dX8_luck_109 : decode cX8_luck 109 = .ok (.lconst 0, 1) := by decide +kernel
theorem dX8_luck_110 : decode cX8_luck 110 = .ok (.lcmp, 1) := by decide +kernel
theorem dX8_luck_111 : decode cX8_luck 111 = .ok (.ifCond .ne 19, 3) := by decide +kernel
theorem dX8_luck_114 : decode cX8_luck 114 = .ok (.lload_n 3, 1) := by decide +kernel
theorem dX8_luck_115 : decode cX8_luck 115 = .ok (.iconst 1, 1) := by decide +kernel
theorem dX8_luck_116 : decode cX8_luck 116 = .ok (.lshr, 1) := by decide +kernel
theorem dX8_luck_117 : decode cX8_luck 117 = .ok (.lstore_n 3, 1) := by decide +kernel
theorem dX8_luck_118 : decode cX8_luck 118 = .ok (.lload 6, 2) := by decide +kernel
theorem dX8_luck_120 : decode cX8_luck 120 = .ok (.iconst 1, 1) := by decide +kernel
theorem dX8_luck_121 : decode cX8_luck 121 = .ok (.lshr, 1) := by decide +kernel
theorem dX8_luck_122 : decode cX8_luck 122 = .ok (.lstore 6, 2) := by decide +kernel
theorem dX8_luck_124 : decode cX8_luck 124 = .ok (.iinc 8 1, 3) := by decide +kernel
theorem dX8_luck_127 : decode cX8_luck 127 = .ok (.goto (-28), 3) := by decide +kernel
theorem dX8_luck_130 : decode cX8_luck 130 = .ok (.iload_n 2, 1) := by decide +kernel
theorem dX8_luck_131 : decode cX8_luck 131 = .ok (.ifCond .ne 7, 3) := by decide +kernel
theorem dX8_luck_134 : decode cX8_luck 134 = .ok (.lload_n 3, 1) := by decide +kernel
theorem dX8_luck_135 : decode cX8_luck 135 = .ok (.goto 5, 3) := by decide +kernel
theorem dX8_luck_138 : decode cX8_luck 138 = .ok (.lload 6, 2) := by decide +kernel
theorem dX8_luck_140 : decode cX8_luck 140 = .ok (.lreturn, 1) := by decide +kernel
theorem dX8_ages_0 : decode cX8_ages 0 = .ok (.iload_n 2, 1) := by decide +kernel
theorem dX8_ages_1 : decode cX8_ages 1 = .ok (.iconst 0, 1) := by decide +kernel
theorem dX8_ages_2 : decode cX8_ages 2 = .ok (.bipush 6, 2) := by decide +kernel
theorem dX8_ages_4 : decode cX8_ages 4 = .ok (.invokestatic 94, 3) := by decide +kernel
theorem dX8_ages_7 : decode cX8_ages 7 = .ok (.ifCond .eq 10, 3) := by decide +kernel
theorem dX8_ages_10 : decode cX8_ages 10 = .ok (.iload_n 3, 1) := by decide +kernel
theorem dX8_ages_11 : decode cX8_ages 11 = .ok (.invokestatic 90, 3) := by decide +kernel
theorem dX8_ages_14 : decode cX8_ages 14 = .ok (.ifCond .ne 6, 3) := by decide +kernel
theorem dX8_ages_17 : decode cX8_ages 17 = .ok (.bipush (-2), 2) := by decide +kernel
theorem dX8_ages_19 : decode cX8_ages 19 = .ok (.ireturn, 1) := by decide +kernel
theorem dX8_ages_20 : decode cX8_ages 20 = .ok (.iload_n 1, 1) := by decide +kernel
theorem dX8_ages_21 : decode cX8_ages 21 = .ok (.istore 4, 2) := by decide +kernel
theorem dX8_ages_23 : decode cX8_ages 23 = .ok (.aload_n 0, 1) := by decide +kernel
theorem dX8_ages_24 : decode cX8_ages 24 = .ok (.getfield 42, 3) := by decide +kernel
theorem dX8_ages_27 : decode cX8_ages 27 = .ok (.iconst 0, 1) := by decide +kernel
theorem dX8_ages_28 : decode cX8_ages 28 = .ok (.putfield 142, 3) := by decide +kernel
theorem dX8_ages_31 : decode cX8_ages 31 = .ok (.iconst 0, 1) := by decide +kernel
theorem dX8_ages_32 : decode cX8_ages 32 = .ok (.istore 5, 2) := by decide +kernel
theorem dX8_ages_34 : decode cX8_ages 34 = .ok (.iload 5, 2) := by decide +kernel
theorem dX8_ages_36 : decode cX8_ages 36 = .ok (.iload_n 2, 1) := by decide +kernel
theorem dX8_ages_37 : decode cX8_ages 37 = .ok (.if_icmp .ge 52, 3) := by decide +kernel
theorem dX8_ages_40 : decode cX8_ages 40 = .ok (.iload 4, 2) := by decide +kernel
theorem dX8_ages_42 : decode cX8_ages 42 = .ok (.invokestatic 253, 3) := by decide +kernel
theorem dX8_ages_45 : decode cX8_ages 45 = .ok (.istore 4, 2) := by decide +kernel
theorem dX8_ages_47 : decode cX8_ages 47 = .ok (.iload 4, 2) := by decide +kernel
theorem dX8_ages_49 : decode cX8_ages 49 = .ok (.bipush 16, 2) := by decide +kernel
theorem dX8_ages_51 : decode cX8_ages 51 = .ok (.iushr, 1) := by decide +kernel
theorem dX8_ages_52 : decode cX8_ages 52 = .ok (.bipush 20, 2) := by decide +kernel
theorem dX8_ages_54 : decode cX8_ages 54 = .ok (.irem, 1) := by decide +kernel
theorem dX8_ages_55 : decode cX8_ages 55 = .ok (.istore 6, 2) := by decide +kernel
theorem dX8_ages_57 : decode cX8_ages 57 = .ok (.iload 4, 2) := by decide +kernel
theorem dX8_ages_59 : decode cX8_ages 59 = .ok (.invokestatic 253, 3) := by decide +kernel
theorem dX8_ages_62 : decode cX8_ages 62 = .ok (.istore 4, 2) := by decide +kernel
theorem dX8_ages_64 : decode cX8_ages 64 = .ok (.aload_n 0, 1) := by decide +kernel
theorem dX8_ages_65 : decode cX8_ages 65 = .ok (.getfield 42, 3) := by decide +kernel
theorem dX8_ages_68 : decode cX8_ages 68 = .ok (.iload 6, 2) := by decide +kernel
theorem dX8_ages_70 : decode cX8_ages 70 = .ok (.iload 4, 2) := by decide +kernel
theorem dX8_ages_72 : decode cX8_ages 72 = .ok (.bipush 16, 2) := by decide +kernel
theorem dX8_ages_74 : decode cX8_ages 74 = .ok (.iushr, 1) := by decide +kernel
theorem dX8_ages_75 : decode cX8_ages 75 = .ok (.bipush 15, 2) := by decide +kernel
theorem dX8_ages_77 : decode cX8_ages 77 = .ok (.irem, 1) := by decide +kernel
theorem dX8_ages_78 : decode cX8_ages 78 = .ok (.iconst 1, 1) := by decide +kernel
theorem dX8_ages_79 : decode cX8_ages 79 = .ok (.iadd, 1) := by decide +kernel
theorem dX8_ages_80 : decode cX8_ages 80 = .ok (.invokevirtual 144, 3) := by decide +kernel
theorem dX8_ages_83 : decode cX8_ages 83 = .ok (.iinc 5 1, 3) := by decide +kernel
theorem dX8_ages_86 : decode cX8_ages 86 = .ok (.goto (-52), 3) := by decide +kernel
theorem dX8_ages_89 : decode cX8_ages 89 = .ok (.aload_n 0, 1) := by decide +kernel
theorem dX8_ages_90 : decode cX8_ages 90 = .ok (.getfield 74, 3) := by decide +kernel
theorem dX8_ages_93 : decode cX8_ages 93 = .ok (.aload_n 0, 1) := by decide +kernel
theorem dX8_ages_94 : decode cX8_ages 94 = .ok (.getfield 42, 3) := by decide +kernel
theorem dX8_ages_97 : decode cX8_ages 97 = .ok (.iconst 0, 1) := by decide +kernel
theorem dX8_ages_98 : decode cX8_ages 98 = .ok (.invokevirtual 205, 3) := by decide +kernel
theorem dX8_ages_101 : decode cX8_ages 101 = .ok (.iload_n 3, 1) := by decide +kernel
theorem dX8_ages_102 : decode cX8_ages 102 = .ok (.ifCond .ne 19, 3) := by decide +kernel
theorem dX8_ages_105 : decode cX8_ages 105 = .ok (.aload_n 0, 1) := by decide +kernel
theorem dX8_ages_106 : decode cX8_ages 106 = .ok (.getfield 74, 3) := by decide +kernel
theorem dX8_ages_109 : decode cX8_ages 109 = .ok (.getfield 256, 3) := by decide +kernel
theorem dX8_ages_112 : decode cX8_ages 112 = .ok (.bipush 19, 2) := by decide +kernel
theorem dX8_ages_114 : decode cX8_ages 114 = .ok (.laload, 1) := by decide +kernel
theorem dX8_ages_115 : decode cX8_ages 115 = .ok (.invokestatic 228, 3) := by decide +kernel
theorem dX8_ages_118 : decode cX8_ages 118 = .ok (.goto 10, 3) := by decide +kernel
theorem dX8_ages_121 : decode cX8_ages 121 = .ok (.aload_n 0, 1) := by decide +kernel
theorem dX8_ages_122 : decode cX8_ages 122 = .ok (.getfield 74, 3) := by decide +kernel
theorem dX8_ages_125 : decode cX8_ages 125 = .ok (.invokevirtual 198, 3) := by decide +kernel
theorem dX8_ages_128 : decode cX8_ages 128 = .ok (.ireturn, 1) := by decide +kernel
theorem dX8_sheet_0 : decode cX8_sheet 0 = .ok (.iload_n 1, 1) := by decide +kernel
theorem dX8_sheet_1 : decode cX8_sheet 1 = .ok (.invokestatic 155, 3) := by decide +kernel
theorem dX8_sheet_4 : decode cX8_sheet 4 = .ok (.ifCond .eq 16, 3) := by decide +kernel
theorem dX8_sheet_7 : decode cX8_sheet 7 = .ok (.iload_n 2, 1) := by decide +kernel
theorem dX8_sheet_8 : decode cX8_sheet 8 = .ok (.invokestatic 259, 3) := by decide +kernel
theorem dX8_sheet_11 : decode cX8_sheet 11 = .ok (.ifCond .eq 9, 3) := by decide +kernel
theorem dX8_sheet_14 : decode cX8_sheet 14 = .ok (.iload_n 3, 1) := by decide +kernel
theorem dX8_sheet_15 : decode cX8_sheet 15 = .ok (.bipush 60, 2) := by decide +kernel
theorem dX8_sheet_17 : decode cX8_sheet 17 = .ok (.if_icmp .le 6, 3) := by decide +kernel
theorem dX8_sheet_20 : decode cX8_sheet 20 = .ok (.bipush (-2), 2) := by decide +kernel
theorem dX8_sheet_22 : decode cX8_sheet 22 = .ok (.ireturn, 1) := by decide +kernel
theorem dX8_sheet_23 : decode cX8_sheet 23 = .ok (.iload_n 3, 1) := by decide +kernel
theorem dX8_sheet_24 : decode cX8_sheet 24 = .ok (.ifCond .ge 9, 3) := by decide +kernel
theorem dX8_sheet_27 : decode cX8_sheet 27 = .ok (.aload_n 0, 1) := by decide +kernel
theorem dX8_sheet_28 : decode cX8_sheet 28 = .ok (.iconst 5, 1) := by decide +kernel
theorem dX8_sheet_29 : decode cX8_sheet 29 = .ok (.invokevirtual 161, 3) := by decide +kernel
theorem dX8_sheet_32 : decode cX8_sheet 32 = .ok (.ireturn, 1) := by decide +kernel
theorem dX8_sheet_33 : decode cX8_sheet 33 = .ok (.aload_n 0, 1) := by decide +kernel
theorem dX8_sheet_34 : decode cX8_sheet 34 = .ok (.getfield 61, 3) := by decide +kernel
theorem dX8_sheet_37 : decode cX8_sheet 37 = .ok (.iload_n 1, 1) := by decide +kernel
theorem dX8_sheet_38 : decode cX8_sheet 38 = .ok (.aaload, 1) := by decide +kernel
theorem dX8_sheet_39 : decode cX8_sheet 39 = .ok (.astore 4, 2) := by decide +kernel
theorem dX8_sheet_41 : decode cX8_sheet 41 = .ok (.aload 4, 2) := by decide +kernel
theorem dX8_sheet_43 : decode cX8_sheet 43 = .ok (.getfield 168, 3) := by decide +kernel
theorem dX8_sheet_46 : decode cX8_sheet 46 = .ok (.iconst 0, 1) := by decide +kernel
theorem dX8_sheet_47 : decode cX8_sheet 47 = .ok (.invokestatic 262, 3) := by decide +kernel
theorem dX8_sheet_50 : decode cX8_sheet 50 = .ok (.aload 4, 2) := by decide +kernel
theorem dX8_sheet_52 : decode cX8_sheet 52 = .ok (.iload_n 2, 1) := by decide +kernel
theorem dX8_sheet_53 : decode cX8_sheet 53 = .ok (.putfield 158, 3) := by decide +kernel
theorem dX8_sheet_56 : decode cX8_sheet 56 = .ok (.aload 4, 2) := by decide +kernel
theorem dX8_sheet_58 : decode cX8_sheet 58 = .ok (.iload_n 3, 1) := by decide +kernel
theorem dX8_sheet_59 : decode cX8_sheet 59 = .ok (.putfield 165, 3) := by decide +kernel
theorem dX8_sheet_62 : decode cX8_sheet 62 = .ok (.iload_n 3, 1) := by decide +kernel
theorem dX8_sheet_63 : decode cX8_sheet 63 = .ok (.ireturn, 1) := by decide +kernel
theorem dX8_lose_0 : decode cX8_lose 0 = .ok (.iload_n 1, 1) := by decide +kernel
theorem dX8_lose_1 : decode cX8_lose 1 = .ok (.invokestatic 155, 3) := by decide +kernel
theorem dX8_lose_4 : decode cX8_lose 4 = .ok (.ifCond .ne 6, 3) := by decide +kernel
theorem dX8_lose_7 : decode cX8_lose 7 = .ok (.bipush (-2), 2) := by decide +kernel
theorem dX8_lose_9 : decode cX8_lose 9 = .ok (.ireturn, 1) := by decide +kernel
theorem dX8_lose_10 : decode cX8_lose 10 = .ok (.aload_n 0, 1) := by decide +kernel
theorem dX8_lose_11 : decode cX8_lose 11 = .ok (.getfield 61, 3) := by decide +kernel
theorem dX8_lose_14 : decode cX8_lose 14 = .ok (.iload_n 1, 1) := by decide +kernel
theorem dX8_lose_15 : decode cX8_lose 15 = .ok (.aaload, 1) := by decide +kernel
theorem dX8_lose_16 : decode cX8_lose 16 = .ok (.astore_n 2, 1) := by decide +kernel
theorem dX8_lose_17 : decode cX8_lose 17 = .ok (.aload_n 2, 1) := by decide +kernel
theorem dX8_lose_18 : decode cX8_lose 18 = .ok (.getfield 158, 3) := by decide +kernel
theorem dX8_lose_21 : decode cX8_lose 21 = .ok (.iconst (-1), 1) := by decide +kernel
theorem dX8_lose_22 : decode cX8_lose 22 = .ok (.if_icmp .ne 9, 3) := by decide +kernel
theorem dX8_lose_25 : decode cX8_lose 25 = .ok (.aload_n 0, 1) := by decide +kernel
theorem dX8_lose_26 : decode cX8_lose 26 = .ok (.iconst 1, 1) := by decide +kernel
theorem dX8_lose_27 : decode cX8_lose 27 = .ok (.invokevirtual 161, 3) := by decide +kernel
theorem dX8_lose_30 : decode cX8_lose 30 = .ok (.ireturn, 1) := by decide +kernel
theorem dX8_lose_31 : decode cX8_lose 31 = .ok (.aload_n 2, 1) := by decide +kernel
theorem dX8_lose_32 : decode cX8_lose 32 = .ok (.iconst (-1), 1) := by decide +kernel
theorem dX8_lose_33 : decode cX8_lose 33 = .ok (.putfield 158, 3) := by decide +kernel
theorem dX8_lose_36 : decode cX8_lose 36 = .ok (.aload_n 2, 1) := by decide +kernel
theorem dX8_lose_37 : decode cX8_lose 37 = .ok (.getfield 165, 3) := by decide +kernel
theorem dX8_lose_40 : decode cX8_lose 40 = .ok (.ireturn, 1) := by decide +kernel
theorem dX8_put_0 : decode cX8_put 0 = .ok (.iload_n 1, 1) := by decide +kernel
theorem dX8_put_1 : decode cX8_put 1 = .ok (.invokestatic 155, 3) := by decide +kernel
theorem dX8_put_4 : decode cX8_put 4 = .ok (.ifCond .eq 10, 3) := by decide +kernel
theorem dX8_put_7 : decode cX8_put 7 = .ok (.iload_n 2, 1) := by decide +kernel
theorem dX8_put_8 : decode cX8_put 8 = .ok (.invokestatic 259, 3) := by decide +kernel
theorem dX8_put_11 : decode cX8_put 11 = .ok (.ifCond .ne 6, 3) := by decide +kernel
theorem dX8_put_14 : decode cX8_put 14 = .ok (.bipush (-2), 2) := by decide +kernel
theorem dX8_put_16 : decode cX8_put 16 = .ok (.ireturn, 1) := by decide +kernel
theorem dX8_put_17 : decode cX8_put 17 = .ok (.aload_n 0, 1) := by decide +kernel
theorem dX8_put_18 : decode cX8_put 18 = .ok (.getfield 61, 3) := by decide +kernel
theorem dX8_put_21 : decode cX8_put 21 = .ok (.iload_n 1, 1) := by decide +kernel
theorem dX8_put_22 : decode cX8_put 22 = .ok (.aaload, 1) := by decide +kernel
theorem dX8_put_23 : decode cX8_put 23 = .ok (.iload_n 2, 1) := by decide +kernel
theorem dX8_put_24 : decode cX8_put 24 = .ok (.iload_n 3, 1) := by decide +kernel
theorem dX8_put_25 : decode cX8_put 25 = .ok (.invokevirtual 267, 3) := by decide +kernel
theorem dX8_put_28 : decode cX8_put 28 = .ok (.istore 5, 2) := by decide +kernel
theorem dX8_put_30 : decode cX8_put 30 = .ok (.iload 5, 2) := by decide +kernel
theorem dX8_put_32 : decode cX8_put 32 = .ok (.ifCond .eq 10, 3) := by decide +kernel
theorem dX8_put_35 : decode cX8_put 35 = .ok (.aload_n 0, 1) := by decide +kernel
theorem dX8_put_36 : decode cX8_put 36 = .ok (.iload 5, 2) := by decide +kernel
theorem dX8_put_38 : decode cX8_put 38 = .ok (.invokevirtual 161, 3) := by decide +kernel
theorem dX8_put_41 : decode cX8_put 41 = .ok (.ireturn, 1) := by decide +kernel
theorem dX8_put_42 : decode cX8_put 42 = .ok (.aload_n 0, 1) := by decide +kernel
theorem dX8_put_43 : decode cX8_put 43 = .ok (.getfield 61, 3) := by decide +kernel
theorem dX8_put_46 : decode cX8_put 46 = .ok (.iload_n 1, 1) := by decide +kernel
theorem dX8_put_47 : decode cX8_put 47 = .ok (.aaload, 1) := by decide +kernel
theorem dX8_put_48 : decode cX8_put 48 = .ok (.getfield 168, 3) := by decide +kernel
theorem dX8_put_51 : decode cX8_put 51 = .ok (.iload_n 3, 1) := by decide +kernel
theorem dX8_put_52 : decode cX8_put 52 = .ok (.iload_n 2, 1) := by decide +kernel
theorem dX8_put_53 : decode cX8_put 53 = .ok (.ifCond .ne 9, 3) := by decide +kernel
theorem dX8_put_56 : decode cX8_put 56 = .ok (.iload 4, 2) := by decide +kernel
theorem dX8_put_58 : decode cX8_put 58 = .ok (.i2b, 1) := by decide +kernel
theorem dX8_put_59 : decode cX8_put 59 = .ok (.goto 16, 3) := by decide +kernel
theorem dX8_put_62 : decode cX8_put 62 = .ok (.iload_n 2, 1) := by decide +kernel
theorem dX8_put_63 : decode cX8_put 63 = .ok (.iconst 1, 1) := by decide +kernel
theorem dX8_put_64 : decode cX8_put 64 = .ok (.if_icmp .ne 9, 3) := by decide +kernel
theorem dX8_put_67 : decode cX8_put 67 = .ok (.iload 4, 2) := by decide +kernel
theorem dX8_put_69 : decode cX8_put 69 = .ok (.i2s, 1) := by decide +kernel
theorem dX8_put_70 : decode cX8_put 70 = .ok (.goto 5, 3) := by decide +kernel
theorem dX8_put_73 : decode cX8_put 73 = .ok (.iload 4, 2) := by decide +kernel
theorem dX8_put_75 : decode cX8_put 75 = .ok (.iastore, 1) := by decide +kernel
theorem dX8_put_76 : decode cX8_put 76 = .ok (.iconst 1, 1) := by decide +kernel
theorem dX8_put_77 : decode cX8_put 77 = .ok (.ireturn, 1) := by decide +kernel
theorem dX8_get_0 : decode cX8_get 0 = .ok (.iload_n 1, 1) := by decide +kernel
theorem dX8_get_1 : decode cX8_get 1 = .ok (.invokestatic 155, 3) := by decide +kernel
theorem dX8_get_4 : decode cX8_get 4 = .ok (.ifCond .eq 10, 3) := by decide +kernel
theorem dX8_get_7 : decode cX8_get 7 = .ok (.iload_n 2, 1) := by decide +kernel
theorem dX8_get_8 : decode cX8_get 8 = .ok (.invokestatic 259, 3) := by decide +kernel
theorem dX8_get_11 : decode cX8_get 11 = .ok (.ifCond .ne 7, 3) := by decide +kernel
theorem dX8_get_14 : decode cX8_get 14 = .ok (.ldc_w 272, 3) := by decide +kernel
theorem dX8_get_17 : decode cX8_get 17 = .ok (.ireturn, 1) := by decide +kernel
theorem dX8_get_18 : decode cX8_get 18 = .ok (.aload_n 0, 1) := by decide +kernel
theorem dX8_get_19 : decode cX8_get 19 = .ok (.getfield 61, 3) := by decide +kernel
theorem dX8_get_22 : decode cX8_get 22 = .ok (.iload_n 1, 1) := by decide +kernel
theorem dX8_get_23 : decode cX8_get 23 = .ok (.aaload, 1) := by decide +kernel
theorem dX8_get_24 : decode cX8_get 24 = .ok (.iload_n 2, 1) := by decide +kernel
theorem dX8_get_25 : decode cX8_get 25 = .ok (.iload_n 3, 1) := by decide +kernel
theorem dX8_get_26 : decode cX8_get 26 = .ok (.invokevirtual 267, 3) := by decide +kernel
theorem dX8_get_29 : decode cX8_get 29 = .ok (.istore 4, 2) := by decide +kernel
theorem dX8_get_31 : decode cX8_get 31 = .ok (.iload 4, 2) := by decide +kernel
theorem dX8_get_33 : decode cX8_get 33 = .ok (.ifCond .eq 14, 3) := by decide +kernel
theorem dX8_get_36 : decode cX8_get 36 = .ok (.aload_n 0, 1) := by decide +kernel
theorem dX8_get_37 : decode cX8_get 37 = .ok (.iload 4, 2) := by decide +kernel
theorem dX8_get_39 : decode cX8_get 39 = .ok (.invokevirtual 161, 3) := by decide +kernel
theorem dX8_get_42 : decode cX8_get 42 = .ok (.pop, 1) := by decide +kernel
theorem dX8_get_43 : decode cX8_get 43 = .ok (.ldc_w 272, 3) := by decide +kernel
theorem dX8_get_46 : decode cX8_get 46 = .ok (.ireturn, 1) := by decide +kernel
theorem dX8_get_47 : decode cX8_get 47 = .ok (.aload_n 0, 1) := by decide +kernel
theorem dX8_get_48 : decode cX8_get 48 = .ok (.getfield 61, 3) := by decide +kernel
theorem dX8_get_51 : decode cX8_get 51 = .ok (.iload_n 1, 1) := by decide +kernel
theorem dX8_get_52 : decode cX8_get 52 = .ok (.aaload, 1) := by decide +kernel
theorem dX8_get_53 : decode cX8_get 53 = .ok (.getfield 168, 3) := by decide +kernel
theorem dX8_get_56 : decode cX8_get 56 = .ok (.iload_n 3, 1) := by decide +kernel
theorem dX8_get_57 : decode cX8_get 57 = .ok (.iaload, 1) := by decide +kernel
theorem dX8_get_58 : decode cX8_get 58 = .ok (.ireturn, 1) := by decide +kernel
theorem dX8_copy_0 : decode cX8_copy 0 = .ok (.iload_n 1, 1) := by decide +kernel
theorem dX8_copy_1 : decode cX8_copy 1 = .ok (.invokestatic 155, 3) := by decide +kernel
theorem dX8_copy_4 : decode cX8_copy 4 = .ok (.ifCond .eq 10, 3) := by decide +kernel
theorem dX8_copy_7 : decode cX8_copy 7 = .ok (.iload_n 3, 1) := by decide +kernel
theorem dX8_copy_8 : decode cX8_copy 8 = .ok (.invokestatic 155, 3) := by decide +kernel
theorem dX8_copy_11 : decode cX8_copy 11 = .ok (.ifCond .ne 6, 3) := by decide +kernel
theorem dX8_copy_14 : decode cX8_copy 14 = .ok (.bipush (-2), 2) := by decide +kernel
theorem dX8_copy_16 : decode cX8_copy 16 = .ok (.ireturn, 1) := by decide +kernel
theorem dX8_copy_17 : decode cX8_copy 17 = .ok (.aload_n 0, 1) := by decide +kernel
theorem dX8_copy_18 : decode cX8_copy 18 = .ok (.getfield 61, 3) := by decide +kernel
theorem dX8_copy_21 : decode cX8_copy 21 = .ok (.iload_n 1, 1) := by decide +kernel
theorem dX8_copy_22 : decode cX8_copy 22 = .ok (.aaload, 1) := by decide +kernel
theorem dX8_copy_23 : decode cX8_copy 23 = .ok (.astore 6, 2) := by decide +kernel
theorem dX8_copy_25 : decode cX8_copy 25 = .ok (.aload_n 0, 1) := by decide +kernel
theorem dX8_copy_26 : decode cX8_copy 26 = .ok (.getfield 61, 3) := by decide +kernel
theorem dX8_copy_29 : decode cX8_copy 29 = .ok (.iload_n 3, 1) := by decide +kernel
theorem dX8_copy_30 : decode cX8_copy 30 = .ok (.aaload, 1) := by decide +kernel
theorem dX8_copy_31 : decode cX8_copy 31 = .ok (.astore 7, 2) := by decide +kernel
theorem dX8_copy_33 : decode cX8_copy 33 = .ok (.aload 6, 2) := by decide +kernel
theorem dX8_copy_35 : decode cX8_copy 35 = .ok (.getfield 158, 3) := by decide +kernel
theorem dX8_copy_38 : decode cX8_copy 38 = .ok (.iconst (-1), 1) := by decide +kernel
theorem dX8_copy_39 : decode cX8_copy 39 = .ok (.if_icmp .eq 12, 3) := by decide +kernel
theorem dX8_copy_42 : decode cX8_copy 42 = .ok (.aload 7, 2) := by decide +kernel
theorem dX8_copy_44 : decode cX8_copy 44 = .ok (.getfield 158, 3) := by decide +kernel
theorem dX8_copy_47 : decode cX8_copy 47 = .ok (.iconst (-1), 1) := by decide +kernel
theorem dX8_copy_48 : decode cX8_copy 48 = .ok (.if_icmp .ne 9, 3) := by decide +kernel
theorem dX8_copy_51 : decode cX8_copy 51 = .ok (.aload_n 0, 1) := by decide +kernel
theorem dX8_copy_52 : decode cX8_copy 52 = .ok (.iconst 1, 1) := by decide +kernel
theorem dX8_copy_53 : decode cX8_copy 53 = .ok (.invokevirtual 161, 3) := by decide +kernel
theorem dX8_copy_56 : decode cX8_copy 56 = .ok (.ireturn, 1) := by decide +kernel
theorem dX8_copy_57 : decode cX8_copy 57 = .ok (.aload 6, 2) := by decide +kernel
theorem dX8_copy_59 : decode cX8_copy 59 = .ok (.getfield 158, 3) := by decide +kernel
theorem dX8_copy_62 : decode cX8_copy 62 = .ok (.aload 7, 2) := by decide +kernel
theorem dX8_copy_64 : decode cX8_copy 64 = .ok (.getfield 158, 3) := by decide +kernel
theorem dX8_copy_67 : decode cX8_copy 67 = .ok (.if_icmp .eq 9, 3) := by decide +kernel
theorem dX8_copy_70 : decode cX8_copy 70 = .ok (.aload_n 0, 1) := by decide +kernel
theorem dX8_copy_71 : decode cX8_copy 71 = .ok (.iconst 4, 1) := by decide +kernel
theorem dX8_copy_72 : decode cX8_copy 72 = .ok (.invokevirtual 161, 3) := by decide +kernel
theorem dX8_copy_75 : decode cX8_copy 75 = .ok (.ireturn, 1) := by decide +kernel
theorem dX8_copy_76 : decode cX8_copy 76 = .ok (.aload 6, 2) := by decide +kernel
theorem dX8_copy_78 : decode cX8_copy 78 = .ok (.iload_n 2, 1) := by decide +kernel
theorem dX8_copy_79 : decode cX8_copy 79 = .ok (.iload 5, 2) := by decide +kernel
theorem dX8_copy_81 : decode cX8_copy 81 = .ok (.invokevirtual 273, 3) := by decide +kernel
theorem dX8_copy_84 : decode cX8_copy 84 = .ok (.ifCond .eq 15, 3) := by decide +kernel
theorem dX8_copy_87 : decode cX8_copy 87 = .ok (.aload 7, 2) := by decide +kernel
theorem dX8_copy_89 : decode cX8_copy 89 = .ok (.iload 4, 2) := by decide +kernel
theorem dX8_copy_91 : decode cX8_copy 91 = .ok (.iload 5, 2) := by decide +kernel
theorem dX8_copy_93 : decode cX8_copy 93 = .ok (.invokevirtual 273, 3) := by decide +kernel
theorem dX8_copy_96 : decode cX8_copy 96 = .ok (.ifCond .ne 9, 3) := by decide +kernel
theorem dX8_copy_99 : decode cX8_copy 99 = .ok (.aload_n 0, 1) := by decide +kernel
theorem dX8_copy_100 : decode cX8_copy 100 = .ok (.iconst 2, 1) := by decide +kernel
theorem dX8_copy_101 : decode cX8_copy 101 = .ok (.invokevirtual 161, 3) := by decide +kernel
theorem dX8_copy_104 : decode cX8_copy 104 = .ok (.ireturn, 1) := by decide +kernel
theorem dX8_copy_105 : decode cX8_copy 105 = .ok (.aload 6, 2) := by decide +kernel
theorem dX8_copy_107 : decode cX8_copy 107 = .ok (.getfield 168, 3) := by decide +kernel
theorem dX8_copy_110 : decode cX8_copy 110 = .ok (.iload_n 2, 1) := by decide +kernel
theorem dX8_copy_111 : decode cX8_copy 111 = .ok (.aload 7, 2) := by decide +kernel
theorem dX8_copy_113 : decode cX8_copy 113 = .ok (.getfield 168, 3) := by decide +kernel
theorem dX8_copy_116 : decode cX8_copy 116 = .ok (.iload 4, 2) := by decide +kernel
theorem dX8_copy_118 : decode cX8_copy 118 = .ok (.iload 5, 2) := by decide +kernel
theorem dX8_copy_120 : decode cX8_copy 120 = .ok (.invokestatic 276, 3) := by decide +kernel
theorem dX8_copy_123 : decode cX8_copy 123 = .ok (.iconst 1, 1) := by decide +kernel
theorem dX8_copy_124 : decode cX8_copy 124 = .ok (.ireturn, 1) := by decide +kernel
theorem dX8_write_0 : decode cX8_write 0 = .ok (.iload_n 1, 1) := by decide +kernel
theorem dX8_write_1 : decode cX8_write 1 = .ok (.invokestatic 148, 3) := by decide +kernel
theorem dX8_write_4 : decode cX8_write 4 = .ok (.ifCond .eq 10, 3) := by decide +kernel
theorem dX8_write_7 : decode cX8_write 7 = .ok (.iload_n 2, 1) := by decide +kernel
theorem dX8_write_8 : decode cX8_write 8 = .ok (.invokestatic 155, 3) := by decide +kernel
theorem dX8_write_11 : decode cX8_write 11 = .ok (.ifCond .ne 6, 3) := by decide +kernel
theorem dX8_write_14 : decode cX8_write 14 = .ok (.bipush (-2), 2) := by decide +kernel
theorem dX8_write_16 : decode cX8_write 16 = .ok (.ireturn, 1) := by decide +kernel
theorem dX8_write_17 : decode cX8_write 17 = .ok (.aload_n 0, 1) := by decide +kernel
theorem dX8_write_18 : decode cX8_write 18 = .ok (.getfield 61, 3) := by decide +kernel
theorem dX8_write_21 : decode cX8_write 21 = .ok (.iload_n 2, 1) := by decide +kernel
theorem dX8_write_22 : decode cX8_write 22 = .ok (.aaload, 1) := by decide +kernel
theorem dX8_write_23 : decode cX8_write 23 = .ok (.astore_n 3, 1) := by decide +kernel
theorem dX8_write_24 : decode cX8_write 24 = .ok (.aload_n 3, 1) := by decide +kernel
theorem dX8_write_25 : decode cX8_write 25 = .ok (.getfield 158, 3) := by decide +kernel
theorem dX8_write_28 : decode cX8_write 28 = .ok (.iconst (-1), 1) := by decide +kernel
theorem dX8_write_29 : decode cX8_write 29 = .ok (.if_icmp .ne 9, 3) := by decide +kernel
theorem dX8_write_32 : decode cX8_write 32 = .ok (.aload_n 0, 1) := by decide +kernel
theorem dX8_write_33 : decode cX8_write 33 = .ok (.iconst 1, 1) := by decide +kernel
theorem dX8_write_34 : decode cX8_write 34 = .ok (.invokevirtual 161, 3) := by decide +kernel
theorem dX8_write_37 : decode cX8_write 37 = .ok (.ireturn, 1) := by decide +kernel
theorem dX8_write_38 : decode cX8_write 38 = .ok (.aload_n 3, 1) := by decide +kernel
theorem dX8_write_39 : decode cX8_write 39 = .ok (.getfield 165, 3) := by decide +kernel
theorem dX8_write_42 : decode cX8_write 42 = .ok (.aload_n 0, 1) := by decide +kernel
theorem dX8_write_43 : decode cX8_write 43 = .ok (.getfield 24, 3) := by decide +kernel
theorem dX8_write_46 : decode cX8_write 46 = .ok (.getfield 182, 3) := by decide +kernel
theorem dX8_write_49 : decode cX8_write 49 = .ok (.invokestatic 282, 3) := by decide +kernel
theorem dX8_write_52 : decode cX8_write 52 = .ok (.istore 4, 2) := by decide +kernel
theorem dX8_write_54 : decode cX8_write 54 = .ok (.aload_n 0, 1) := by decide +kernel
theorem dX8_write_55 : decode cX8_write 55 = .ok (.invokevirtual 171, 3) := by decide +kernel
theorem dX8_write_58 : decode cX8_write 58 = .ok (.astore 5, 2) := by decide +kernel
theorem dX8_write_60 : decode cX8_write 60 = .ok (.iconst 0, 1) := by decide +kernel
theorem dX8_write_61 : decode cX8_write 61 = .ok (.istore 6, 2) := by decide +kernel
theorem dX8_write_63 : decode cX8_write 63 = .ok (.iload 6, 2) := by decide +kernel
theorem dX8_write_65 : decode cX8_write 65 = .ok (.iload 4, 2) := by decide +kernel
theorem dX8_write_67 : decode cX8_write 67 = .ok (.if_icmp .ge 24, 3) := by decide +kernel
theorem dX8_write_70 : decode cX8_write 70 = .ok (.aload_n 3, 1) := by decide +kernel
theorem dX8_write_71 : decode cX8_write 71 = .ok (.getfield 168, 3) := by decide +kernel
theorem dX8_write_74 : decode cX8_write 74 = .ok (.iload 6, 2) := by decide +kernel
theorem dX8_write_76 : decode cX8_write 76 = .ok (.aload 5, 2) := by decide +kernel
theorem dX8_write_78 : decode cX8_write 78 = .ok (.iload_n 1, 1) := by decide +kernel
theorem dX8_write_79 : decode cX8_write 79 = .ok (.iload 6, 2) := by decide +kernel
theorem dX8_write_81 : decode cX8_write 81 = .ok (.invokevirtual 185, 3) := by decide +kernel
theorem dX8_write_84 : decode cX8_write 84 = .ok (.iastore, 1) := by decide +kernel
theorem dX8_write_85 : decode cX8_write 85 = .ok (.iinc 6 1, 3) := by decide +kernel
theorem dX8_write_88 : decode cX8_write 88 = .ok (.goto (-25), 3) := by decide +kernel
theorem dX8_write_91 : decode cX8_write 91 = .ok (.iload 4, 2) := by decide +kernel
theorem dX8_write_93 : decode cX8_write 93 = .ok (.ireturn, 1) := by decide +kernel
theorem dX8_count_0 : decode cX8_count 0 = .ok (.iload_n 1, 1) := by decide +kernel
theorem dX8_count_1 : decode cX8_count 1 = .ok (.tableswitch 126 0 8 #[51, 65, 73, 81, 89, 97, 105, 113, 121], 51) := by decide +kernel
theorem dX8_count_52 : decode cX8_count 52 = .ok (.aload_n 0, 1) := by decide +kernel
theorem dX8_count_53 : decode cX8_count 53 = .ok (.getfield 24, 3) := by decide +kernel
theorem dX8_count_56 : decode cX8_count 56 = .ok (.getfield 119, 3) := by decide +kernel
theorem dX8_count_59 : decode cX8_count 59 = .ok (.invokestatic 218, 3) := by decide +kernel
theorem dX8_count_62 : decode cX8_count 62 = .ok (.invokestatic 228, 3) := by decide +kernel
theorem dX8_count_65 : decode cX8_count 65 = .ok (.ireturn, 1) := by decide +kernel
theorem dX8_count_66 : decode cX8_count 66 = .ok (.aload_n 0, 1) := by decide +kernel
theorem dX8_count_67 : decode cX8_count 67 = .ok (.getfield 31, 3) := by decide +kernel
theorem dX8_count_70 : decode cX8_count 70 = .ok (.getfield 204, 3) := by decide +kernel
theorem dX8_count_73 : decode cX8_count 73 = .ok (.ireturn, 1) := by decide +kernel
theorem dX8_count_74 : decode cX8_count 74 = .ok (.aload_n 0, 1) := by decide +kernel
theorem dX8_count_75 : decode cX8_count 75 = .ok (.getfield 14, 3) := by decide +kernel
theorem dX8_count_78 : decode cX8_count 78 = .ok (.getfield 102, 3) := by decide +kernel
theorem dX8_count_81 : decode cX8_count 81 = .ok (.ireturn, 1) := by decide +kernel
theorem dX8_count_82 : decode cX8_count 82 = .ok (.aload_n 0, 1) := by decide +kernel
theorem dX8_count_83 : decode cX8_count 83 = .ok (.getfield 18, 3) := by decide +kernel
theorem dX8_count_86 : decode cX8_count 86 = .ok (.getfield 102, 3) := by decide +kernel
theorem dX8_count_89 : decode cX8_count 89 = .ok (.ireturn, 1) := by decide +kernel
theorem dX8_count_90 : decode cX8_count 90 = .ok (.aload_n 0, 1) := by decide +kernel
theorem dX8_count_91 : decode cX8_count 91 = .ok (.getfield 38, 3) := by decide +kernel
theorem dX8_count_94 : decode cX8_count 94 = .ok (.getfield 142, 3) := by decide +kernel
theorem dX8_count_97 : decode cX8_count 97 = .ok (.ireturn, 1) := by decide +kernel
theorem dX8_count_98 : decode cX8_count 98 = .ok (.aload_n 0, 1) := by decide +kernel
theorem dX8_count_99 : decode cX8_count 99 = .ok (.getfield 48, 3) := by decide +kernel
theorem dX8_count_102 : decode cX8_count 102 = .ok (.getfield 151, 3) := by decide +kernel
theorem dX8_count_105 : decode cX8_count 105 = .ok (.ireturn, 1) := by decide +kernel
theorem dX8_count_106 : decode cX8_count 106 = .ok (.aload_n 0, 1) := by decide +kernel
theorem dX8_count_107 : decode cX8_count 107 = .ok (.invokevirtual 171, 3) := by decide +kernel
theorem dX8_count_110 : decode cX8_count 110 = .ok (.invokevirtual 215, 3) := by decide +kernel
theorem dX8_count_113 : decode cX8_count 113 = .ok (.ireturn, 1) := by decide +kernel
theorem dX8_count_114 : decode cX8_count 114 = .ok (.aload_n 0, 1) := by decide +kernel
theorem dX8_count_115 : decode cX8_count 115 = .ok (.getfield 55, 3) := by decide +kernel
theorem dX8_count_118 : decode cX8_count 118 = .ok (.getfield 234, 3) := by decide +kernel
theorem dX8_count_121 : decode cX8_count 121 = .ok (.ireturn, 1) := by decide +kernel
theorem dX8_count_122 : decode cX8_count 122 = .ok (.aload_n 0, 1) := by decide +kernel
theorem dX8_count_123 : decode cX8_count 123 = .ok (.getfield 85, 3) := by decide +kernel
theorem dX8_count_126 : decode cX8_count 126 = .ok (.ireturn, 1) := by decide +kernel
theorem dX8_count_127 : decode cX8_count 127 = .ok (.bipush (-2), 2) := by decide +kernel
theorem dX8_count_129 : decode cX8_count 129 = .ok (.ireturn, 1) := by decide +kernel
theorem dX8_digest_0 : decode cX8_digest 0 = .ok (.ldc2_w 287, 3) := by decide +kernel
theorem dX8_digest_3 : decode cX8_digest 3 = .ok (.lstore_n 1, 1) := by decide +kernel
theorem dX8_digest_4 : decode cX8_digest 4 = .ok (.iconst 0, 1) := by decide +kernel
theorem dX8_digest_5 : decode cX8_digest 5 = .ok (.istore_n 3, 1) := by decide +kernel
theorem dX8_digest_6 : decode cX8_digest 6 = .ok (.iload_n 3, 1) := by decide +kernel
theorem dX8_digest_7 : decode cX8_digest 7 = .ok (.bipush 7, 2) := by decide +kernel
theorem dX8_digest_9 : decode cX8_digest 9 = .ok (.if_icmp .gt 22, 3) := by decide +kernel
theorem dX8_digest_12 : decode cX8_digest 12 = .ok (.ldc2_w 289, 3) := by decide +kernel
theorem dX8_digest_15 : decode cX8_digest 15 = .ok (.lload_n 1, 1) := by decide +kernel
theorem dX8_digest_16 : decode cX8_digest 16 = .ok (.lmul, 1) := by decide +kernel
theorem dX8_digest_17 : decode cX8_digest 17 = .ok (.aload_n 0, 1) := by decide +kernel
theorem dX8_digest_18 : decode cX8_digest 18 = .ok (.iload_n 3, 1) := by decide +kernel
theorem dX8_digest_19 : decode cX8_digest 19 = .ok (.invokevirtual 291, 3) := by decide +kernel
theorem dX8_digest_22 : decode cX8_digest 22 = .ok (.i2l, 1) := by decide +kernel
theorem dX8_digest_23 : decode cX8_digest 23 = .ok (.ladd, 1) := by decide +kernel
theorem dX8_digest_24 : decode cX8_digest 24 = .ok (.lstore_n 1, 1) := by decide +kernel
theorem dX8_digest_25 : decode cX8_digest 25 = .ok (.iinc 3 1, 3) := by decide +kernel
theorem dX8_digest_28 : decode cX8_digest 28 = .ok (.goto (-22), 3) := by decide +kernel
theorem dX8_digest_31 : decode cX8_digest 31 = .ok (.ldc2_w 289, 3) := by decide +kernel
theorem dX8_digest_34 : decode cX8_digest 34 = .ok (.lload_n 1, 1) := by decide +kernel
theorem dX8_digest_35 : decode cX8_digest 35 = .ok (.lmul, 1) := by decide +kernel
theorem dX8_digest_36 : decode cX8_digest 36 = .ok (.aload_n 0, 1) := by decide +kernel
theorem dX8_digest_37 : decode cX8_digest 37 = .ok (.iconst 0, 1) := by decide +kernel
theorem dX8_digest_38 : decode cX8_digest 38 = .ok (.invokevirtual 294, 3) := by decide +kernel
theorem dX8_digest_41 : decode cX8_digest 41 = .ok (.i2l, 1) := by decide +kernel
theorem dX8_digest_42 : decode cX8_digest 42 = .ok (.ladd, 1) := by decide +kernel
theorem dX8_digest_43 : decode cX8_digest 43 = .ok (.lstore_n 1, 1) := by decide +kernel
theorem dX8_digest_44 : decode cX8_digest 44 = .ok (.ldc2_w 289, 3) := by decide +kernel
theorem dX8_digest_47 : decode cX8_digest 47 = .ok (.lload_n 1, 1) := by decide +kernel
theorem dX8_digest_48 : decode cX8_digest 48 = .ok (.lmul, 1) := by decide +kernel
theorem dX8_digest_49 : decode cX8_digest 49 = .ok (.aload_n 0, 1) := by decide +kernel
theorem dX8_digest_50 : decode cX8_digest 50 = .ok (.iconst 1, 1) := by decide +kernel
theorem dX8_digest_51 : decode cX8_digest 51 = .ok (.invokevirtual 294, 3) := by decide +kernel
theorem dX8_digest_54 : decode cX8_digest 54 = .ok (.i2l, 1) := by decide +kernel
theorem dX8_digest_55 : decode cX8_digest 55 = .ok (.ladd, 1) := by decide +kernel
theorem dX8_digest_56 : decode cX8_digest 56 = .ok (.lstore_n 1, 1) := by decide +kernel
theorem dX8_digest_57 : decode cX8_digest 57 = .ok (.iconst 0, 1) := by decide +kernel
theorem dX8_digest_58 : decode cX8_digest 58 = .ok (.istore_n 3, 1) := by decide +kernel
theorem dX8_digest_59 : decode cX8_digest 59 = .ok (.iload_n 3, 1) := by decide +kernel
theorem dX8_digest_60 : decode cX8_digest 60 = .ok (.iconst 5, 1) := by decide +kernel
theorem dX8_digest_61 : decode cX8_digest 61 = .ok (.if_icmp .ge 125, 3) := by decide +kernel
theorem dX8_digest_64 : decode cX8_digest 64 = .ok (.iconst 0, 1) := by decide +kernel
theorem dX8_digest_65 : decode cX8_digest 65 = .ok (.istore 4, 2) := by decide +kernel
theorem dX8_digest_67 : decode cX8_digest 67 = .ok (.iload 4, 2) := by decide +kernel
theorem dX8_digest_69 : decode cX8_digest 69 = .ok (.bipush 8, 2) := by decide +kernel
theorem dX8_digest_71 : decode cX8_digest 71 = .ok (.if_icmp .ge 109, 3) := by decide +kernel
theorem dX8_digest_74 : decode cX8_digest 74 = .ok (.ldc2_w 289, 3) := by decide +kernel
theorem dX8_digest_77 : decode cX8_digest 77 = .ok (.lload_n 1, 1) := by decide +kernel
theorem dX8_digest_78 : decode cX8_digest 78 = .ok (.lmul, 1) := by decide +kernel
theorem dX8_digest_79 : decode cX8_digest 79 = .ok (.aload_n 0, 1) := by decide +kernel
theorem dX8_digest_80 : decode cX8_digest 80 = .ok (.iload_n 3, 1) := by decide +kernel
theorem dX8_digest_81 : decode cX8_digest 81 = .ok (.iload 4, 2) := by decide +kernel
theorem dX8_digest_83 : decode cX8_digest 83 = .ok (.invokevirtual 296, 3) := by decide +kernel
theorem dX8_digest_86 : decode cX8_digest 86 = .ok (.i2l, 1) := by decide +kernel
theorem dX8_digest_87 : decode cX8_digest 87 = .ok (.ladd, 1) := by decide +kernel
theorem dX8_digest_88 : decode cX8_digest 88 = .ok (.lstore_n 1, 1) := by decide +kernel
theorem dX8_digest_89 : decode cX8_digest 89 = .ok (.ldc2_w 289, 3) := by decide +kernel
theorem dX8_digest_92 : decode cX8_digest 92 = .ok (.lload_n 1, 1) := by decide +kernel
theorem dX8_digest_93 : decode cX8_digest 93 = .ok (.lmul, 1) := by decide +kernel
theorem dX8_digest_94 : decode cX8_digest 94 = .ok (.aload_n 0, 1) := by decide +kernel
theorem dX8_digest_95 : decode cX8_digest 95 = .ok (.iconst 0, 1) := by decide +kernel
theorem dX8_digest_96 : decode cX8_digest 96 = .ok (.iload_n 3, 1) := by decide +kernel
theorem dX8_digest_97 : decode cX8_digest 97 = .ok (.iload 4, 2) := by decide +kernel
theorem dX8_digest_99 : decode cX8_digest 99 = .ok (.iconst 0, 1) := by decide +kernel
theorem dX8_digest_100 : decode cX8_digest 100 = .ok (.invokevirtual 299, 3) := by decide +kernel
theorem dX8_digest_103 : decode cX8_digest 103 = .ok (.i2l, 1) := by decide +kernel
theorem dX8_digest_104 : decode cX8_digest 104 = .ok (.ladd, 1) := by decide +kernel
theorem dX8_digest_105 : decode cX8_digest 105 = .ok (.lstore_n 1, 1) := by decide +kernel
theorem dX8_digest_106 : decode cX8_digest 106 = .ok (.ldc2_w 289, 3) := by decide +kernel
theorem dX8_digest_109 : decode cX8_digest 109 = .ok (.lload_n 1, 1) := by decide +kernel
theorem dX8_digest_110 : decode cX8_digest 110 = .ok (.lmul, 1) := by decide +kernel
theorem dX8_digest_111 : decode cX8_digest 111 = .ok (.aload_n 0, 1) := by decide +kernel
theorem dX8_digest_112 : decode cX8_digest 112 = .ok (.iconst 0, 1) := by decide +kernel
theorem dX8_digest_113 : decode cX8_digest 113 = .ok (.iload_n 3, 1) := by decide +kernel
theorem dX8_digest_114 : decode cX8_digest 114 = .ok (.iload 4, 2) := by decide +kernel
theorem dX8_digest_116 : decode cX8_digest 116 = .ok (.iconst 1, 1) := by decide +kernel
theorem dX8_digest_117 : decode cX8_digest 117 = .ok (.invokevirtual 299, 3) := by decide +kernel
theorem dX8_digest_120 : decode cX8_digest 120 = .ok (.i2l, 1) := by decide +kernel
theorem dX8_digest_121 : decode cX8_digest 121 = .ok (.ladd, 1) := by decide +kernel
theorem dX8_digest_122 : decode cX8_digest 122 = .ok (.lstore_n 1, 1) := by decide +kernel
theorem dX8_digest_123 : decode cX8_digest 123 = .ok (.ldc2_w 289, 3) := by decide +kernel
theorem dX8_digest_126 : decode cX8_digest 126 = .ok (.lload_n 1, 1) := by decide +kernel
theorem dX8_digest_127 : decode cX8_digest 127 = .ok (.lmul, 1) := by decide +kernel
theorem dX8_digest_128 : decode cX8_digest 128 = .ok (.aload_n 0, 1) := by decide +kernel
theorem dX8_digest_129 : decode cX8_digest 129 = .ok (.bipush 19, 2) := by decide +kernel
theorem dX8_digest_131 : decode cX8_digest 131 = .ok (.iload_n 3, 1) := by decide +kernel
theorem dX8_digest_132 : decode cX8_digest 132 = .ok (.iload 4, 2) := by decide +kernel
theorem dX8_digest_134 : decode cX8_digest 134 = .ok (.iconst 0, 1) := by decide +kernel
theorem dX8_digest_135 : decode cX8_digest 135 = .ok (.invokevirtual 299, 3) := by decide +kernel
theorem dX8_digest_138 : decode cX8_digest 138 = .ok (.i2l, 1) := by decide +kernel
theorem dX8_digest_139 : decode cX8_digest 139 = .ok (.ladd, 1) := by decide +kernel
theorem dX8_digest_140 : decode cX8_digest 140 = .ok (.lstore_n 1, 1) := by decide +kernel
theorem dX8_digest_141 : decode cX8_digest 141 = .ok (.ldc2_w 289, 3) := by decide +kernel
theorem dX8_digest_144 : decode cX8_digest 144 = .ok (.lload_n 1, 1) := by decide +kernel
theorem dX8_digest_145 : decode cX8_digest 145 = .ok (.lmul, 1) := by decide +kernel
theorem dX8_digest_146 : decode cX8_digest 146 = .ok (.aload_n 0, 1) := by decide +kernel
theorem dX8_digest_147 : decode cX8_digest 147 = .ok (.bipush 19, 2) := by decide +kernel
theorem dX8_digest_149 : decode cX8_digest 149 = .ok (.iload_n 3, 1) := by decide +kernel
theorem dX8_digest_150 : decode cX8_digest 150 = .ok (.iload 4, 2) := by decide +kernel
theorem dX8_digest_152 : decode cX8_digest 152 = .ok (.iconst 1, 1) := by decide +kernel
theorem dX8_digest_153 : decode cX8_digest 153 = .ok (.invokevirtual 299, 3) := by decide +kernel
theorem dX8_digest_156 : decode cX8_digest 156 = .ok (.i2l, 1) := by decide +kernel
theorem dX8_digest_157 : decode cX8_digest 157 = .ok (.ladd, 1) := by decide +kernel
theorem dX8_digest_158 : decode cX8_digest 158 = .ok (.lstore_n 1, 1) := by decide +kernel
theorem dX8_digest_159 : decode cX8_digest 159 = .ok (.ldc2_w 289, 3) := by decide +kernel
theorem dX8_digest_162 : decode cX8_digest 162 = .ok (.lload_n 1, 1) := by decide +kernel
theorem dX8_digest_163 : decode cX8_digest 163 = .ok (.lmul, 1) := by decide +kernel
theorem dX8_digest_164 : decode cX8_digest 164 = .ok (.aload_n 0, 1) := by decide +kernel
theorem dX8_digest_165 : decode cX8_digest 165 = .ok (.iload_n 3, 1) := by decide +kernel
theorem dX8_digest_166 : decode cX8_digest 166 = .ok (.iload 4, 2) := by decide +kernel
theorem dX8_digest_168 : decode cX8_digest 168 = .ok (.invokevirtual 303, 3) := by decide +kernel
theorem dX8_digest_171 : decode cX8_digest 171 = .ok (.i2l, 1) := by decide +kernel
theorem dX8_digest_172 : decode cX8_digest 172 = .ok (.ladd, 1) := by decide +kernel
theorem dX8_digest_173 : decode cX8_digest 173 = .ok (.lstore_n 1, 1) := by decide +kernel
