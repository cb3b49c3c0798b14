theorem dX0_init_0 : decode cX0_init 0 = .ok (.aload_n 0, 1) := by decide +kernel
theorem dX0_init_1 : decode cX0_init 1 = .ok (.invokespecial 3, 3) := by decide +kernel
theorem dX0_init_4 : decode cX0_init 4 = .ok (.aload_n 0, 1) := by decide +kernel
theorem dX0_init_5 : decode cX0_init 5 = .ok (.bipush 6, 2) := by decide +kernel
theorem dX0_init_7 : decode cX0_init 7 = .ok (.newarray .int, 2) := by decide +kernel
theorem dX0_init_9 : decode cX0_init 9 = .ok (.putfield 9, 3) := by decide +kernel
theorem dX0_init_12 : decode cX0_init 12 = .ok (.aload_n 0, 1) := by decide +kernel
theorem dX0_init_13 : decode cX0_init 13 = .ok (.bipush 6, 2) := by decide +kernel
theorem dX0_init_15 : decode cX0_init 15 = .ok (.newarray .int, 2) := by decide +kernel
theorem dX0_init_17 : decode cX0_init 17 = .ok (.putfield 15, 3) := by decide +kernel
theorem dX0_init_20 : decode cX0_init 20 = .ok (.return_, 1) := by decide +kernel
theorem dX0_mayBe_0 : decode cX0_mayBe 0 = .ok (.iload_n 0, 1) := by decide +kernel
theorem dX0_mayBe_1 : decode cX0_mayBe 1 = .ok (.invokestatic 18, 3) := by decide +kernel
theorem dX0_mayBe_4 : decode cX0_mayBe 4 = .ok (.ifCond .eq 17, 3) := by decide +kernel
theorem dX0_mayBe_7 : decode cX0_mayBe 7 = .ok (.iload_n 1, 1) := by decide +kernel
theorem dX0_mayBe_8 : decode cX0_mayBe 8 = .ok (.iconst 1, 1) := by decide +kernel
theorem dX0_mayBe_9 : decode cX0_mayBe 9 = .ok (.bipush 15, 2) := by decide +kernel
theorem dX0_mayBe_11 : decode cX0_mayBe 11 = .ok (.invokestatic 22, 3) := by decide +kernel
theorem dX0_mayBe_14 : decode cX0_mayBe 14 = .ok (.ifCond .eq 7, 3) := by decide +kernel
theorem dX0_mayBe_17 : decode cX0_mayBe 17 = .ok (.iconst 1, 1) := by decide +kernel
theorem dX0_mayBe_18 : decode cX0_mayBe 18 = .ok (.goto 4, 3) := by decide +kernel
theorem dX0_mayBe_21 : decode cX0_mayBe 21 = .ok (.iconst 0, 1) := by decide +kernel
theorem dX0_mayBe_22 : decode cX0_mayBe 22 = .ok (.ireturn, 1) := by decide +kernel
theorem dX0_add_0 : decode cX0_add 0 = .ok (.aload_n 0, 1) := by decide +kernel
theorem dX0_add_1 : decode cX0_add 1 = .ok (.getfield 26, 3) := by decide +kernel
theorem dX0_add_4 : decode cX0_add 4 = .ok (.bipush 6, 2) := by decide +kernel
theorem dX0_add_6 : decode cX0_add 6 = .ok (.if_icmp .ge 33, 3) := by decide +kernel
theorem dX0_add_9 : decode cX0_add 9 = .ok (.aload_n 0, 1) := by decide +kernel
theorem dX0_add_10 : decode cX0_add 10 = .ok (.getfield 9, 3) := by decide +kernel
theorem dX0_add_13 : decode cX0_add 13 = .ok (.aload_n 0, 1) := by decide +kernel
theorem dX0_add_14 : decode cX0_add 14 = .ok (.getfield 26, 3) := by decide +kernel
theorem dX0_add_17 : decode cX0_add 17 = .ok (.iload_n 1, 1) := by decide +kernel
theorem dX0_add_18 : decode cX0_add 18 = .ok (.iastore, 1) := by decide +kernel
theorem dX0_add_19 : decode cX0_add 19 = .ok (.aload_n 0, 1) := by decide +kernel
theorem dX0_add_20 : decode cX0_add 20 = .ok (.getfield 15, 3) := by decide +kernel
theorem dX0_add_23 : decode cX0_add 23 = .ok (.aload_n 0, 1) := by decide +kernel
theorem dX0_add_24 : decode cX0_add 24 = .ok (.getfield 26, 3) := by decide +kernel
theorem dX0_add_27 : decode cX0_add 27 = .ok (.iload_n 2, 1) := by decide +kernel
theorem dX0_add_28 : decode cX0_add 28 = .ok (.iastore, 1) := by decide +kernel
theorem dX0_add_29 : decode cX0_add 29 = .ok (.aload_n 0, 1) := by decide +kernel
theorem dX0_add_30 : decode cX0_add 30 = .ok (.dup, 1) := by decide +kernel
theorem dX0_add_31 : decode cX0_add 31 = .ok (.getfield 26, 3) := by decide +kernel
theorem dX0_add_34 : decode cX0_add 34 = .ok (.iconst 1, 1) := by decide +kernel
theorem dX0_add_35 : decode cX0_add 35 = .ok (.iadd, 1) := by decide +kernel
theorem dX0_add_36 : decode cX0_add 36 = .ok (.putfield 26, 3) := by decide +kernel
theorem dX0_add_39 : decode cX0_add 39 = .ok (.return_, 1) := by decide +kernel
theorem dX1_init_0 : decode cX1_init 0 = .ok (.aload_n 0, 1) := by decide +kernel
theorem dX1_init_1 : decode cX1_init 1 = .ok (.invokespecial 3, 3) := by decide +kernel
theorem dX1_init_4 : decode cX1_init 4 = .ok (.aload_n 0, 1) := by decide +kernel
theorem dX1_init_5 : decode cX1_init 5 = .ok (.bipush 7, 2) := by decide +kernel
theorem dX1_init_7 : decode cX1_init 7 = .ok (.newarray .int, 2) := by decide +kernel
theorem dX1_init_9 : decode cX1_init 9 = .ok (.putfield 9, 3) := by decide +kernel
theorem dX1_init_12 : decode cX1_init 12 = .ok (.aload_n 0, 1) := by decide +kernel
theorem dX1_init_13 : decode cX1_init 13 = .ok (.bipush 7, 2) := by decide +kernel
theorem dX1_init_15 : decode cX1_init 15 = .ok (.newarray .int, 2) := by decide +kernel
theorem dX1_init_17 : decode cX1_init 17 = .ok (.putfield 15, 3) := by decide +kernel
theorem dX1_init_20 : decode cX1_init 20 = .ok (.aload_n 0, 1) := by decide +kernel
theorem dX1_init_21 : decode cX1_init 21 = .ok (.bipush 7, 2) := by decide +kernel
theorem dX1_init_23 : decode cX1_init 23 = .ok (.newarray .int, 2) := by decide +kernel
theorem dX1_init_25 : decode cX1_init 25 = .ok (.putfield 18, 3) := by decide +kernel
theorem dX1_init_28 : decode cX1_init 28 = .ok (.return_, 1) := by decide +kernel
theorem dX1_add_0 : decode cX1_add 0 = .ok (.aload_n 0, 1) := by decide +kernel
theorem dX1_add_1 : decode cX1_add 1 = .ok (.getfield 21, 3) := by decide +kernel
theorem dX1_add_4 : decode cX1_add 4 = .ok (.bipush 6, 2) := by decide +kernel
theorem dX1_add_6 : decode cX1_add 6 = .ok (.if_icmp .gt 43, 3) := by decide +kernel
theorem dX1_add_9 : decode cX1_add 9 = .ok (.aload_n 0, 1) := by decide +kernel
theorem dX1_add_10 : decode cX1_add 10 = .ok (.getfield 9, 3) := by decide +kernel
theorem dX1_add_13 : decode cX1_add 13 = .ok (.aload_n 0, 1) := by decide +kernel
theorem dX1_add_14 : decode cX1_add 14 = .ok (.getfield 21, 3) := by decide +kernel
theorem dX1_add_17 : decode cX1_add 17 = .ok (.iload_n 1, 1) := by decide +kernel
theorem dX1_add_18 : decode cX1_add 18 = .ok (.iastore, 1) := by decide +kernel
theorem dX1_add_19 : decode cX1_add 19 = .ok (.aload_n 0, 1) := by decide +kernel
theorem dX1_add_20 : decode cX1_add 20 = .ok (.getfield 15, 3) := by decide +kernel
theorem dX1_add_23 : decode cX1_add 23 = .ok (.aload_n 0, 1) := by decide +kernel
theorem dX1_add_24 : decode cX1_add 24 = .ok (.getfield 21, 3) := by decide +kernel
theorem dX1_add_27 : decode cX1_add 27 = .ok (.iload_n 2, 1) := by decide +kernel
theorem dX1_add_28 : decode cX1_add 28 = .ok (.iastore, 1) := by decide +kernel
theorem dX1_add_29 : decode cX1_add 29 = .ok (.aload_n 0, 1) := by decide +kernel
theorem dX1_add_30 : decode cX1_add 30 = .ok (.getfield 18, 3) := by decide +kernel
theorem dX1_add_33 : decode cX1_add 33 = .ok (.aload_n 0, 1) := by decide +kernel
theorem dX1_add_34 : decode cX1_add 34 = .ok (.getfield 21, 3) := by decide +kernel
theorem dX1_add_37 : decode cX1_add 37 = .ok (.iload_n 3, 1) := by decide +kernel
theorem dX1_add_38 : decode cX1_add 38 = .ok (.iastore, 1) := by decide +kernel
theorem dX1_add_39 : decode cX1_add 39 = .ok (.aload_n 0, 1) := by decide +kernel
theorem dX1_add_40 : decode cX1_add 40 = .ok (.dup, 1) := by decide +kernel
theorem dX1_add_41 : decode cX1_add 41 = .ok (.getfield 21, 3) := by decide +kernel
theorem dX1_add_44 : decode cX1_add 44 = .ok (.iconst 1, 1) := by decide +kernel
theorem dX1_add_45 : decode cX1_add 45 = .ok (.iadd, 1) := by decide +kernel
theorem dX1_add_46 : decode cX1_add 46 = .ok (.putfield 21, 3) := by decide +kernel
theorem dX1_add_49 : decode cX1_add 49 = .ok (.return_, 1) := by decide +kernel
theorem dX2_init_0 : decode cX2_init 0 = .ok (.aload_n 0, 1) := by decide +kernel
theorem dX2_init_1 : decode cX2_init 1 = .ok (.invokespecial 3, 3) := by decide +kernel
theorem dX2_init_4 : decode cX2_init 4 = .ok (.aload_n 0, 1) := by decide +kernel
theorem dX2_init_5 : decode cX2_init 5 = .ok (.bipush 8, 2) := by decide +kernel
theorem dX2_init_7 : decode cX2_init 7 = .ok (.newarray .int, 2) := by decide +kernel
theorem dX2_init_9 : decode cX2_init 9 = .ok (.putfield 9, 3) := by decide +kernel
theorem dX2_init_12 : decode cX2_init 12 = .ok (.aload_n 0, 1) := by decide +kernel
theorem dX2_init_13 : decode cX2_init 13 = .ok (.bipush 8, 2) := by decide +kernel
theorem dX2_init_15 : decode cX2_init 15 = .ok (.newarray .int, 2) := by decide +kernel
theorem dX2_init_17 : decode cX2_init 17 = .ok (.putfield 15, 3) := by decide +kernel
theorem dX2_init_20 : decode cX2_init 20 = .ok (.aload_n 0, 1) := by decide +kernel
theorem dX2_init_21 : decode cX2_init 21 = .ok (.iconst (-1), 1) := by decide +kernel
theorem dX2_init_22 : decode cX2_init 22 = .ok (.putfield 18, 3) := by decide +kernel
theorem dX2_init_25 : decode cX2_init 25 = .ok (.return_, 1) := by decide +kernel
theorem dX2_has_0 : decode cX2_has 0 = .ok (.iload_n 1, 1) := by decide +kernel
theorem dX2_has_1 : decode cX2_has 1 = .ok (.iconst 0, 1) := by decide +kernel
theorem dX2_has_2 : decode cX2_has 2 = .ok (.aload_n 0, 1) := by decide +kernel
theorem dX2_has_3 : decode cX2_has 3 = .ok (.getfield 22, 3) := by decide +kernel
theorem dX2_has_6 : decode cX2_has 6 = .ok (.iconst 1, 1) := by decide +kernel
theorem dX2_has_7 : decode cX2_has 7 = .ok (.isub, 1) := by decide +kernel
theorem dX2_has_8 : decode cX2_has 8 = .ok (.invokestatic 25, 3) := by decide +kernel
theorem dX2_has_11 : decode cX2_has 11 = .ok (.ireturn, 1) := by decide +kernel
theorem dX2_tell_0 : decode cX2_tell 0 = .ok (.aload_n 0, 1) := by decide +kernel
theorem dX2_tell_1 : decode cX2_tell 1 = .ok (.aload_n 1, 1) := by decide +kernel
theorem dX2_tell_2 : decode cX2_tell 2 = .ok (.invokestatic 29, 3) := by decide +kernel
theorem dX2_tell_5 : decode cX2_tell 5 = .ok (.putfield 18, 3) := by decide +kernel
theorem dX2_tell_8 : decode cX2_tell 8 = .ok (.aload_n 0, 1) := by decide +kernel
theorem dX2_tell_9 : decode cX2_tell 9 = .ok (.aload_n 0, 1) := by decide +kernel
theorem dX2_tell_10 : decode cX2_tell 10 = .ok (.getfield 18, 3) := by decide +kernel
theorem dX2_tell_13 : decode cX2_tell 13 = .ok (.iconst (-1), 1) := by decide +kernel
theorem dX2_tell_14 : decode cX2_tell 14 = .ok (.if_icmp .ne 14, 3) := by decide +kernel
theorem dX2_tell_17 : decode cX2_tell 17 = .ok (.aload_n 1, 1) := by decide +kernel
theorem dX2_tell_18 : decode cX2_tell 18 = .ok (.getfield 33, 3) := by decide +kernel
theorem dX2_tell_21 : decode cX2_tell 21 = .ok (.iconst 1, 1) := by decide +kernel
theorem dX2_tell_22 : decode cX2_tell 22 = .ok (.iadd, 1) := by decide +kernel
theorem dX2_tell_23 : decode cX2_tell 23 = .ok (.iconst 3, 1) := by decide +kernel
theorem dX2_tell_24 : decode cX2_tell 24 = .ok (.idiv, 1) := by decide +kernel
theorem dX2_tell_25 : decode cX2_tell 25 = .ok (.goto 4, 3) := by decide +kernel
theorem dX2_tell_28 : decode cX2_tell 28 = .ok (.iconst 0, 1) := by decide +kernel
theorem dX2_tell_29 : decode cX2_tell 29 = .ok (.putfield 22, 3) := by decide +kernel
theorem dX2_tell_32 : decode cX2_tell 32 = .ok (.iconst 0, 1) := by decide +kernel
theorem dX2_tell_33 : decode cX2_tell 33 = .ok (.istore_n 2, 1) := by decide +kernel
theorem dX2_tell_34 : decode cX2_tell 34 = .ok (.iload_n 2, 1) := by decide +kernel
theorem dX2_tell_35 : decode cX2_tell 35 = .ok (.aload_n 0, 1) := by decide +kernel
theorem dX2_tell_36 : decode cX2_tell 36 = .ok (.getfield 22, 3) := by decide +kernel
theorem dX2_tell_39 : decode cX2_tell 39 = .ok (.if_icmp .ge 48, 3) := by decide +kernel
theorem dX2_tell_42 : decode cX2_tell 42 = .ok (.aload_n 0, 1) := by decide +kernel
theorem dX2_tell_43 : decode cX2_tell 43 = .ok (.getfield 9, 3) := by decide +kernel
theorem dX2_tell_46 : decode cX2_tell 46 = .ok (.iload_n 2, 1) := by decide +kernel
theorem dX2_tell_47 : decode cX2_tell 47 = .ok (.ldc 38, 2) := by decide +kernel
theorem dX2_tell_49 : decode cX2_tell 49 = .ok (.aload_n 1, 1) := by decide +kernel
theorem dX2_tell_50 : decode cX2_tell 50 = .ok (.getfield 40, 3) := by decide +kernel
theorem dX2_tell_53 : decode cX2_tell 53 = .ok (.iconst 3, 1) := by decide +kernel
theorem dX2_tell_54 : decode cX2_tell 54 = .ok (.iload_n 2, 1) := by decide +kernel
theorem dX2_tell_55 : decode cX2_tell 55 = .ok (.imul, 1) := by decide +kernel
theorem dX2_tell_56 : decode cX2_tell 56 = .ok (.iaload, 1) := by decide +kernel
theorem dX2_tell_57 : decode cX2_tell 57 = .ok (.i2c, 1) := by decide +kernel
theorem dX2_tell_58 : decode cX2_tell 58 = .ok (.invokevirtual 43, 3) := by decide +kernel
theorem dX2_tell_61 : decode cX2_tell 61 = .ok (.iastore, 1) := by decide +kernel
theorem dX2_tell_62 : decode cX2_tell 62 = .ok (.aload_n 0, 1) := by decide +kernel
theorem dX2_tell_63 : decode cX2_tell 63 = .ok (.getfield 15, 3) := by decide +kernel
theorem dX2_tell_66 : decode cX2_tell 66 = .ok (.iload_n 2, 1) := by decide +kernel
theorem dX2_tell_67 : decode cX2_tell 67 = .ok (.aload_n 1, 1) := by decide +kernel
theorem dX2_tell_68 : decode cX2_tell 68 = .ok (.getfield 40, 3) := by decide +kernel
theorem dX2_tell_71 : decode cX2_tell 71 = .ok (.iconst 3, 1) := by decide +kernel
theorem dX2_tell_72 : decode cX2_tell 72 = .ok (.iload_n 2, 1) := by decide +kernel
theorem dX2_tell_73 : decode cX2_tell 73 = .ok (.imul, 1) := by decide +kernel
theorem dX2_tell_74 : decode cX2_tell 74 = .ok (.iconst 1, 1) := by decide +kernel
theorem dX2_tell_75 : decode cX2_tell 75 = .ok (.iadd, 1) := by decide +kernel
theorem dX2_tell_76 : decode cX2_tell 76 = .ok (.iaload, 1) := by decide +kernel
theorem dX2_tell_77 : decode cX2_tell 77 = .ok (.bipush 48, 2) := by decide +kernel
theorem dX2_tell_79 : decode cX2_tell 79 = .ok (.isub, 1) := by decide +kernel
theorem dX2_tell_80 : decode cX2_tell 80 = .ok (.iastore, 1) := by decide +kernel
theorem dX2_tell_81 : decode cX2_tell 81 = .ok (.iinc 2 1, 3) := by decide +kernel
theorem dX2_tell_84 : decode cX2_tell 84 = .ok (.goto (-50), 3) := by decide +kernel
theorem dX2_tell_87 : decode cX2_tell 87 = .ok (.return_, 1) := by decide +kernel
theorem dX2_firstFault_0 : decode cX2_firstFault 0 = .ok (.iconst 0, 1) := by decide +kernel
theorem dX2_firstFault_1 : decode cX2_firstFault 1 = .ok (.istore_n 1, 1) := by decide +kernel
theorem dX2_firstFault_2 : decode cX2_firstFault 2 = .ok (.iload_n 1, 1) := by decide +kernel
theorem dX2_firstFault_3 : decode cX2_firstFault 3 = .ok (.aload_n 0, 1) := by decide +kernel
theorem dX2_firstFault_4 : decode cX2_firstFault 4 = .ok (.getfield 33, 3) := by decide +kernel
theorem dX2_firstFault_7 : decode cX2_firstFault 7 = .ok (.if_icmp .ge 76, 3) := by decide +kernel
theorem dX2_firstFault_10 : decode cX2_firstFault 10 = .ok (.aload_n 0, 1) := by decide +kernel
theorem dX2_firstFault_11 : decode cX2_firstFault 11 = .ok (.getfield 40, 3) := by decide +kernel
theorem dX2_firstFault_14 : decode cX2_firstFault 14 = .ok (.iload_n 1, 1) := by decide +kernel
theorem dX2_firstFault_15 : decode cX2_firstFault 15 = .ok (.iaload, 1) := by decide +kernel
theorem dX2_firstFault_16 : decode cX2_firstFault 16 = .ok (.istore_n 2, 1) := by decide +kernel
theorem dX2_firstFault_17 : decode cX2_firstFault 17 = .ok (.iload_n 1, 1) := by decide +kernel
theorem dX2_firstFault_18 : decode cX2_firstFault 18 = .ok (.iconst 3, 1) := by decide +kernel
theorem dX2_firstFault_19 : decode cX2_firstFault 19 = .ok (.irem, 1) := by decide +kernel
theorem dX2_firstFault_20 : decode cX2_firstFault 20 = .ok (.ifCond .ne 21, 3) := by decide +kernel
theorem dX2_firstFault_23 : decode cX2_firstFault 23 = .ok (.ldc 38, 2) := by decide +kernel
theorem dX2_firstFault_25 : decode cX2_firstFault 25 = .ok (.iload_n 2, 1) := by decide +kernel
theorem dX2_firstFault_26 : decode cX2_firstFault 26 = .ok (.i2c, 1) := by decide +kernel
theorem dX2_firstFault_27 : decode cX2_firstFault 27 = .ok (.invokevirtual 43, 3) := by decide +kernel
theorem dX2_firstFault_30 : decode cX2_firstFault 30 = .ok (.ifCond .lt 7, 3) := by decide +kernel
theorem dX2_firstFault_33 : decode cX2_firstFault 33 = .ok (.iconst 1, 1) := by decide +kernel
theorem dX2_firstFault_34 : decode cX2_firstFault 34 = .ok (.goto 36, 3) := by decide +kernel
theorem dX2_firstFault_37 : decode cX2_firstFault 37 = .ok (.iconst 0, 1) := by decide +kernel
theorem dX2_firstFault_38 : decode cX2_firstFault 38 = .ok (.goto 32, 3) := by decide +kernel
theorem dX2_firstFault_41 : decode cX2_firstFault 41 = .ok (.iload_n 1, 1) := by decide +kernel
theorem dX2_firstFault_42 : decode cX2_firstFault 42 = .ok (.iconst 3, 1) := by decide +kernel
theorem dX2_firstFault_43 : decode cX2_firstFault 43 = .ok (.irem, 1) := by decide +kernel
theorem dX2_firstFault_44 : decode cX2_firstFault 44 = .ok (.iconst 1, 1) := by decide +kernel
theorem dX2_firstFault_45 : decode cX2_firstFault 45 = .ok (.if_icmp .ne 14, 3) := by decide +kernel
theorem dX2_firstFault_48 : decode cX2_firstFault 48 = .ok (.iload_n 2, 1) := by decide +kernel
theorem dX2_firstFault_49 : decode cX2_firstFault 49 = .ok (.bipush 49, 2) := by decide +kernel
theorem dX2_firstFault_51 : decode cX2_firstFault 51 = .ok (.bipush 57, 2) := by decide +kernel
theorem dX2_firstFault_53 : decode cX2_firstFault 53 = .ok (.invokestatic 25, 3) := by decide +kernel
theorem dX2_firstFault_56 : decode cX2_firstFault 56 = .ok (.goto 14, 3) := by decide +kernel
theorem dX2_firstFault_59 : decode cX2_firstFault 59 = .ok (.iload_n 2, 1) := by decide +kernel
theorem dX2_firstFault_60 : decode cX2_firstFault 60 = .ok (.bipush 59, 2) := by decide +kernel
theorem dX2_firstFault_62 : decode cX2_firstFault 62 = .ok (.if_icmp .ne 7, 3) := by decide +kernel
theorem dX2_firstFault_65 : decode cX2_firstFault 65 = .ok (.iconst 1, 1) := by decide +kernel
theorem dX2_firstFault_66 : decode cX2_firstFault 66 = .ok (.goto 4, 3) := by decide +kernel
theorem dX2_firstFault_69 : decode cX2_firstFault 69 = .ok (.iconst 0, 1) := by decide +kernel
theorem dX2_firstFault_70 : decode cX2_firstFault 70 = .ok (.istore_n 3, 1) := by decide +kernel
theorem dX2_firstFault_71 : decode cX2_firstFault 71 = .ok (.iload_n 3, 1) := by decide +kernel
theorem dX2_firstFault_72 : decode cX2_firstFault 72 = .ok (.ifCond .ne 5, 3) := by decide +kernel
theorem dX2_firstFault_75 : decode cX2_firstFault 75 = .ok (.iload_n 1, 1) := by decide +kernel
theorem dX2_firstFault_76 : decode cX2_firstFault 76 = .ok (.ireturn, 1) := by decide +kernel
theorem dX2_firstFault_77 : decode cX2_firstFault 77 = .ok (.iinc 1 1, 3) := by decide +kernel
theorem dX2_firstFault_80 : decode cX2_firstFault 80 = .ok (.goto (-78), 3) := by decide +kernel
theorem dX2_firstFault_83 : decode cX2_firstFault 83 = .ok (.aload_n 0, 1) := by decide +kernel
theorem dX2_firstFault_84 : decode cX2_firstFault 84 = .ok (.getfield 33, 3) := by decide +kernel
theorem dX2_firstFault_87 : decode cX2_firstFault 87 = .ok (.ifCond .eq 13, 3) := by decide +kernel
theorem dX2_firstFault_90 : decode cX2_firstFault 90 = .ok (.aload_n 0, 1) := by decide +kernel
theorem dX2_firstFault_91 : decode cX2_firstFault 91 = .ok (.getfield 33, 3) := by decide +kernel
theorem dX2_firstFault_94 : decode cX2_firstFault 94 = .ok (.iconst 3, 1) := by decide +kernel
theorem dX2_firstFault_95 : decode cX2_firstFault 95 = .ok (.irem, 1) := by decide +kernel
theorem dX2_firstFault_96 : decode cX2_firstFault 96 = .ok (.iconst 2, 1) := by decide +kernel
theorem dX2_firstFault_97 : decode cX2_firstFault 97 = .ok (.if_icmp .ne 7, 3) := by decide +kernel
theorem dX2_firstFault_100 : decode cX2_firstFault 100 = .ok (.iconst (-1), 1) := by decide +kernel
theorem dX2_firstFault_101 : decode cX2_firstFault 101 = .ok (.goto 7, 3) := by decide +kernel
theorem dX2_firstFault_104 : decode cX2_firstFault 104 = .ok (.aload_n 0, 1) := by decide +kernel
theorem dX2_firstFault_105 : decode cX2_firstFault 105 = .ok (.getfield 33, 3) := by decide +kernel
theorem dX2_firstFault_108 : decode cX2_firstFault 108 = .ok (.ireturn, 1) := by decide +kernel
theorem dX3_init_0 : decode cX3_init 0 = .ok (.aload_n 0, 1) := by decide +kernel
theorem dX3_init_1 : decode cX3_init 1 = .ok (.invokespecial 3, 3) := by decide +kernel
theorem dX3_init_4 : decode cX3_init 4 = .ok (.aload_n 0, 1) := by decide +kernel
theorem dX3_init_5 : decode cX3_init 5 = .ok (.bipush 60, 2) := by decide +kernel
theorem dX3_init_7 : decode cX3_init 7 = .ok (.newarray .int, 2) := by decide +kernel
theorem dX3_init_9 : decode cX3_init 9 = .ok (.putfield 9, 3) := by decide +kernel
theorem dX3_init_12 : decode cX3_init 12 = .ok (.aload_n 0, 1) := by decide +kernel
theorem dX3_init_13 : decode cX3_init 13 = .ok (.iconst (-1), 1) := by decide +kernel
theorem dX3_init_14 : decode cX3_init 14 = .ok (.putfield 15, 3) := by decide +kernel
theorem dX3_init_17 : decode cX3_init 17 = .ok (.return_, 1) := by decide +kernel
theorem dX3_findingAt_0 : decode cX3_findingAt 0 = .ok (.aload_n 0, 1) := by decide +kernel
theorem dX3_findingAt_1 : decode cX3_findingAt 1 = .ok (.getfield 15, 3) := by decide +kernel
theorem dX3_findingAt_4 : decode cX3_findingAt 4 = .ok (.iconst (-1), 1) := by decide +kernel
theorem dX3_findingAt_5 : decode cX3_findingAt 5 = .ok (.if_icmp .ne 5, 3) := by decide +kernel
theorem dX3_findingAt_8 : decode cX3_findingAt 8 = .ok (.iconst 1, 1) := by decide +kernel
theorem dX3_findingAt_9 : decode cX3_findingAt 9 = .ok (.ireturn, 1) := by decide +kernel
theorem dX3_findingAt_10 : decode cX3_findingAt 10 = .ok (.aload_n 0, 1) := by decide +kernel
theorem dX3_findingAt_11 : decode cX3_findingAt 11 = .ok (.getfield 15, 3) := by decide +kernel
theorem dX3_findingAt_14 : decode cX3_findingAt 14 = .ok (.iload_n 1, 1) := by decide +kernel
theorem dX3_findingAt_15 : decode cX3_findingAt 15 = .ok (.if_icmp .eq 5, 3) := by decide +kernel
theorem dX3_findingAt_18 : decode cX3_findingAt 18 = .ok (.iconst 3, 1) := by decide +kernel
theorem dX3_findingAt_19 : decode cX3_findingAt 19 = .ok (.ireturn, 1) := by decide +kernel
theorem dX3_findingAt_20 : decode cX3_findingAt 20 = .ok (.iload_n 2, 1) := by decide +kernel
theorem dX3_findingAt_21 : decode cX3_findingAt 21 = .ok (.iconst 0, 1) := by decide +kernel
theorem dX3_findingAt_22 : decode cX3_findingAt 22 = .ok (.aload_n 0, 1) := by decide +kernel
theorem dX3_findingAt_23 : decode cX3_findingAt 23 = .ok (.getfield 19, 3) := by decide +kernel
theorem dX3_findingAt_26 : decode cX3_findingAt 26 = .ok (.iconst 1, 1) := by decide +kernel
theorem dX3_findingAt_27 : decode cX3_findingAt 27 = .ok (.isub, 1) := by decide +kernel
theorem dX3_findingAt_28 : decode cX3_findingAt 28 = .ok (.invokestatic 22, 3) := by decide +kernel
theorem dX3_findingAt_31 : decode cX3_findingAt 31 = .ok (.ifCond .eq 7, 3) := by decide +kernel
theorem dX3_findingAt_34 : decode cX3_findingAt 34 = .ok (.iconst 0, 1) := by decide +kernel
theorem dX3_findingAt_35 : decode cX3_findingAt 35 = .ok (.goto 4, 3) := by decide +kernel
theorem dX3_findingAt_38 : decode cX3_findingAt 38 = .ok (.iconst 2, 1) := by decide +kernel
theorem dX3_findingAt_39 : decode cX3_findingAt 39 = .ok (.ireturn, 1) := by decide +kernel
theorem dX3_hasItems_0 : decode cX3_hasItems 0 = .ok (.iload_n 1, 1) := by decide +kernel
theorem dX3_hasItems_1 : decode cX3_hasItems 1 = .ok (.iconst 0, 1) := by decide +kernel
theorem dX3_hasItems_2 : decode cX3_hasItems 2 = .ok (.aload_n 0, 1) := by decide +kernel
theorem dX3_hasItems_3 : decode cX3_hasItems 3 = .ok (.getfield 19, 3) := by decide +kernel
theorem dX3_hasItems_6 : decode cX3_hasItems 6 = .ok (.invokestatic 22, 3) := by decide +kernel
theorem dX3_hasItems_9 : decode cX3_hasItems 9 = .ok (.ifCond .eq 21, 3) := by decide +kernel
theorem dX3_hasItems_12 : decode cX3_hasItems 12 = .ok (.iload_n 2, 1) := by decide +kernel
theorem dX3_hasItems_13 : decode cX3_hasItems 13 = .ok (.iconst 0, 1) := by decide +kernel
theorem dX3_hasItems_14 : decode cX3_hasItems 14 = .ok (.aload_n 0, 1) := by decide +kernel
theorem dX3_hasItems_15 : decode cX3_hasItems 15 = .ok (.getfield 19, 3) := by decide +kernel
theorem dX3_hasItems_18 : decode cX3_hasItems 18 = .ok (.iload_n 1, 1) := by decide +kernel
theorem dX3_hasItems_19 : decode cX3_hasItems 19 = .ok (.isub, 1) := by decide +kernel
theorem dX3_hasItems_20 : decode cX3_hasItems 20 = .ok (.invokestatic 22, 3) := by decide +kernel
theorem dX3_hasItems_23 : decode cX3_hasItems 23 = .ok (.ifCond .eq 7, 3) := by decide +kernel
theorem dX3_hasItems_26 : decode cX3_hasItems 26 = .ok (.iconst 1, 1) := by decide +kernel
theorem dX3_hasItems_27 : decode cX3_hasItems 27 = .ok (.goto 4, 3) := by decide +kernel
theorem dX3_hasItems_30 : decode cX3_hasItems 30 = .ok (.iconst 0, 1) := by decide +kernel
theorem dX3_hasItems_31 : decode cX3_hasItems 31 = .ok (.ireturn, 1) := by decide +kernel
theorem dX4_init_0 : decode cX4_init 0 = .ok (.aload_n 0, 1) := by decide +kernel
theorem dX4_init_1 : decode cX4_init 1 = .ok (.invokespecial 3, 3) := by decide +kernel
theorem dX4_init_4 : decode cX4_init 4 = .ok (.aload_n 0, 1) := by decide +kernel
theorem dX4_init_5 : decode cX4_init 5 = .ok (.bipush 8, 2) := by decide +kernel
theorem dX4_init_7 : decode cX4_init 7 = .ok (.newarray .int, 2) := by decide +kernel
theorem dX4_init_9 : decode cX4_init 9 = .ok (.putfield 9, 3) := by decide +kernel
theorem dX4_init_12 : decode cX4_init 12 = .ok (.aload_n 0, 1) := by decide +kernel
theorem dX4_init_13 : decode cX4_init 13 = .ok (.bipush 8, 2) := by decide +kernel
theorem dX4_init_15 : decode cX4_init 15 = .ok (.newarray .int, 2) := by decide +kernel
theorem dX4_init_17 : decode cX4_init 17 = .ok (.putfield 15, 3) := by decide +kernel
theorem dX4_init_20 : decode cX4_init 20 = .ok (.aload_n 0, 1) := by decide +kernel
theorem dX4_init_21 : decode cX4_init 21 = .ok (.bipush 8, 2) := by decide +kernel
theorem dX4_init_23 : decode cX4_init 23 = .ok (.newarray .int, 2) := by decide +kernel
theorem dX4_init_25 : decode cX4_init 25 = .ok (.putfield 18, 3) := by decide +kernel
theorem dX4_init_28 : decode cX4_init 28 = .ok (.return_, 1) := by decide +kernel
theorem dX4_add_0 : decode cX4_add 0 = .ok (.aload_n 0, 1) := by decide +kernel
theorem dX4_add_1 : decode cX4_add 1 = .ok (.getfield 21, 3) := by decide +kernel
theorem dX4_add_4 : decode cX4_add 4 = .ok (.bipush 8, 2) := by decide +kernel
theorem dX4_add_6 : decode cX4_add 6 = .ok (.if_icmp .ge 43, 3) := by decide +kernel
theorem dX4_add_9 : decode cX4_add 9 = .ok (.aload_n 0, 1) := by decide +kernel
theorem dX4_add_10 : decode cX4_add 10 = .ok (.getfield 9, 3) := by decide +kernel
theorem dX4_add_13 : decode cX4_add 13 = .ok (.aload_n 0, 1) := by decide +kernel
theorem dX4_add_14 : decode cX4_add 14 = .ok (.getfield 21, 3) := by decide +kernel
theorem dX4_add_17 : decode cX4_add 17 = .ok (.iload_n 1, 1) := by decide +kernel
theorem dX4_add_18 : decode cX4_add 18 = .ok (.iastore, 1) := by decide +kernel
theorem dX4_add_19 : decode cX4_add 19 = .ok (.aload_n 0, 1) := by decide +kernel
theorem dX4_add_20 : decode cX4_add 20 = .ok (.getfield 15, 3) := by decide +kernel
theorem dX4_add_23 : decode cX4_add 23 = .ok (.aload_n 0, 1) := by decide +kernel
theorem dX4_add_24 : decode cX4_add 24 = .ok (.getfield 21, 3) := by decide +kernel
theorem dX4_add_27 : decode cX4_add 27 = .ok (.iload_n 2, 1) := by decide +kernel
theorem dX4_add_28 : decode cX4_add 28 = .ok (.iastore, 1) := by decide +kernel
theorem dX4_add_29 : decode cX4_add 29 = .ok (.aload_n 0, 1) := by decide +kernel
theorem dX4_add_30 : decode cX4_add 30 = .ok (.getfield 18, 3) := by decide +kernel
theorem dX4_add_33 : decode cX4_add 33 = .ok (.aload_n 0, 1) := by decide +kernel
theorem dX4_add_34 : decode cX4_add 34 = .ok (.getfield 21, 3) := by decide +kernel
theorem dX4_add_37 : decode cX4_add 37 = .ok (.iload_n 3, 1) := by decide +kernel
theorem dX4_add_38 : decode cX4_add 38 = .ok (.iastore, 1) := by decide +kernel
theorem dX4_add_39 : decode cX4_add 39 = .ok (.aload_n 0, 1) := by decide +kernel
theorem dX4_add_40 : decode cX4_add 40 = .ok (.dup, 1) := by decide +kernel
theorem dX4_add_41 : decode cX4_add 41 = .ok (.getfield 21, 3) := by decide +kernel
theorem dX4_add_44 : decode cX4_add 44 = .ok (.iconst 1, 1) := by decide +kernel
theorem dX4_add_45 : decode cX4_add 45 = .ok (.iadd, 1) := by decide +kernel
theorem dX4_add_46 : decode cX4_add 46 = .ok (.putfield 21, 3) := by decide +kernel
theorem dX4_add_49 : decode cX4_add 49 = .ok (.return_, 1) := by decide +kernel
theorem dX4_comeOutIn_0 : decode cX4_comeOutIn 0 = .ok (.iconst 0, 1) := by decide +kernel
theorem dX4_comeOutIn_1 : decode cX4_comeOutIn 1 = .ok (.istore_n 2, 1) := by decide +kernel
theorem dX4_comeOutIn_2 : decode cX4_comeOutIn 2 = .ok (.iload_n 2, 1) := by decide +kernel
theorem dX4_comeOutIn_3 : decode cX4_comeOutIn 3 = .ok (.aload_n 0, 1) := by decide +kernel
theorem dX4_comeOutIn_4 : decode cX4_comeOutIn 4 = .ok (.getfield 21, 3) := by decide +kernel
theorem dX4_comeOutIn_7 : decode cX4_comeOutIn 7 = .ok (.if_icmp .ge 36, 3) := by decide +kernel
theorem dX4_comeOutIn_10 : decode cX4_comeOutIn 10 = .ok (.aload_n 1, 1) := by decide +kernel
theorem dX4_comeOutIn_11 : decode cX4_comeOutIn 11 = .ok (.aload_n 0, 1) := by decide +kernel
theorem dX4_comeOutIn_12 : decode cX4_comeOutIn 12 = .ok (.getfield 9, 3) := by decide +kernel
theorem dX4_comeOutIn_15 : decode cX4_comeOutIn 15 = .ok (.iload_n 2, 1) := by decide +kernel
theorem dX4_comeOutIn_16 : decode cX4_comeOutIn 16 = .ok (.iaload, 1) := by decide +kernel
theorem dX4_comeOutIn_17 : decode cX4_comeOutIn 17 = .ok (.aload_n 0, 1) := by decide +kernel
theorem dX4_comeOutIn_18 : decode cX4_comeOutIn 18 = .ok (.getfield 15, 3) := by decide +kernel
theorem dX4_comeOutIn_21 : decode cX4_comeOutIn 21 = .ok (.iload_n 2, 1) := by decide +kernel
theorem dX4_comeOutIn_22 : decode cX4_comeOutIn 22 = .ok (.iaload, 1) := by decide +kernel
theorem dX4_comeOutIn_23 : decode cX4_comeOutIn 23 = .ok (.invokevirtual 25, 3) := by decide +kernel
theorem dX4_comeOutIn_26 : decode cX4_comeOutIn 26 = .ok (.aload_n 0, 1) := by decide +kernel
theorem dX4_comeOutIn_27 : decode cX4_comeOutIn 27 = .ok (.getfield 18, 3) := by decide +kernel
theorem dX4_comeOutIn_30 : decode cX4_comeOutIn 30 = .ok (.iload_n 2, 1) := by decide +kernel
theorem dX4_comeOutIn_31 : decode cX4_comeOutIn 31 = .ok (.iaload, 1) := by decide +kernel
theorem dX4_comeOutIn_32 : decode cX4_comeOutIn 32 = .ok (.if_icmp .eq 5, 3) := by decide +kernel
theorem dX4_comeOutIn_35 : decode cX4_comeOutIn 35 = .ok (.iconst 0, 1) := by decide +kernel
theorem dX4_comeOutIn_36 : decode cX4_comeOutIn 36 = .ok (.ireturn, 1) := by decide +kernel
theorem dX4_comeOutIn_37 : decode cX4_comeOutIn 37 = .ok (.iinc 2 1, 3) := by decide +kernel
theorem dX4_comeOutIn_40 : decode cX4_comeOutIn 40 = .ok (.goto (-38), 3) := by decide +kernel
theorem dX4_comeOutIn_43 : decode cX4_comeOutIn 43 = .ok (.iconst 1, 1) := by decide +kernel
theorem dX4_comeOutIn_44 : decode cX4_comeOutIn 44 = .ok (.ireturn, 1) := by decide +kernel
theorem dX5_init_0 : decode cX5_init 0 = .ok (.aload_n 0, 1) := by decide +kernel
theorem dX5_init_1 : decode cX5_init 1 = .ok (.invokespecial 1, 3) := by decide +kernel
theorem dX5_init_4 : decode cX5_init 4 = .ok (.aload_n 0, 1) := by decide +kernel
theorem dX5_init_5 : decode cX5_init 5 = .ok (.iload_n 1, 1) := by decide +kernel
theorem dX5_init_6 : decode cX5_init 6 = .ok (.newarray .int, 2) := by decide +kernel
theorem dX5_init_8 : decode cX5_init 8 = .ok (.putfield 7, 3) := by decide +kernel
theorem dX5_init_11 : decode cX5_init 11 = .ok (.return_, 1) := by decide +kernel
theorem dX6_init_0 : decode cX6_init 0 = .ok (.aload_n 0, 1) := by decide +kernel
theorem dX6_init_1 : decode cX6_init 1 = .ok (.invokespecial 3, 3) := by decide +kernel
theorem dX6_init_4 : decode cX6_init 4 = .ok (.aload_n 0, 1) := by decide +kernel
theorem dX6_init_5 : decode cX6_init 5 = .ok (.bipush 8, 2) := by decide +kernel
theorem dX6_init_7 : decode cX6_init 7 = .ok (.newarray .long, 2) := by decide +kernel
theorem dX6_init_9 : decode cX6_init 9 = .ok (.putfield 9, 3) := by decide +kernel
theorem dX6_init_12 : decode cX6_init 12 = .ok (.aload_n 0, 1) := by decide +kernel
theorem dX6_init_13 : decode cX6_init 13 = .ok (.iconst (-1), 1) := by decide +kernel
theorem dX6_init_14 : decode cX6_init 14 = .ok (.putfield 15, 3) := by decide +kernel
theorem dX6_init_17 : decode cX6_init 17 = .ok (.aload_n 0, 1) := by decide +kernel
theorem dX6_init_18 : decode cX6_init 18 = .ok (.iconst 2, 1) := by decide +kernel
theorem dX6_init_19 : decode cX6_init 19 = .ok (.putfield 19, 3) := by decide +kernel
theorem dX6_init_22 : decode cX6_init 22 = .ok (.return_, 1) := by decide +kernel
theorem dX6_tell_0 : decode cX6_tell 0 = .ok (.aload_n 0, 1) := by decide +kernel
theorem dX6_tell_1 : decode cX6_tell 1 = .ok (.getfield 9, 3) := by decide +kernel
theorem dX6_tell_4 : decode cX6_tell 4 = .ok (.lconst 0, 1) := by decide +kernel
theorem dX6_tell_5 : decode cX6_tell 5 = .ok (.invokestatic 22, 3) := by decide +kernel
theorem dX6_tell_8 : decode cX6_tell 8 = .ok (.aload_n 0, 1) := by decide +kernel
theorem dX6_tell_9 : decode cX6_tell 9 = .ok (.iconst 0, 1) := by decide +kernel
theorem dX6_tell_10 : decode cX6_tell 10 = .ok (.putfield 28, 3) := by decide +kernel
theorem dX6_tell_13 : decode cX6_tell 13 = .ok (.aload_n 0, 1) := by decide +kernel
theorem dX6_tell_14 : decode cX6_tell 14 = .ok (.iconst 0, 1) := by decide +kernel
theorem dX6_tell_15 : decode cX6_tell 15 = .ok (.putfield 31, 3) := by decide +kernel
theorem dX6_tell_18 : decode cX6_tell 18 = .ok (.aload_n 0, 1) := by decide +kernel
theorem dX6_tell_19 : decode cX6_tell 19 = .ok (.aload_n 1, 1) := by decide +kernel
theorem dX6_tell_20 : decode cX6_tell 20 = .ok (.invokestatic 34, 3) := by decide +kernel
theorem dX6_tell_23 : decode cX6_tell 23 = .ok (.putfield 15, 3) := by decide +kernel
theorem dX6_tell_26 : decode cX6_tell 26 = .ok (.aload_n 0, 1) := by decide +kernel
theorem dX6_tell_27 : decode cX6_tell 27 = .ok (.getfield 15, 3) := by decide +kernel
theorem dX6_tell_30 : decode cX6_tell 30 = .ok (.iconst (-1), 1) := by decide +kernel
theorem dX6_tell_31 : decode cX6_tell 31 = .ok (.if_icmp .ne 15, 3) := by decide +kernel
theorem dX6_tell_34 : decode cX6_tell 34 = .ok (.aload_n 1, 1) := by decide +kernel
theorem dX6_tell_35 : decode cX6_tell 35 = .ok (.getfield 38, 3) := by decide +kernel
theorem dX6_tell_38 : decode cX6_tell 38 = .ok (.ifCond .le 8, 3) := by decide +kernel
theorem dX6_tell_41 : decode cX6_tell 41 = .ok (.aload_n 0, 1) := by decide +kernel
theorem dX6_tell_42 : decode cX6_tell 42 = .ok (.aload_n 1, 1) := by decide +kernel
theorem dX6_tell_43 : decode cX6_tell 43 = .ok (.invokevirtual 43, 3) := by decide +kernel
theorem dX6_tell_46 : decode cX6_tell 46 = .ok (.return_, 1) := by decide +kernel
theorem dX6_lay_0 : decode cX6_lay 0 = .ok (.iconst 0, 1) := by decide +kernel
theorem dX6_lay_1 : decode cX6_lay 1 = .ok (.istore_n 2, 1) := by decide +kernel
theorem dX6_lay_2 : decode cX6_lay 2 = .ok (.iconst 0, 1) := by decide +kernel
theorem dX6_lay_3 : decode cX6_lay 3 = .ok (.istore_n 3, 1) := by decide +kernel
theorem dX6_lay_4 : decode cX6_lay 4 = .ok (.iconst 0, 1) := by decide +kernel
theorem dX6_lay_5 : decode cX6_lay 5 = .ok (.istore 4, 2) := by decide +kernel
theorem dX6_lay_7 : decode cX6_lay 7 = .ok (.iload 4, 2) := by decide +kernel
theorem dX6_lay_9 : decode cX6_lay 9 = .ok (.aload_n 1, 1) := by decide +kernel
theorem dX6_lay_10 : decode cX6_lay 10 = .ok (.getfield 38, 3) := by decide +kernel
theorem dX6_lay_13 : decode cX6_lay 13 = .ok (.if_icmp .ge 69, 3) := by decide +kernel
theorem dX6_lay_16 : decode cX6_lay 16 = .ok (.aload_n 1, 1) := by decide +kernel
theorem dX6_lay_17 : decode cX6_lay 17 = .ok (.getfield 47, 3) := by decide +kernel
theorem dX6_lay_20 : decode cX6_lay 20 = .ok (.iload 4, 2) := by decide +kernel
theorem dX6_lay_22 : decode cX6_lay 22 = .ok (.iaload, 1) := by decide +kernel
theorem dX6_lay_23 : decode cX6_lay 23 = .ok (.istore 5, 2) := by decide +kernel
theorem dX6_lay_25 : decode cX6_lay 25 = .ok (.iload 5, 2) := by decide +kernel
theorem dX6_lay_27 : decode cX6_lay 27 = .ok (.bipush 59, 2) := by decide +kernel
theorem dX6_lay_29 : decode cX6_lay 29 = .ok (.if_icmp .ne 11, 3) := by decide +kernel
theorem dX6_lay_32 : decode cX6_lay 32 = .ok (.iinc 2 1, 3) := by decide +kernel
theorem dX6_lay_35 : decode cX6_lay 35 = .ok (.iconst 0, 1) := by decide +kernel
theorem dX6_lay_36 : decode cX6_lay 36 = .ok (.istore_n 3, 1) := by decide +kernel
theorem dX6_lay_37 : decode cX6_lay 37 = .ok (.goto 39, 3) := by decide +kernel
theorem dX6_lay_40 : decode cX6_lay 40 = .ok (.iload 5, 2) := by decide +kernel
theorem dX6_lay_42 : decode cX6_lay 42 = .ok (.bipush 97, 2) := by decide +kernel
theorem dX6_lay_44 : decode cX6_lay 44 = .ok (.bipush 104, 2) := by decide +kernel
theorem dX6_lay_46 : decode cX6_lay 46 = .ok (.invokestatic 51, 3) := by decide +kernel
theorem dX6_lay_49 : decode cX6_lay 49 = .ok (.ifCond .eq 24, 3) := by decide +kernel
theorem dX6_lay_52 : decode cX6_lay 52 = .ok (.aload_n 0, 1) := by decide +kernel
theorem dX6_lay_53 : decode cX6_lay 53 = .ok (.getfield 9, 3) := by decide +kernel
theorem dX6_lay_56 : decode cX6_lay 56 = .ok (.iload 5, 2) := by decide +kernel
theorem dX6_lay_58 : decode cX6_lay 58 = .ok (.bipush 97, 2) := by decide +kernel
theorem dX6_lay_60 : decode cX6_lay 60 = .ok (.isub, 1) := by decide +kernel
theorem dX6_lay_61 : decode cX6_lay 61 = .ok (.dup2, 1) := by decide +kernel
theorem dX6_lay_62 : decode cX6_lay 62 = .ok (.laload, 1) := by decide +kernel
theorem dX6_lay_63 : decode cX6_lay 63 = .ok (.lconst 1, 1) := by decide +kernel
theorem dX6_lay_64 : decode cX6_lay 64 = .ok (.bipush 8, 2) := by decide +kernel
theorem dX6_lay_66 : decode cX6_lay 66 = .ok (.iload_n 2, 1) := by decide +kernel
theorem dX6_lay_67 : decode cX6_lay 67 = .ok (.imul, 1) := by decide +kernel
theorem dX6_lay_68 : decode cX6_lay 68 = .ok (.iload_n 3, 1) := by decide +kernel
theorem dX6_lay_69 : decode cX6_lay 69 = .ok (.iadd, 1) := by decide +kernel
theorem dX6_lay_70 : decode cX6_lay 70 = .ok (.lshl, 1) := by decide +kernel
theorem dX6_lay_71 : decode cX6_lay 71 = .ok (.lor, 1) := by decide +kernel
theorem dX6_lay_72 : decode cX6_lay 72 = .ok (.lastore, 1) := by decide +kernel
theorem dX6_lay_73 : decode cX6_lay 73 = .ok (.iinc 3 1, 3) := by decide +kernel
theorem dX6_lay_76 : decode cX6_lay 76 = .ok (.iinc 4 1, 3) := by decide +kernel
theorem dX6_lay_79 : decode cX6_lay 79 = .ok (.goto (-72), 3) := by decide +kernel
theorem dX6_lay_82 : decode cX6_lay 82 = .ok (.aload_n 0, 1) := by decide +kernel
theorem dX6_lay_83 : decode cX6_lay 83 = .ok (.iload_n 2, 1) := by decide +kernel
theorem dX6_lay_84 : decode cX6_lay 84 = .ok (.iconst 1, 1) := by decide +kernel
theorem dX6_lay_85 : decode cX6_lay 85 = .ok (.iadd, 1) := by decide +kernel
theorem dX6_lay_86 : decode cX6_lay 86 = .ok (.putfield 28, 3) := by decide +kernel
theorem dX6_lay_89 : decode cX6_lay 89 = .ok (.aload_n 0, 1) := by decide +kernel
theorem dX6_lay_90 : decode cX6_lay 90 = .ok (.iload_n 3, 1) := by decide +kernel
theorem dX6_lay_91 : decode cX6_lay 91 = .ok (.putfield 31, 3) := by decide +kernel
theorem dX6_lay_94 : decode cX6_lay 94 = .ok (.return_, 1) := by decide +kernel
theorem dX6_passOn_0 : decode cX6_passOn 0 = .ok (.aload_n 0, 1) := by decide +kernel
theorem dX6_passOn_1 : decode cX6_passOn 1 = .ok (.getfield 9, 3) := by decide +kernel
theorem dX6_passOn_4 : decode cX6_passOn 4 = .ok (.iload_n 2, 1) := by decide +kernel
theorem dX6_passOn_5 : decode cX6_passOn 5 = .ok (.dup2, 1) := by decide +kernel
theorem dX6_passOn_6 : decode cX6_passOn 6 = .ok (.laload, 1) := by decide +kernel
theorem dX6_passOn_7 : decode cX6_passOn 7 = .ok (.lconst 1, 1) := by decide +kernel
theorem dX6_passOn_8 : decode cX6_passOn 8 = .ok (.iload_n 1, 1) := by decide +kernel
theorem dX6_passOn_9 : decode cX6_passOn 9 = .ok (.lshl, 1) := by decide +kernel
theorem dX6_passOn_10 : decode cX6_passOn 10 = .ok (.ldc2_w 55, 3) := by decide +kernel
theorem dX6_passOn_13 : decode cX6_passOn 13 = .ok (.lxor, 1) := by decide +kernel
theorem dX6_passOn_14 : decode cX6_passOn 14 = .ok (.land, 1) := by decide +kernel
theorem dX6_passOn_15 : decode cX6_passOn 15 = .ok (.lastore, 1) := by decide +kernel
theorem dX6_passOn_16 : decode cX6_passOn 16 = .ok (.aload_n 0, 1) := by decide +kernel
theorem dX6_passOn_17 : decode cX6_passOn 17 = .ok (.getfield 9, 3) := by decide +kernel
theorem dX6_passOn_20 : decode cX6_passOn 20 = .ok (.iload_n 3, 1) := by decide +kernel
theorem dX6_passOn_21 : decode cX6_passOn 21 = .ok (.dup2, 1) := by decide +kernel
theorem dX6_passOn_22 : decode cX6_passOn 22 = .ok (.laload, 1) := by decide +kernel
theorem dX6_passOn_23 : decode cX6_passOn 23 = .ok (.lconst 1, 1) := by decide +kernel
theorem dX6_passOn_24 : decode cX6_passOn 24 = .ok (.iload_n 1, 1) := by decide +kernel
theorem dX6_passOn_25 : decode cX6_passOn 25 = .ok (.lshl, 1) := by decide +kernel
theorem dX6_passOn_26 : decode cX6_passOn 26 = .ok (.lor, 1) := by decide +kernel
theorem dX6_passOn_27 : decode cX6_passOn 27 = .ok (.lastore, 1) := by decide +kernel
theorem dX6_passOn_28 : decode cX6_passOn 28 = .ok (.return_, 1) := by decide +kernel
theorem dX6_firstFault_0 : decode cX6_firstFault 0 = .ok (.iconst 0, 1) := by decide +kernel
theorem dX6_firstFault_1 : decode cX6_firstFault 1 = .ok (.istore_n 1, 1) := by decide +kernel
theorem dX6_firstFault_2 : decode cX6_firstFault 2 = .ok (.iconst 0, 1) := by decide +kernel
theorem dX6_firstFault_3 : decode cX6_firstFault 3 = .ok (.istore_n 2, 1) := by decide +kernel
theorem dX6_firstFault_4 : decode cX6_firstFault 4 = .ok (.iconst 1, 1) := by decide +kernel
theorem dX6_firstFault_5 : decode cX6_firstFault 5 = .ok (.istore_n 3, 1) := by decide +kernel
theorem dX6_firstFault_6 : decode cX6_firstFault 6 = .ok (.bipush 8, 2) := by decide +kernel
theorem dX6_firstFault_8 : decode cX6_firstFault 8 = .ok (.istore 4, 2) := by decide +kernel
theorem dX6_firstFault_10 : decode cX6_firstFault 10 = .ok (.iconst 0, 1) := by decide +kernel
theorem dX6_firstFault_11 : decode cX6_firstFault 11 = .ok (.istore 5, 2) := by decide +kernel
theorem dX6_firstFault_13 : decode cX6_firstFault 13 = .ok (.iload 5, 2) := by decide +kernel
theorem dX6_firstFault_15 : decode cX6_firstFault 15 = .ok (.aload_n 0, 1) := by decide +kernel
theorem dX6_firstFault_16 : decode cX6_firstFault 16 = .ok (.getfield 38, 3) := by decide +kernel
theorem dX6_firstFault_19 : decode cX6_firstFault 19 = .ok (.if_icmp .ge 82, 3) := by decide +kernel
theorem dX6_firstFault_22 : decode cX6_firstFault 22 = .ok (.aload_n 0, 1) := by decide +kernel
theorem dX6_firstFault_23 : decode cX6_firstFault 23 = .ok (.getfield 47, 3) := by decide +kernel
theorem dX6_firstFault_26 : decode cX6_firstFault 26 = .ok (.iload 5, 2) := by decide +kernel
theorem dX6_firstFault_28 : decode cX6_firstFault 28 = .ok (.iaload, 1) := by decide +kernel
theorem dX6_firstFault_29 : decode cX6_firstFault 29 = .ok (.istore 6, 2) := by decide +kernel
theorem dX6_firstFault_31 : decode cX6_firstFault 31 = .ok (.iload 6, 2) := by decide +kernel
theorem dX6_firstFault_33 : decode cX6_firstFault 33 = .ok (.bipush 59, 2) := by decide +kernel
theorem dX6_firstFault_35 : decode cX6_firstFault 35 = .ok (.if_icmp .ne 24, 3) := by decide +kernel
theorem dX6_firstFault_38 : decode cX6_firstFault 38 = .ok (.iload_n 2, 1) := by decide +kernel
theorem dX6_firstFault_39 : decode cX6_firstFault 39 = .ok (.iload_n 3, 1) := by decide +kernel
theorem dX6_firstFault_40 : decode cX6_firstFault 40 = .ok (.if_icmp .ge 6, 3) := by decide +kernel
theorem dX6_firstFault_43 : decode cX6_firstFault 43 = .ok (.iload 5, 2) := by decide +kernel
theorem dX6_firstFault_45 : decode cX6_firstFault 45 = .ok (.ireturn, 1) := by decide +kernel
theorem dX6_firstFault_46 : decode cX6_firstFault 46 = .ok (.iload_n 2, 1) := by decide +kernel
theorem dX6_firstFault_47 : decode cX6_firstFault 47 = .ok (.istore_n 3, 1) := by decide +kernel
theorem dX6_firstFault_48 : decode cX6_firstFault 48 = .ok (.iload_n 2, 1) := by decide +kernel
theorem dX6_firstFault_49 : decode cX6_firstFault 49 = .ok (.istore 4, 2) := by decide +kernel
theorem dX6_firstFault_51 : decode cX6_firstFault 51 = .ok (.iinc 1 1, 3) := by decide +kernel
theorem dX6_firstFault_54 : decode cX6_firstFault 54 = .ok (.iconst 0, 1) := by decide +kernel
theorem dX6_firstFault_55 : decode cX6_firstFault 55 = .ok (.istore_n 2, 1) := by decide +kernel
theorem dX6_firstFault_56 : decode cX6_firstFault 56 = .ok (.goto 39, 3) := by decide +kernel
theorem dX6_firstFault_59 : decode cX6_firstFault 59 = .ok (.iload_n 1, 1) := by decide +kernel
theorem dX6_firstFault_60 : decode cX6_firstFault 60 = .ok (.iconst 5, 1) := by decide +kernel
theorem dX6_firstFault_61 : decode cX6_firstFault 61 = .ok (.if_icmp .eq 28, 3) := by decide +kernel
theorem dX6_firstFault_64 : decode cX6_firstFault 64 = .ok (.iload_n 2, 1) := by decide +kernel
theorem dX6_firstFault_65 : decode cX6_firstFault 65 = .ok (.iload 4, 2) := by decide +kernel
theorem dX6_firstFault_67 : decode cX6_firstFault 67 = .ok (.if_icmp .eq 22, 3) := by decide +kernel
theorem dX6_firstFault_70 : decode cX6_firstFault 70 = .ok (.iload 6, 2) := by decide +kernel
theorem dX6_firstFault_72 : decode cX6_firstFault 72 = .ok (.bipush 46, 2) := by decide +kernel
theorem dX6_firstFault_74 : decode cX6_firstFault 74 = .ok (.if_icmp .eq 18, 3) := by decide +kernel
theorem dX6_firstFault_77 : decode cX6_firstFault 77 = .ok (.iload 6, 2) := by decide +kernel
theorem dX6_firstFault_79 : decode cX6_firstFault 79 = .ok (.bipush 97, 2) := by decide +kernel
theorem dX6_firstFault_81 : decode cX6_firstFault 81 = .ok (.bipush 104, 2) := by decide +kernel
theorem dX6_firstFault_83 : decode cX6_firstFault 83 = .ok (.invokestatic 51, 3) := by decide +kernel
theorem dX6_firstFault_86 : decode cX6_firstFault 86 = .ok (.ifCond .ne 6, 3) := by decide +kernel
theorem dX6_firstFault_89 : decode cX6_firstFault 89 = .ok (.iload 5, 2) := by decide +kernel
theorem dX6_firstFault_91 : decode cX6_firstFault 91 = .ok (.ireturn, 1) := by decide +kernel
theorem dX6_firstFault_92 : decode cX6_firstFault 92 = .ok (.iinc 2 1, 3) := by decide +kernel
theorem dX6_firstFault_95 : decode cX6_firstFault 95 = .ok (.iinc 5 1, 3) := by decide +kernel
theorem dX6_firstFault_98 : decode cX6_firstFault 98 = .ok (.goto (-85), 3) := by decide +kernel
theorem dX6_firstFault_101 : decode cX6_firstFault 101 = .ok (.aload_n 0, 1) := by decide +kernel
theorem dX6_firstFault_102 : decode cX6_firstFault 102 = .ok (.getfield 38, 3) := by decide +kernel
theorem dX6_firstFault_105 : decode cX6_firstFault 105 = .ok (.ifCond .le 15, 3) := by decide +kernel
theorem dX6_firstFault_108 : decode cX6_firstFault 108 = .ok (.iload_n 2, 1) := by decide +kernel
theorem dX6_firstFault_109 : decode cX6_firstFault 109 = .ok (.iload_n 3, 1) := by decide +kernel
theorem dX6_firstFault_110 : decode cX6_firstFault 110 = .ok (.if_icmp .ge 10, 3) := by decide +kernel
theorem dX6_firstFault_113 : decode cX6_firstFault 113 = .ok (.aload_n 0, 1) := by decide +kernel
theorem dX6_firstFault_114 : decode cX6_firstFault 114 = .ok (.getfield 38, 3) := by decide +kernel
theorem dX6_firstFault_117 : decode cX6_firstFault 117 = .ok (.goto 4, 3) := by decide +kernel
theorem dX6_firstFault_120 : decode cX6_firstFault 120 = .ok (.iconst (-1), 1) := by decide +kernel
theorem dX6_firstFault_121 : decode cX6_firstFault 121 = .ok (.ireturn, 1) := by decide +kernel
theorem dX7_init_0 : decode cX7_init 0 = .ok (.aload_n 0, 1) := by decide +kernel
theorem dX7_init_1 : decode cX7_init 1 = .ok (.invokespecial 3, 3) := by decide +kernel
theorem dX7_init_4 : decode cX7_init 4 = .ok (.aload_n 0, 1) := by decide +kernel
theorem dX7_init_5 : decode cX7_init 5 = .ok (.bipush 8, 2) := by decide +kernel
theorem dX7_init_7 : decode cX7_init 7 = .ok (.newarray .long, 2) := by decide +kernel
theorem dX7_init_9 : decode cX7_init 9 = .ok (.putfield 9, 3) := by decide +kernel
theorem dX7_init_12 : decode cX7_init 12 = .ok (.aload_n 0, 1) := by decide +kernel
theorem dX7_init_13 : decode cX7_init 13 = .ok (.sipush 160, 3) := by decide +kernel
theorem dX7_init_16 : decode cX7_init 16 = .ok (.newarray .long, 2) := by decide +kernel
theorem dX7_init_18 : decode cX7_init 18 = .ok (.putfield 15, 3) := by decide +kernel
theorem dX7_init_21 : decode cX7_init 21 = .ok (.aload_n 0, 1) := by decide +kernel
theorem dX7_init_22 : decode cX7_init 22 = .ok (.bipush 20, 2) := by decide +kernel
theorem dX7_init_24 : decode cX7_init 24 = .ok (.newarray .long, 2) := by decide +kernel
theorem dX7_init_26 : decode cX7_init 26 = .ok (.putfield 18, 3) := by decide +kernel
theorem dX7_init_29 : decode cX7_init 29 = .ok (.aload_n 0, 1) := by decide +kernel
theorem dX7_init_30 : decode cX7_init 30 = .ok (.bipush 20, 2) := by decide +kernel
theorem dX7_init_32 : decode cX7_init 32 = .ok (.newarray .int, 2) := by decide +kernel
theorem dX7_init_34 : decode cX7_init 34 = .ok (.putfield 21, 3) := by decide +kernel
theorem dX7_init_37 : decode cX7_init 37 = .ok (.aload_n 0, 1) := by decide +kernel
theorem dX7_init_38 : decode cX7_init 38 = .ok (.bipush 20, 2) := by decide +kernel
theorem dX7_init_40 : decode cX7_init 40 = .ok (.newarray .int, 2) := by decide +kernel
theorem dX7_init_42 : decode cX7_init 42 = .ok (.putfield 25, 3) := by decide +kernel
theorem dX7_init_45 : decode cX7_init 45 = .ok (.aload_n 0, 1) := by decide +kernel
theorem dX7_init_46 : decode cX7_init 46 = .ok (.aload_n 1, 1) := by decide +kernel
theorem dX7_init_47 : decode cX7_init 47 = .ok (.putfield 28, 3) := by decide +kernel
theorem dX7_init_50 : decode cX7_init 50 = .ok (.aload_n 0, 1) := by decide +kernel
theorem dX7_init_51 : decode cX7_init 51 = .ok (.aload_n 2, 1) := by decide +kernel
theorem dX7_init_52 : decode cX7_init 52 = .ok (.putfield 32, 3) := by decide +kernel
theorem dX7_init_55 : decode cX7_init 55 = .ok (.aload_n 0, 1) := by decide +kernel
theorem dX7_init_56 : decode cX7_init 56 = .ok (.aload_n 3, 1) := by decide +kernel
theorem dX7_init_57 : decode cX7_init 57 = .ok (.putfield 36, 3) := by decide +kernel
theorem dX7_init_60 : decode cX7_init 60 = .ok (.return_, 1) := by decide +kernel
theorem dX7_run_0 : decode cX7_run 0 = .ok (.aload_n 0, 1) := by decide +kernel
theorem dX7_run_1 : decode cX7_run 1 = .ok (.getfield 28, 3) := by decide +kernel
theorem dX7_run_4 : decode cX7_run 4 = .ok (.getfield 40, 3) := by decide +kernel
theorem dX7_run_7 : decode cX7_run 7 = .ok (.iconst 0, 1) := by decide +kernel
theorem dX7_run_8 : decode cX7_run 8 = .ok (.aload_n 0, 1) := by decide +kernel
theorem dX7_run_9 : decode cX7_run 9 = .ok (.getfield 9, 3) := by decide +kernel
theorem dX7_run_12 : decode cX7_run 12 = .ok (.iconst 0, 1) := by decide +kernel
theorem dX7_run_13 : decode cX7_run 13 = .ok (.bipush 8, 2) := by decide +kernel
theorem dX7_run_15 : decode cX7_run 15 = .ok (.invokestatic 43, 3) := by decide +kernel
theorem dX7_run_18 : decode cX7_run 18 = .ok (.aload_n 0, 1) := by decide +kernel
theorem dX7_run_19 : decode cX7_run 19 = .ok (.aload_n 0, 1) := by decide +kernel
theorem dX7_run_20 : decode cX7_run 20 = .ok (.getfield 9, 3) := by decide +kernel
theorem dX7_run_23 : decode cX7_run 23 = .ok (.invokestatic 49, 3) := by decide +kernel
theorem dX7_run_26 : decode cX7_run 26 = .ok (.putfield 53, 3) := by decide +kernel
theorem dX7_run_29 : decode cX7_run 29 = .ok (.aload_n 0, 1) := by decide +kernel
theorem dX7_run_30 : decode cX7_run 30 = .ok (.iconst 0, 1) := by decide +kernel
theorem dX7_run_31 : decode cX7_run 31 = .ok (.putfield 57, 3) := by decide +kernel
theorem dX7_run_34 : decode cX7_run 34 = .ok (.iconst 0, 1) := by decide +kernel
theorem dX7_run_35 : decode cX7_run 35 = .ok (.istore_n 3, 1) := by decide +kernel
theorem dX7_run_36 : decode cX7_run 36 = .ok (.iload_n 3, 1) := by decide +kernel
theorem dX7_run_37 : decode cX7_run 37 = .ok (.bipush 20, 2) := by decide +kernel
theorem dX7_run_39 : decode cX7_run 39 = .ok (.if_icmp .ge 108, 3) := by decide +kernel
theorem dX7_run_42 : decode cX7_run 42 = .ok (.aload_n 0, 1) := by decide +kernel
theorem dX7_run_43 : decode cX7_run 43 = .ok (.getfield 25, 3) := by decide +kernel
theorem dX7_run_46 : decode cX7_run 46 = .ok (.iload_n 3, 1) := by decide +kernel
theorem dX7_run_47 : decode cX7_run 47 = .ok (.aload_n 0, 1) := by decide +kernel
theorem dX7_run_48 : decode cX7_run 48 = .ok (.aload_n 1, 1) := by decide +kernel
theorem dX7_run_49 : decode cX7_run 49 = .ok (.iload_n 2, 1) := by decide +kernel
theorem dX7_run_50 : decode cX7_run 50 = .ok (.iload_n 3, 1) := by decide +kernel
theorem dX7_run_51 : decode cX7_run 51 = .ok (.invokevirtual 61, 3) := by decide +kernel
theorem dX7_run_54 : decode cX7_run 54 = .ok (.iastore, 1) := by decide +kernel
theorem dX7_run_55 : decode cX7_run 55 = .ok (.aload_n 0, 1) := by decide +kernel
theorem dX7_run_56 : decode cX7_run 56 = .ok (.iload_n 3, 1) := by decide +kernel
theorem dX7_run_57 : decode cX7_run 57 = .ok (.invokevirtual 65, 3) := by decide +kernel
theorem dX7_run_60 : decode cX7_run 60 = .ok (.istore 4, 2) := by decide +kernel
theorem dX7_run_62 : decode cX7_run 62 = .ok (.aload_n 0, 1) := by decide +kernel
theorem dX7_run_63 : decode cX7_run 63 = .ok (.getfield 9, 3) := by decide +kernel
theorem dX7_run_66 : decode cX7_run 66 = .ok (.iconst 0, 1) := by decide +kernel
theorem dX7_run_67 : decode cX7_run 67 = .ok (.aload_n 0, 1) := by decide +kernel
theorem dX7_run_68 : decode cX7_run 68 = .ok (.getfield 15, 3) := by decide +kernel
theorem dX7_run_71 : decode cX7_run 71 = .ok (.bipush 8, 2) := by decide +kernel
theorem dX7_run_73 : decode cX7_run 73 = .ok (.iload_n 3, 1) := by decide +kernel
theorem dX7_run_74 : decode cX7_run 74 = .ok (.imul, 1) := by decide +kernel
theorem dX7_run_75 : decode cX7_run 75 = .ok (.bipush 8, 2) := by decide +kernel
theorem dX7_run_77 : decode cX7_run 77 = .ok (.invokestatic 43, 3) := by decide +kernel
theorem dX7_run_80 : decode cX7_run 80 = .ok (.aload_n 0, 1) := by decide +kernel
theorem dX7_run_81 : decode cX7_run 81 = .ok (.getfield 18, 3) := by decide +kernel
theorem dX7_run_84 : decode cX7_run 84 = .ok (.iload_n 3, 1) := by decide +kernel
theorem dX7_run_85 : decode cX7_run 85 = .ok (.aload_n 0, 1) := by decide +kernel
theorem dX7_run_86 : decode cX7_run 86 = .ok (.getfield 53, 3) := by decide +kernel
theorem dX7_run_89 : decode cX7_run 89 = .ok (.lastore, 1) := by decide +kernel
theorem dX7_run_90 : decode cX7_run 90 = .ok (.iload_n 3, 1) := by decide +kernel
theorem dX7_run_91 : decode cX7_run 91 = .ok (.ifCond .le 21, 3) := by decide +kernel
theorem dX7_run_94 : decode cX7_run 94 = .ok (.aload_n 0, 1) := by decide +kernel
theorem dX7_run_95 : decode cX7_run 95 = .ok (.getfield 25, 3) := by decide +kernel
theorem dX7_run_98 : decode cX7_run 98 = .ok (.iload_n 3, 1) := by decide +kernel
theorem dX7_run_99 : decode cX7_run 99 = .ok (.iaload, 1) := by decide +kernel
theorem dX7_run_100 : decode cX7_run 100 = .ok (.ifCond .ne 12, 3) := by decide +kernel
theorem dX7_run_103 : decode cX7_run 103 = .ok (.iload 4, 2) := by decide +kernel
theorem dX7_run_105 : decode cX7_run 105 = .ok (.ifCond .ne 7, 3) := by decide +kernel
theorem dX7_run_108 : decode cX7_run 108 = .ok (.iconst 1, 1) := by decide +kernel
theorem dX7_run_109 : decode cX7_run 109 = .ok (.goto 4, 3) := by decide +kernel
theorem dX7_run_112 : decode cX7_run 112 = .ok (.iconst 0, 1) := by decide +kernel
theorem dX7_run_113 : decode cX7_run 113 = .ok (.istore 5, 2) := by decide +kernel
theorem dX7_run_115 : decode cX7_run 115 = .ok (.aload_n 0, 1) := by decide +kernel
theorem dX7_run_116 : decode cX7_run 116 = .ok (.getfield 21, 3) := by decide +kernel
theorem dX7_run_119 : decode cX7_run 119 = .ok (.iload_n 3, 1) := by decide +kernel
theorem dX7_run_120 : decode cX7_run 120 = .ok (.iload 5, 2) := by decide +kernel
theorem dX7_run_122 : decode cX7_run 122 = .ok (.ifCond .eq 14, 3) := by decide +kernel
theorem dX7_run_125 : decode cX7_run 125 = .ok (.aload_n 0, 1) := by decide +kernel
theorem dX7_run_126 : decode cX7_run 126 = .ok (.getfield 21, 3) := by decide +kernel
theorem dX7_run_129 : decode cX7_run 129 = .ok (.iload_n 3, 1) := by decide +kernel
theorem dX7_run_130 : decode cX7_run 130 = .ok (.iconst 1, 1) := by decide +kernel
theorem dX7_run_131 : decode cX7_run 131 = .ok (.isub, 1) := by decide +kernel
theorem dX7_run_132 : decode cX7_run 132 = .ok (.iaload, 1) := by decide +kernel
theorem dX7_run_133 : decode cX7_run 133 = .ok (.goto 7, 3) := by decide +kernel
theorem dX7_run_136 : decode cX7_run 136 = .ok (.aload_n 0, 1) := by decide +kernel
theorem dX7_run_137 : decode cX7_run 137 = .ok (.invokevirtual 69, 3) := by decide +kernel
theorem dX7_run_140 : decode cX7_run 140 = .ok (.iastore, 1) := by decide +kernel
theorem dX7_run_141 : decode cX7_run 141 = .ok (.iinc 3 1, 3) := by decide +kernel
theorem dX7_run_144 : decode cX7_run 144 = .ok (.goto (-108), 3) := by decide +kernel
theorem dX7_run_147 : decode cX7_run 147 = .ok (.return_, 1) := by decide +kernel
theorem dX7_freeze_0 : decode cX7_freeze 0 = .ok (.iconst 0, 1) := by decide +kernel
theorem dX7_freeze_1 : decode cX7_freeze 1 = .ok (.istore 4, 2) := by decide +kernel
theorem dX7_freeze_3 : decode cX7_freeze 3 = .ok (.iconst 0, 1) := by decide +kernel
theorem dX7_freeze_4 : decode cX7_freeze 4 = .ok (.istore 5, 2) := by decide +kernel
theorem dX7_freeze_6 : decode cX7_freeze 6 = .ok (.iconst 0, 1) := by decide +kernel
theorem dX7_freeze_7 : decode cX7_freeze 7 = .ok (.istore 6, 2) := by decide +kernel
theorem dX7_freeze_9 : decode cX7_freeze 9 = .ok (.iload 6, 2) := by decide +kernel
theorem dX7_freeze_11 : decode cX7_freeze 11 = .ok (.aload_n 1, 1) := by decide +kernel
theorem dX7_freeze_12 : decode cX7_freeze 12 = .ok (.getfield 73, 3) := by decide +kernel
theorem dX7_freeze_15 : decode cX7_freeze 15 = .ok (.if_icmp .ge 88, 3) := by decide +kernel
theorem dX7_freeze_18 : decode cX7_freeze 18 = .ok (.aload_n 1, 1) := by decide +kernel
theorem dX7_freeze_19 : decode cX7_freeze 19 = .ok (.getfield 78, 3) := by decide +kernel
theorem dX7_freeze_22 : decode cX7_freeze 22 = .ok (.iload 6, 2) := by decide +kernel
theorem dX7_freeze_24 : decode cX7_freeze 24 = .ok (.iaload, 1) := by decide +kernel
theorem dX7_freeze_25 : decode cX7_freeze 25 = .ok (.iload_n 3, 1) := by decide +kernel
theorem dX7_freeze_26 : decode cX7_freeze 26 = .ok (.if_icmp .ne 71, 3) := by decide +kernel
theorem dX7_freeze_29 : decode cX7_freeze 29 = .ok (.iload_n 2, 1) := by decide +kernel
theorem dX7_freeze_30 : decode cX7_freeze 30 = .ok (.iload 6, 2) := by decide +kernel
theorem dX7_freeze_32 : decode cX7_freeze 32 = .ok (.iushr, 1) := by decide +kernel
theorem dX7_freeze_33 : decode cX7_freeze 33 = .ok (.iconst 1, 1) := by decide +kernel
theorem dX7_freeze_34 : decode cX7_freeze 34 = .ok (.iand, 1) := by decide +kernel
theorem dX7_freeze_35 : decode cX7_freeze 35 = .ok (.ifCond .ne 62, 3) := by decide +kernel
theorem dX7_freeze_38 : decode cX7_freeze 38 = .ok (.lconst 0, 1) := by decide +kernel
theorem dX7_freeze_39 : decode cX7_freeze 39 = .ok (.lstore 7, 2) := by decide +kernel
theorem dX7_freeze_41 : decode cX7_freeze 41 = .ok (.iconst 0, 1) := by decide +kernel
theorem dX7_freeze_42 : decode cX7_freeze 42 = .ok (.istore 9, 2) := by decide +kernel
theorem dX7_freeze_44 : decode cX7_freeze 44 = .ok (.iload 9, 2) := by decide +kernel
theorem dX7_freeze_46 : decode cX7_freeze 46 = .ok (.aload_n 0, 1) := by decide +kernel
theorem dX7_freeze_47 : decode cX7_freeze 47 = .ok (.getfield 32, 3) := by decide +kernel
theorem dX7_freeze_50 : decode cX7_freeze 50 = .ok (.getfield 81, 3) := by decide +kernel
theorem dX7_freeze_53 : decode cX7_freeze 53 = .ok (.if_icmp .ge 27, 3) := by decide +kernel
theorem dX7_freeze_56 : decode cX7_freeze 56 = .ok (.lload 7, 2) := by decide +kernel
theorem dX7_freeze_58 : decode cX7_freeze 58 = .ok (.aload_n 0, 1) := by decide +kernel
theorem dX7_freeze_59 : decode cX7_freeze 59 = .ok (.iload 9, 2) := by decide +kernel
theorem dX7_freeze_61 : decode cX7_freeze 61 = .ok (.aload_n 1, 1) := by decide +kernel
theorem dX7_freeze_62 : decode cX7_freeze 62 = .ok (.getfield 84, 3) := by decide +kernel
theorem dX7_freeze_65 : decode cX7_freeze 65 = .ok (.iload 6, 2) := by decide +kernel
theorem dX7_freeze_67 : decode cX7_freeze 67 = .ok (.iaload, 1) := by decide +kernel
theorem dX7_freeze_68 : decode cX7_freeze 68 = .ok (.invokevirtual 87, 3) := by decide +kernel
theorem dX7_freeze_71 : decode cX7_freeze 71 = .ok (.lor, 1) := by decide +kernel
theorem dX7_freeze_72 : decode cX7_freeze 72 = .ok (.lstore 7, 2) := by decide +kernel
theorem dX7_freeze_74 : decode cX7_freeze 74 = .ok (.iinc 9 1, 3) := by decide +kernel
theorem dX7_freeze_77 : decode cX7_freeze 77 = .ok (.goto (-33), 3) := by decide +kernel
theorem dX7_freeze_80 : decode cX7_freeze 80 = .ok (.iconst 1, 1) := by decide +kernel
theorem dX7_freeze_81 : decode cX7_freeze 81 = .ok (.istore 5, 2) := by decide +kernel
theorem dX7_freeze_83 : decode cX7_freeze 83 = .ok (.iload 4, 2) := by decide +kernel
theorem dX7_freeze_85 : decode cX7_freeze 85 = .ok (.aload_n 0, 1) := by decide +kernel
theorem dX7_freeze_86 : decode cX7_freeze 86 = .ok (.lload 7, 2) := by decide +kernel
theorem dX7_freeze_88 : decode cX7_freeze 88 = .ok (.invokestatic 91, 3) := by decide +kernel
theorem dX7_freeze_91 : decode cX7_freeze 91 = .ok (.invokevirtual 95, 3) := by decide +kernel
theorem dX7_freeze_94 : decode cX7_freeze 94 = .ok (.iadd, 1) := by decide +kernel
theorem dX7_freeze_95 : decode cX7_freeze 95 = .ok (.istore 4, 2) := by decide +kernel
theorem dX7_freeze_97 : decode cX7_freeze 97 = .ok (.iinc 6 1, 3) := by decide +kernel
theorem dX7_freeze_100 : decode cX7_freeze 100 = .ok (.goto (-91), 3) := by decide +kernel
theorem dX7_freeze_103 : decode cX7_freeze 103 = .ok (.iload 5, 2) := by decide +kernel
theorem dX7_freeze_105 : decode cX7_freeze 105 = .ok (.ifCond .eq 8, 3) := by decide +kernel
theorem dX7_freeze_108 : decode cX7_freeze 108 = .ok (.iload 4, 2) := by decide +kernel
theorem dX7_freeze_110 : decode cX7_freeze 110 = .ok (.goto 14, 3) := by decide +kernel
theorem dX7_freeze_113 : decode cX7_freeze 113 = .ok (.aload_n 0, 1) := by decide +kernel
theorem dX7_freeze_114 : decode cX7_freeze 114 = .ok (.aload_n 0, 1) := by decide +kernel
theorem dX7_freeze_115 : decode cX7_freeze 115 = .ok (.getfield 53, 3) := by decide +kernel
theorem dX7_freeze_118 : decode cX7_freeze 118 = .ok (.invokestatic 91, 3) := by decide +kernel
theorem dX7_freeze_121 : decode cX7_freeze 121 = .ok (.invokevirtual 95, 3) := by decide +kernel
theorem dX7_freeze_124 : decode cX7_freeze 124 = .ok (.ireturn, 1) := by decide +kernel
theorem dX7_leave_0 : decode cX7_leave 0 = .ok (.aload_n 0, 1) := by decide +kernel
theorem dX7_leave_1 : decode cX7_leave 1 = .ok (.getfield 53, 3) := by decide +kernel
theorem dX7_leave_4 : decode cX7_leave 4 = .ok (.lload_n 1, 1) := by decide +kernel
theorem dX7_leave_5 : decode cX7_leave 5 = .ok (.ldc2_w 99, 3) := by decide +kernel
theorem dX7_leave_8 : decode cX7_leave 8 = .ok (.lxor, 1) := by decide +kernel
theorem dX7_leave_9 : decode cX7_leave 9 = .ok (.land, 1) := by decide +kernel
theorem dX7_leave_10 : decode cX7_leave 10 = .ok (.lstore_n 3, 1) := by decide +kernel
theorem dX7_leave_11 : decode cX7_leave 11 = .ok (.lload_n 3, 1) := by decide +kernel
theorem dX7_leave_12 : decode cX7_leave 12 = .ok (.lconst 0, 1) := by decide +kernel
theorem dX7_leave_13 : decode cX7_leave 13 = .ok (.lcmp, 1) := by decide +kernel
theorem dX7_leave_14 : decode cX7_leave 14 = .ok (.ifCond .ne 5, 3) := by decide +kernel
theorem dX7_leave_17 : decode cX7_leave 17 = .ok (.iconst 0, 1) := by decide +kernel
theorem dX7_leave_18 : decode cX7_leave 18 = .ok (.ireturn, 1) := by decide +kernel
theorem dX7_leave_19 : decode cX7_leave 19 = .ok (.iconst 0, 1) := by decide +kernel
theorem dX7_leave_20 : decode cX7_leave 20 = .ok (.istore 5, 2) := by decide +kernel
theorem dX7_leave_22 : decode cX7_leave 22 = .ok (.iload 5, 2) := by decide +kernel
theorem dX7_leave_24 : decode cX7_leave 24 = .ok (.bipush 8, 2) := by decide +kernel
theorem dX7_leave_26 : decode cX7_leave 26 = .ok (.if_icmp .ge 47, 3) := by decide +kernel
theorem dX7_leave_29 : decode cX7_leave 29 = .ok (.aload_n 0, 1) := by decide +kernel
theorem dX7_leave_30 : decode cX7_leave 30 = .ok (.getfield 9, 3) := by decide +kernel
theorem dX7_leave_33 : decode cX7_leave 33 = .ok (.iload 5, 2) := by decide +kernel
theorem dX7_leave_35 : decode cX7_leave 35 = .ok (.laload, 1) := by decide +kernel
theorem dX7_leave_36 : decode cX7_leave 36 = .ok (.lload_n 3, 1) := by decide +kernel
theorem dX7_leave_37 : decode cX7_leave 37 = .ok (.land, 1) := by decide +kernel
theorem dX7_leave_38 : decode cX7_leave 38 = .ok (.lconst 0, 1) := by decide +kernel
theorem dX7_leave_39 : decode cX7_leave 39 = .ok (.lcmp, 1) := by decide +kernel
theorem dX7_leave_40 : decode cX7_leave 40 = .ok (.ifCond .eq 27, 3) := by decide +kernel
theorem dX7_leave_43 : decode cX7_leave 43 = .ok (.aload_n 0, 1) := by decide +kernel
theorem dX7_leave_44 : decode cX7_leave 44 = .ok (.dup, 1) := by decide +kernel
theorem dX7_leave_45 : decode cX7_leave 45 = .ok (.getfield 57, 3) := by decide +kernel
theorem dX7_leave_48 : decode cX7_leave 48 = .ok (.iconst 1, 1) := by decide +kernel
theorem dX7_leave_49 : decode cX7_leave 49 = .ok (.iload 5, 2) := by decide +kernel
theorem dX7_leave_51 : decode cX7_leave 51 = .ok (.ishl, 1) := by decide +kernel
theorem dX7_leave_52 : decode cX7_leave 52 = .ok (.ior, 1) := by decide +kernel
theorem dX7_leave_53 : decode cX7_leave 53 = .ok (.putfield 57, 3) := by decide +kernel
theorem dX7_leave_56 : decode cX7_leave 56 = .ok (.aload_n 0, 1) := by decide +kernel
theorem dX7_leave_57 : decode cX7_leave 57 = .ok (.getfield 9, 3) := by decide +kernel
theorem dX7_leave_60 : decode cX7_leave 60 = .ok (.iload 5, 2) := by decide +kernel
theorem dX7_leave_62 : decode cX7_leave 62 = .ok (.dup2, 1) := by decide +kernel
theorem dX7_leave_63 : decode cX7_leave 63 = .ok (.laload, 1) := by decide +kernel
theorem dX7_leave_64 : decode cX7_leave 64 = .ok (.lload_n 1, 1) := by decide +kernel
theorem dX7_leave_65 : decode cX7_leave 65 = .ok (.land, 1) := by decide +kernel
theorem dX7_leave_66 : decode cX7_leave 66 = .ok (.lastore, 1) := by decide +kernel
theorem dX7_leave_67 : decode cX7_leave 67 = .ok (.iinc 5 1, 3) := by decide +kernel
theorem dX7_leave_70 : decode cX7_leave 70 = .ok (.goto (-48), 3) := by decide +kernel
theorem dX7_leave_73 : decode cX7_leave 73 = .ok (.aload_n 0, 1) := by decide +kernel
theorem dX7_leave_74 : decode cX7_leave 74 = .ok (.lload_n 1, 1) := by decide +kernel
theorem dX7_leave_75 : decode cX7_leave 75 = .ok (.putfield 53, 3) := by decide +kernel
theorem dX7_leave_78 : decode cX7_leave 78 = .ok (.lload_n 3, 1) := by decide +kernel
theorem dX7_leave_79 : decode cX7_leave 79 = .ok (.invokestatic 101, 3) := by decide +kernel
theorem dX7_leave_82 : decode cX7_leave 82 = .ok (.ireturn, 1) := by decide +kernel
theorem dX7_holdingOf_0 : decode cX7_holdingOf 0 = .ok (.iload_n 1, 1) := by decide +kernel
theorem dX7_holdingOf_1 : decode cX7_holdingOf 1 = .ok (.aload_n 0, 1) := by decide +kernel
theorem dX7_holdingOf_2 : decode cX7_holdingOf 2 = .ok (.getfield 32, 3) := by decide +kernel
theorem dX7_holdingOf_5 : decode cX7_holdingOf 5 = .ok (.getfield 81, 3) := by decide +kernel
theorem dX7_holdingOf_8 : decode cX7_holdingOf 8 = .ok (.if_icmp .ge 14, 3) := by decide +kernel
theorem dX7_holdingOf_11 : decode cX7_holdingOf 11 = .ok (.aload_n 0, 1) := by decide +kernel
theorem dX7_holdingOf_12 : decode cX7_holdingOf 12 = .ok (.getfield 9, 3) := by decide +kernel
theorem dX7_holdingOf_15 : decode cX7_holdingOf 15 = .ok (.iload_n 1, 1) := by decide +kernel
theorem dX7_holdingOf_16 : decode cX7_holdingOf 16 = .ok (.laload, 1) := by decide +kernel
theorem dX7_holdingOf_17 : decode cX7_holdingOf 17 = .ok (.lconst 0, 1) := by decide +kernel
theorem dX7_holdingOf_18 : decode cX7_holdingOf 18 = .ok (.lcmp, 1) := by decide +kernel
theorem dX7_holdingOf_19 : decode cX7_holdingOf 19 = .ok (.ifCond .ne 5, 3) := by decide +kernel
theorem dX7_holdingOf_22 : decode cX7_holdingOf 22 = .ok (.lconst 0, 1) := by decide +kernel
theorem dX7_holdingOf_23 : decode cX7_holdingOf 23 = .ok (.lreturn, 1) := by decide +kernel
theorem dX7_holdingOf_24 : decode cX7_holdingOf 24 = .ok (.aload_n 0, 1) := by decide +kernel
theorem dX7_holdingOf_25 : decode cX7_holdingOf 25 = .ok (.getfield 9, 3) := by decide +kernel
theorem dX7_holdingOf_28 : decode cX7_holdingOf 28 = .ok (.iload_n 1, 1) := by decide +kernel
theorem dX7_holdingOf_29 : decode cX7_holdingOf 29 = .ok (.laload, 1) := by decide +kernel
theorem dX7_holdingOf_30 : decode cX7_holdingOf 30 = .ok (.lstore_n 3, 1) := by decide +kernel
theorem dX7_holdingOf_31 : decode cX7_holdingOf 31 = .ok (.iload_n 2, 1) := by decide +kernel
theorem dX7_holdingOf_32 : decode cX7_holdingOf 32 = .ok (.aload_n 0, 1) := by decide +kernel
theorem dX7_holdingOf_33 : decode cX7_holdingOf 33 = .ok (.getfield 32, 3) := by decide +kernel
theorem dX7_holdingOf_36 : decode cX7_holdingOf 36 = .ok (.getfield 106, 3) := by decide +kernel
theorem dX7_holdingOf_39 : decode cX7_holdingOf 39 = .ok (.iload_n 1, 1) := by decide +kernel
theorem dX7_holdingOf_40 : decode cX7_holdingOf 40 = .ok (.iaload, 1) := by decide +kernel
theorem dX7_holdingOf_41 : decode cX7_holdingOf 41 = .ok (.isub, 1) := by decide +kernel
theorem dX7_holdingOf_42 : decode cX7_holdingOf 42 = .ok (.istore 5, 2) := by decide +kernel
theorem dX7_holdingOf_44 : decode cX7_holdingOf 44 = .ok (.lconst 0, 1) := by decide +kernel
theorem dX7_holdingOf_45 : decode cX7_holdingOf 45 = .ok (.lstore 6, 2) := by decide +kernel
theorem dX7_holdingOf_47 : decode cX7_holdingOf 47 = .ok (.aload_n 0, 1) := by decide +kernel
theorem dX7_holdingOf_48 : decode cX7_holdingOf 48 = .ok (.getfield 32, 3) := by decide +kernel
theorem dX7_holdingOf_51 : decode cX7_holdingOf 51 = .ok (.getfield 109, 3) := by decide +kernel
theorem dX7_holdingOf_54 : decode cX7_holdingOf 54 = .ok (.iload_n 1, 1) := by decide +kernel
theorem dX7_holdingOf_55 : decode cX7_holdingOf 55 = .ok (.iaload, 1) := by decide +kernel
theorem dX7_holdingOf_56 : decode cX7_holdingOf 56 = .ok (.tableswitch 160 1 3 #[28, 82, 118], 28) := by decide +kernel
theorem dX7_holdingOf_84 : decode cX7_holdingOf 84 = .ok (.iconst 0, 1) := by decide +kernel
theorem dX7_holdingOf_85 : decode cX7_holdingOf 85 = .ok (.istore 8, 2) := by decide +kernel
theorem dX7_holdingOf_87 : decode cX7_holdingOf 87 = .ok (.iload 8, 2) := by decide +kernel
theorem dX7_holdingOf_89 : decode cX7_holdingOf 89 = .ok (.iconst 4, 1) := by decide +kernel
theorem dX7_holdingOf_90 : decode cX7_holdingOf 90 = .ok (.if_icmp .gt 45, 3) := by decide +kernel
theorem dX7_holdingOf_93 : decode cX7_holdingOf 93 = .ok (.lload 6, 2) := by decide +kernel
theorem dX7_holdingOf_95 : decode cX7_holdingOf 95 = .ok (.lload_n 3, 1) := by decide +kernel
theorem dX7_holdingOf_96 : decode cX7_holdingOf 96 = .ok (.iload 5, 2) := by decide +kernel
theorem dX7_holdingOf_98 : decode cX7_holdingOf 98 = .ok (.iload 8, 2) := by decide +kernel
theorem dX7_holdingOf_100 : decode cX7_holdingOf 100 = .ok (.iadd, 1) := by decide +kernel
theorem dX7_holdingOf_101 : decode cX7_holdingOf 101 = .ok (.invokestatic 112, 3) := by decide +kernel
theorem dX7_holdingOf_104 : decode cX7_holdingOf 104 = .ok (.aload_n 0, 1) := by decide +kernel
theorem dX7_holdingOf_105 : decode cX7_holdingOf 105 = .ok (.getfield 53, 3) := by decide +kernel
theorem dX7_holdingOf_108 : decode cX7_holdingOf 108 = .ok (.lload_n 3, 1) := by decide +kernel
theorem dX7_holdingOf_109 : decode cX7_holdingOf 109 = .ok (.ldc2_w 99, 3) := by decide +kernel
theorem dX7_holdingOf_112 : decode cX7_holdingOf 112 = .ok (.lxor, 1) := by decide +kernel
theorem dX7_holdingOf_113 : decode cX7_holdingOf 113 = .ok (.land, 1) := by decide +kernel
theorem dX7_holdingOf_114 : decode cX7_holdingOf 114 = .ok (.iload 8, 2) := by decide +kernel
theorem dX7_holdingOf_116 : decode cX7_holdingOf 116 = .ok (.iconst 1, 1) := by decide +kernel
theorem dX7_holdingOf_117 : decode cX7_holdingOf 117 = .ok (.iadd, 1) := by decide +kernel
theorem dX7_holdingOf_118 : decode cX7_holdingOf 118 = .ok (.invokestatic 112, 3) := by decide +kernel
theorem dX7_holdingOf_121 : decode cX7_holdingOf 121 = .ok (.ldc2_w 99, 3) := by decide +kernel
theorem dX7_holdingOf_124 : decode cX7_holdingOf 124 = .ok (.lxor, 1) := by decide +kernel
theorem dX7_holdingOf_125 : decode cX7_holdingOf 125 = .ok (.land, 1) := by decide +kernel
theorem dX7_holdingOf_126 : decode cX7_holdingOf 126 = .ok (.lor, 1) := by decide +kernel
theorem dX7_holdingOf_127 : decode cX7_holdingOf 127 = .ok (.lstore 6, 2) := by decide +kernel
theorem dX7_holdingOf_129 : decode cX7_holdingOf 129 = .ok (.iinc 8 1, 3) := by decide +kernel
theorem dX7_holdingOf_132 : decode cX7_holdingOf 132 = .ok (.goto (-45), 3) := by decide +kernel
theorem dX7_holdingOf_135 : decode cX7_holdingOf 135 = .ok (.goto 89, 3) := by decide +kernel
theorem dX7_holdingOf_138 : decode cX7_holdingOf 138 = .ok (.lload_n 3, 1) := by decide +kernel
theorem dX7_holdingOf_139 : decode cX7_holdingOf 139 = .ok (.iload 5, 2) := by decide +kernel
theorem dX7_holdingOf_141 : decode cX7_holdingOf 141 = .ok (.invokestatic 112, 3) := by decide +kernel
theorem dX7_holdingOf_144 : decode cX7_holdingOf 144 = .ok (.lload_n 3, 1) := by decide +kernel
theorem dX7_holdingOf_145 : decode cX7_holdingOf 145 = .ok (.iload 5, 2) := by decide +kernel
theorem dX7_holdingOf_147 : decode cX7_holdingOf 147 = .ok (.iconst 2, 1) := by decide +kernel
theorem dX7_holdingOf_148 : decode cX7_holdingOf 148 = .ok (.isub, 1) := by decide +kernel
theorem dX7_holdingOf_149 : decode cX7_holdingOf 149 = .ok (.invokestatic 112, 3) := by decide +kernel
theorem dX7_holdingOf_152 : decode cX7_holdingOf 152 = .ok (.aload_n 0, 1) := by decide +kernel
theorem dX7_holdingOf_153 : decode cX7_holdingOf 153 = .ok (.iconst 2, 1) := by decide +kernel
theorem dX7_holdingOf_154 : decode cX7_holdingOf 154 = .ok (.invokevirtual 116, 3) := by decide +kernel
theorem dX7_holdingOf_157 : decode cX7_holdingOf 157 = .ok (.lload_n 3, 1) := by decide +kernel
theorem dX7_holdingOf_158 : decode cX7_holdingOf 158 = .ok (.ldc2_w 99, 3) := by decide +kernel
theorem dX7_holdingOf_161 : decode cX7_holdingOf 161 = .ok (.lxor, 1) := by decide +kernel
theorem dX7_holdingOf_162 : decode cX7_holdingOf 162 = .ok (.land, 1) := by decide +kernel
theorem dX7_holdingOf_163 : decode cX7_holdingOf 163 = .ok (.iconst 1, 1) := by decide +kernel
theorem dX7_holdingOf_164 : decode cX7_holdingOf 164 = .ok (.invokestatic 112, 3) := by decide +kernel
theorem dX7_holdingOf_167 : decode cX7_holdingOf 167 = .ok (.land, 1) := by decide +kernel
theorem dX7_holdingOf_168 : decode cX7_holdingOf 168 = .ok (.lor, 1) := by decide +kernel
theorem dX7_holdingOf_169 : decode cX7_holdingOf 169 = .ok (.lstore 6, 2) := by decide +kernel
theorem dX7_holdingOf_171 : decode cX7_holdingOf 171 = .ok (.goto 53, 3) := by decide +kernel
theorem dX7_holdingOf_174 : decode cX7_holdingOf 174 = .ok (.iconst 0, 1) := by decide +kernel
theorem dX7_holdingOf_175 : decode cX7_holdingOf 175 = .ok (.istore 8, 2) := by decide +kernel
theorem dX7_holdingOf_177 : decode cX7_holdingOf 177 = .ok (.iload 8, 2) := by decide +kernel
theorem dX7_holdingOf_179 : decode cX7_holdingOf 179 = .ok (.iconst 5, 1) := by decide +kernel
theorem dX7_holdingOf_180 : decode cX7_holdingOf 180 = .ok (.if_icmp .ge 33, 3) := by decide +kernel
theorem dX7_holdingOf_183 : decode cX7_holdingOf 183 = .ok (.lload 6, 2) := by decide +kernel
theorem dX7_holdingOf_185 : decode cX7_holdingOf 185 = .ok (.lload_n 3, 1) := by decide +kernel
theorem dX7_holdingOf_186 : decode cX7_holdingOf 186 = .ok (.iload 5, 2) := by decide +kernel
theorem dX7_holdingOf_188 : decode cX7_holdingOf 188 = .ok (.iload 8, 2) := by decide +kernel
theorem dX7_holdingOf_190 : decode cX7_holdingOf 190 = .ok (.iadd, 1) := by decide +kernel
theorem dX7_holdingOf_191 : decode cX7_holdingOf 191 = .ok (.invokestatic 112, 3) := by decide +kernel
theorem dX7_holdingOf_194 : decode cX7_holdingOf 194 = .ok (.ldc2_w 120, 3) := by decide +kernel
theorem dX7_holdingOf_197 : decode cX7_holdingOf 197 = .ok (.bipush 8, 2) := by decide +kernel
theorem dX7_holdingOf_199 : decode cX7_holdingOf 199 = .ok (.iload 8, 2) := by decide +kernel
theorem dX7_holdingOf_201 : decode cX7_holdingOf 201 = .ok (.imul, 1) := by decide +kernel
theorem dX7_holdingOf_202 : decode cX7_holdingOf 202 = .ok (.lshl, 1) := by decide +kernel
theorem dX7_holdingOf_203 : decode cX7_holdingOf 203 = .ok (.land, 1) := by decide +kernel
theorem dX7_holdingOf_204 : decode cX7_holdingOf 204 = .ok (.lor, 1) := by decide +kernel
theorem dX7_holdingOf_205 : decode cX7_holdingOf 205 = .ok (.lstore 6, 2) := by decide +kernel
theorem dX7_holdingOf_207 : decode cX7_holdingOf 207 = .ok (.iinc 8 1, 3) := by decide +kernel
theorem dX7_holdingOf_210 : decode cX7_holdingOf 210 = .ok (.goto (-33), 3) := by decide +kernel
theorem dX7_holdingOf_213 : decode cX7_holdingOf 213 = .ok (.goto 11, 3) := by decide +kernel
theorem dX7_holdingOf_216 : decode cX7_holdingOf 216 = .ok (.lload_n 3, 1) := by decide +kernel
theorem dX7_holdingOf_217 : decode cX7_holdingOf 217 = .ok (.iload 5, 2) := by decide +kernel
theorem dX7_holdingOf_219 : decode cX7_holdingOf 219 = .ok (.invokestatic 112, 3) := by decide +kernel
theorem dX7_holdingOf_222 : decode cX7_holdingOf 222 = .ok (.lstore 6, 2) := by decide +kernel
theorem dX7_holdingOf_224 : decode cX7_holdingOf 224 = .ok (.lload_n 3, 1) := by decide +kernel
theorem dX7_holdingOf_225 : decode cX7_holdingOf 225 = .ok (.lload 6, 2) := by decide +kernel
theorem dX7_holdingOf_227 : decode cX7_holdingOf 227 = .ok (.land, 1) := by decide +kernel
theorem dX7_holdingOf_228 : decode cX7_holdingOf 228 = .ok (.lreturn, 1) := by decide +kernel
theorem dX7_nowOf_0 : decode cX7_nowOf 0 = .ok (.lconst 0, 1) := by decide +kernel
theorem dX7_nowOf_1 : decode cX7_nowOf 1 = .ok (.lstore_n 2, 1) := by decide +kernel
theorem dX7_nowOf_2 : decode cX7_nowOf 2 = .ok (.iconst 0, 1) := by decide +kernel
theorem dX7_nowOf_3 : decode cX7_nowOf 3 = .ok (.istore 4, 2) := by decide +kernel
theorem dX7_nowOf_5 : decode cX7_nowOf 5 = .ok (.iload 4, 2) := by decide +kernel
theorem dX7_nowOf_7 : decode cX7_nowOf 7 = .ok (.aload_n 0, 1) := by decide +kernel
theorem dX7_nowOf_8 : decode cX7_nowOf 8 = .ok (.getfield 32, 3) := by decide +kernel
theorem dX7_nowOf_11 : decode cX7_nowOf 11 = .ok (.getfield 81, 3) := by decide +kernel
theorem dX7_nowOf_14 : decode cX7_nowOf 14 = .ok (.if_icmp .ge 33, 3) := by decide +kernel
theorem dX7_nowOf_17 : decode cX7_nowOf 17 = .ok (.aload_n 0, 1) := by decide +kernel
theorem dX7_nowOf_18 : decode cX7_nowOf 18 = .ok (.getfield 32, 3) := by decide +kernel
theorem dX7_nowOf_21 : decode cX7_nowOf 21 = .ok (.getfield 109, 3) := by decide +kernel
theorem dX7_nowOf_24 : decode cX7_nowOf 24 = .ok (.iload 4, 2) := by decide +kernel
theorem dX7_nowOf_26 : decode cX7_nowOf 26 = .ok (.iaload, 1) := by decide +kernel
theorem dX7_nowOf_27 : decode cX7_nowOf 27 = .ok (.iload_n 1, 1) := by decide +kernel
theorem dX7_nowOf_28 : decode cX7_nowOf 28 = .ok (.if_icmp .ne 13, 3) := by decide +kernel
theorem dX7_nowOf_31 : decode cX7_nowOf 31 = .ok (.lload_n 2, 1) := by decide +kernel
theorem dX7_nowOf_32 : decode cX7_nowOf 32 = .ok (.aload_n 0, 1) := by decide +kernel
theorem dX7_nowOf_33 : decode cX7_nowOf 33 = .ok (.getfield 9, 3) := by decide +kernel
theorem dX7_nowOf_36 : decode cX7_nowOf 36 = .ok (.iload 4, 2) := by decide +kernel
theorem dX7_nowOf_38 : decode cX7_nowOf 38 = .ok (.laload, 1) := by decide +kernel
theorem dX7_nowOf_39 : decode cX7_nowOf 39 = .ok (.lor, 1) := by decide +kernel
theorem dX7_nowOf_40 : decode cX7_nowOf 40 = .ok (.lstore_n 2, 1) := by decide +kernel
theorem dX7_nowOf_41 : decode cX7_nowOf 41 = .ok (.iinc 4 1, 3) := by decide +kernel
theorem dX7_nowOf_44 : decode cX7_nowOf 44 = .ok (.goto (-39), 3) := by decide +kernel
theorem dX7_nowOf_47 : decode cX7_nowOf 47 = .ok (.lload_n 2, 1) := by decide +kernel
theorem dX7_nowOf_48 : decode cX7_nowOf 48 = .ok (.lreturn, 1) := by decide +kernel
theorem dX7_fillGaps_0 : decode cX7_fillGaps 0 = .ok (.iconst 0, 1) := by decide +kernel
theorem dX7_fillGaps_1 : decode cX7_fillGaps 1 = .ok (.istore_n 2, 1) := by decide +kernel
theorem dX7_fillGaps_2 : decode cX7_fillGaps 2 = .ok (.iconst 0, 1) := by decide +kernel
theorem dX7_fillGaps_3 : decode cX7_fillGaps 3 = .ok (.istore_n 3, 1) := by decide +kernel
theorem dX7_fillGaps_4 : decode cX7_fillGaps 4 = .ok (.iload_n 3, 1) := by decide +kernel
theorem dX7_fillGaps_5 : decode cX7_fillGaps 5 = .ok (.aload_n 0, 1) := by decide +kernel
theorem dX7_fillGaps_6 : decode cX7_fillGaps 6 = .ok (.getfield 36, 3) := by decide +kernel
theorem dX7_fillGaps_9 : decode cX7_fillGaps 9 = .ok (.getfield 122, 3) := by decide +kernel
theorem dX7_fillGaps_12 : decode cX7_fillGaps 12 = .ok (.if_icmp .ge 66, 3) := by decide +kernel
theorem dX7_fillGaps_15 : decode cX7_fillGaps 15 = .ok (.aload_n 0, 1) := by decide +kernel
theorem dX7_fillGaps_16 : decode cX7_fillGaps 16 = .ok (.getfield 36, 3) := by decide +kernel
theorem dX7_fillGaps_19 : decode cX7_fillGaps 19 = .ok (.getfield 125, 3) := by decide +kernel
theorem dX7_fillGaps_22 : decode cX7_fillGaps 22 = .ok (.iload_n 3, 1) := by decide +kernel
theorem dX7_fillGaps_23 : decode cX7_fillGaps 23 = .ok (.iaload, 1) := by decide +kernel
theorem dX7_fillGaps_24 : decode cX7_fillGaps 24 = .ok (.iload_n 1, 1) := by decide +kernel
theorem dX7_fillGaps_25 : decode cX7_fillGaps 25 = .ok (.if_icmp .ne 47, 3) := by decide +kernel
theorem dX7_fillGaps_28 : decode cX7_fillGaps 28 = .ok (.aload_n 0, 1) := by decide +kernel
theorem dX7_fillGaps_29 : decode cX7_fillGaps 29 = .ok (.getfield 36, 3) := by decide +kernel
theorem dX7_fillGaps_32 : decode cX7_fillGaps 32 = .ok (.getfield 126, 3) := by decide +kernel
theorem dX7_fillGaps_35 : decode cX7_fillGaps 35 = .ok (.iload_n 3, 1) := by decide +kernel
theorem dX7_fillGaps_36 : decode cX7_fillGaps 36 = .ok (.iaload, 1) := by decide +kernel
theorem dX7_fillGaps_37 : decode cX7_fillGaps 37 = .ok (.aload_n 0, 1) := by decide +kernel
theorem dX7_fillGaps_38 : decode cX7_fillGaps 38 = .ok (.getfield 28, 3) := by decide +kernel
theorem dX7_fillGaps_41 : decode cX7_fillGaps 41 = .ok (.getfield 129, 3) := by decide +kernel
theorem dX7_fillGaps_44 : decode cX7_fillGaps 44 = .ok (.if_icmp .ge 28, 3) := by decide +kernel
theorem dX7_fillGaps_47 : decode cX7_fillGaps 47 = .ok (.iload_n 2, 1) := by decide +kernel
theorem dX7_fillGaps_48 : decode cX7_fillGaps 48 = .ok (.aload_n 0, 1) := by decide +kernel
theorem dX7_fillGaps_49 : decode cX7_fillGaps 49 = .ok (.aload_n 0, 1) := by decide +kernel
theorem dX7_fillGaps_50 : decode cX7_fillGaps 50 = .ok (.getfield 36, 3) := by decide +kernel
theorem dX7_fillGaps_53 : decode cX7_fillGaps 53 = .ok (.getfield 126, 3) := by decide +kernel
theorem dX7_fillGaps_56 : decode cX7_fillGaps 56 = .ok (.iload_n 3, 1) := by decide +kernel
theorem dX7_fillGaps_57 : decode cX7_fillGaps 57 = .ok (.iaload, 1) := by decide +kernel
theorem dX7_fillGaps_58 : decode cX7_fillGaps 58 = .ok (.aload_n 0, 1) := by decide +kernel
theorem dX7_fillGaps_59 : decode cX7_fillGaps 59 = .ok (.getfield 36, 3) := by decide +kernel
theorem dX7_fillGaps_62 : decode cX7_fillGaps 62 = .ok (.getfield 132, 3) := by decide +kernel
theorem dX7_fillGaps_65 : decode cX7_fillGaps 65 = .ok (.iload_n 3, 1) := by decide +kernel
theorem dX7_fillGaps_66 : decode cX7_fillGaps 66 = .ok (.iaload, 1) := by decide +kernel
theorem dX7_fillGaps_67 : decode cX7_fillGaps 67 = .ok (.invokevirtual 135, 3) := by decide +kernel
theorem dX7_fillGaps_70 : decode cX7_fillGaps 70 = .ok (.ior, 1) := by decide +kernel
theorem dX7_fillGaps_71 : decode cX7_fillGaps 71 = .ok (.istore_n 2, 1) := by decide +kernel
theorem dX7_fillGaps_72 : decode cX7_fillGaps 72 = .ok (.iinc 3 1, 3) := by decide +kernel
theorem dX7_fillGaps_75 : decode cX7_fillGaps 75 = .ok (.goto (-71), 3) := by decide +kernel
theorem dX7_fillGaps_78 : decode cX7_fillGaps 78 = .ok (.iload_n 2, 1) := by decide +kernel
theorem dX7_fillGaps_79 : decode cX7_fillGaps 79 = .ok (.ireturn, 1) := by decide +kernel
theorem dX7_fillGap_0 : decode cX7_fillGap 0 = .ok (.iconst 0, 1) := by decide +kernel
theorem dX7_fillGap_1 : decode cX7_fillGap 1 = .ok (.istore_n 3, 1) := by decide +kernel
theorem dX7_fillGap_2 : decode cX7_fillGap 2 = .ok (.iload_n 3, 1) := by decide +kernel
theorem dX7_fillGap_3 : decode cX7_fillGap 3 = .ok (.aload_n 0, 1) := by decide +kernel
theorem dX7_fillGap_4 : decode cX7_fillGap 4 = .ok (.getfield 28, 3) := by decide +kernel
theorem dX7_fillGap_7 : decode cX7_fillGap 7 = .ok (.getfield 139, 3) := by decide +kernel
theorem dX7_fillGap_10 : decode cX7_fillGap 10 = .ok (.if_icmp .ge 55, 3) := by decide +kernel
theorem dX7_fillGap_13 : decode cX7_fillGap 13 = .ok (.lconst 1, 1) := by decide +kernel
theorem dX7_fillGap_14 : decode cX7_fillGap 14 = .ok (.bipush 8, 2) := by decide +kernel
theorem dX7_fillGap_16 : decode cX7_fillGap 16 = .ok (.iload_n 3, 1) := by decide +kernel
theorem dX7_fillGap_17 : decode cX7_fillGap 17 = .ok (.imul, 1) := by decide +kernel
theorem dX7_fillGap_18 : decode cX7_fillGap 18 = .ok (.iload_n 1, 1) := by decide +kernel
theorem dX7_fillGap_19 : decode cX7_fillGap 19 = .ok (.iadd, 1) := by decide +kernel
theorem dX7_fillGap_20 : decode cX7_fillGap 20 = .ok (.lshl, 1) := by decide +kernel
theorem dX7_fillGap_21 : decode cX7_fillGap 21 = .ok (.lstore 4, 2) := by decide +kernel
theorem dX7_fillGap_23 : decode cX7_fillGap 23 = .ok (.aload_n 0, 1) := by decide +kernel
theorem dX7_fillGap_24 : decode cX7_fillGap 24 = .ok (.getfield 53, 3) := by decide +kernel
theorem dX7_fillGap_27 : decode cX7_fillGap 27 = .ok (.lload 4, 2) := by decide +kernel
theorem dX7_fillGap_29 : decode cX7_fillGap 29 = .ok (.land, 1) := by decide +kernel
theorem dX7_fillGap_30 : decode cX7_fillGap 30 = .ok (.lconst 0, 1) := by decide +kernel
theorem dX7_fillGap_31 : decode cX7_fillGap 31 = .ok (.lcmp, 1) := by decide +kernel
theorem dX7_fillGap_32 : decode cX7_fillGap 32 = .ok (.ifCond .ne 27, 3) := by decide +kernel
theorem dX7_fillGap_35 : decode cX7_fillGap 35 = .ok (.aload_n 0, 1) := by decide +kernel
theorem dX7_fillGap_36 : decode cX7_fillGap 36 = .ok (.getfield 9, 3) := by decide +kernel
theorem dX7_fillGap_39 : decode cX7_fillGap 39 = .ok (.iload_n 2, 1) := by decide +kernel
theorem dX7_fillGap_40 : decode cX7_fillGap 40 = .ok (.dup2, 1) := by decide +kernel
theorem dX7_fillGap_41 : decode cX7_fillGap 41 = .ok (.laload, 1) := by decide +kernel
theorem dX7_fillGap_42 : decode cX7_fillGap 42 = .ok (.lload 4, 2) := by decide +kernel
theorem dX7_fillGap_44 : decode cX7_fillGap 44 = .ok (.lor, 1) := by decide +kernel
theorem dX7_fillGap_45 : decode cX7_fillGap 45 = .ok (.lastore, 1) := by decide +kernel
theorem dX7_fillGap_46 : decode cX7_fillGap 46 = .ok (.aload_n 0, 1) := by decide +kernel
theorem dX7_fillGap_47 : decode cX7_fillGap 47 = .ok (.dup, 1) := by decide +kernel
theorem dX7_fillGap_48 : decode cX7_fillGap 48 = .ok (.getfield 53, 3) := by decide +kernel
theorem dX7_fillGap_51 : decode cX7_fillGap 51 = .ok (.lload 4, 2) := by decide +kernel
theorem dX7_fillGap_53 : decode cX7_fillGap 53 = .ok (.lor, 1) := by decide +kernel
theorem dX7_fillGap_54 : decode cX7_fillGap 54 = .ok (.putfield 53, 3) := by decide +kernel
theorem dX7_fillGap_57 : decode cX7_fillGap 57 = .ok (.iconst 1, 1) := by decide +kernel
theorem dX7_fillGap_58 : decode cX7_fillGap 58 = .ok (.ireturn, 1) := by decide +kernel
theorem dX7_fillGap_59 : decode cX7_fillGap 59 = .ok (.iinc 3 1, 3) := by decide +kernel
theorem dX7_fillGap_62 : decode cX7_fillGap 62 = .ok (.goto (-60), 3) := by decide +kernel
theorem dX7_fillGap_65 : decode cX7_fillGap 65 = .ok (.iconst 0, 1) := by decide +kernel
theorem dX7_fillGap_66 : decode cX7_fillGap 66 = .ok (.ireturn, 1) := by decide +kernel
theorem dX7_openColumns_0 : decode cX7_openColumns 0 = .ok (.aload_n 0, 1) := by decide +kernel
theorem dX7_openColumns_1 : decode cX7_openColumns 1 = .ok (.iconst 2, 1) := by decide +kernel
theorem dX7_openColumns_2 : decode cX7_openColumns 2 = .ok (.invokevirtual 116, 3) := by decide +kernel
theorem dX7_openColumns_5 : decode cX7_openColumns 5 = .ok (.lstore_n 1, 1) := by decide +kernel
theorem dX7_openColumns_6 : decode cX7_openColumns 6 = .ok (.aload_n 0, 1) := by decide +kernel
theorem dX7_openColumns_7 : decode cX7_openColumns 7 = .ok (.iconst 1, 1) := by decide +kernel
theorem dX7_openColumns_8 : decode cX7_openColumns 8 = .ok (.invokevirtual 116, 3) := by decide +kernel
theorem dX7_openColumns_11 : decode cX7_openColumns 11 = .ok (.lstore_n 3, 1) := by decide +kernel
theorem dX7_openColumns_12 : decode cX7_openColumns 12 = .ok (.iconst 0, 1) := by decide +kernel
theorem dX7_openColumns_13 : decode cX7_openColumns 13 = .ok (.istore 5, 2) := by decide +kernel
theorem dX7_openColumns_15 : decode cX7_openColumns 15 = .ok (.iconst 0, 1) := by decide +kernel
theorem dX7_openColumns_16 : decode cX7_openColumns 16 = .ok (.istore 6, 2) := by decide +kernel
theorem dX7_openColumns_18 : decode cX7_openColumns 18 = .ok (.iload 6, 2) := by decide +kernel
theorem dX7_openColumns_20 : decode cX7_openColumns 20 = .ok (.aload_n 0, 1) := by decide +kernel
theorem dX7_openColumns_21 : decode cX7_openColumns 21 = .ok (.getfield 28, 3) := by decide +kernel
theorem dX7_openColumns_24 : decode cX7_openColumns 24 = .ok (.getfield 129, 3) := by decide +kernel
theorem dX7_openColumns_27 : decode cX7_openColumns 27 = .ok (.if_icmp .ge 80, 3) := by decide +kernel
theorem dX7_openColumns_30 : decode cX7_openColumns 30 = .ok (.ldc2_w 142, 3) := by decide +kernel
theorem dX7_openColumns_33 : decode cX7_openColumns 33 = .ok (.iload 6, 2) := by decide +kernel
theorem dX7_openColumns_35 : decode cX7_openColumns 35 = .ok (.lshl, 1) := by decide +kernel
theorem dX7_openColumns_36 : decode cX7_openColumns 36 = .ok (.lstore 7, 2) := by decide +kernel
theorem dX7_openColumns_38 : decode cX7_openColumns 38 = .ok (.lload_n 1, 1) := by decide +kernel
theorem dX7_openColumns_39 : decode cX7_openColumns 39 = .ok (.lload 7, 2) := by decide +kernel
theorem dX7_openColumns_41 : decode cX7_openColumns 41 = .ok (.land, 1) := by decide +kernel
theorem dX7_openColumns_42 : decode cX7_openColumns 42 = .ok (.lconst 0, 1) := by decide +kernel
theorem dX7_openColumns_43 : decode cX7_openColumns 43 = .ok (.lcmp, 1) := by decide +kernel
theorem dX7_openColumns_44 : decode cX7_openColumns 44 = .ok (.ifCond .ne 13, 3) := by decide +kernel
theorem dX7_openColumns_47 : decode cX7_openColumns 47 = .ok (.aload_n 0, 1) := by decide +kernel
theorem dX7_openColumns_48 : decode cX7_openColumns 48 = .ok (.getfield 28, 3) := by decide +kernel
theorem dX7_openColumns_51 : decode cX7_openColumns 51 = .ok (.getfield 144, 3) := by decide +kernel
theorem dX7_openColumns_54 : decode cX7_openColumns 54 = .ok (.goto 12, 3) := by decide +kernel
theorem dX7_openColumns_57 : decode cX7_openColumns 57 = .ok (.aload_n 0, 1) := by decide +kernel
theorem dX7_openColumns_58 : decode cX7_openColumns 58 = .ok (.getfield 28, 3) := by decide +kernel
theorem dX7_openColumns_61 : decode cX7_openColumns 61 = .ok (.getfield 144, 3) := by decide +kernel
theorem dX7_openColumns_64 : decode cX7_openColumns 64 = .ok (.iconst 1, 1) := by decide +kernel
theorem dX7_openColumns_65 : decode cX7_openColumns 65 = .ok (.iadd, 1) := by decide +kernel
theorem dX7_openColumns_66 : decode cX7_openColumns 66 = .ok (.istore 9, 2) := by decide +kernel
theorem dX7_openColumns_68 : decode cX7_openColumns 68 = .ok (.lload_n 3, 1) := by decide +kernel
theorem dX7_openColumns_69 : decode cX7_openColumns 69 = .ok (.lload 7, 2) := by decide +kernel
theorem dX7_openColumns_71 : decode cX7_openColumns 71 = .ok (.land, 1) := by decide +kernel
theorem dX7_openColumns_72 : decode cX7_openColumns 72 = .ok (.lconst 0, 1) := by decide +kernel
theorem dX7_openColumns_73 : decode cX7_openColumns 73 = .ok (.lcmp, 1) := by decide +kernel
theorem dX7_openColumns_74 : decode cX7_openColumns 74 = .ok (.ifCond .ne 27, 3) := by decide +kernel
theorem dX7_openColumns_77 : decode cX7_openColumns 77 = .ok (.aload_n 0, 1) := by decide +kernel
theorem dX7_openColumns_78 : decode cX7_openColumns 78 = .ok (.getfield 53, 3) := by decide +kernel
theorem dX7_openColumns_81 : decode cX7_openColumns 81 = .ok (.lload 7, 2) := by decide +kernel
theorem dX7_openColumns_83 : decode cX7_openColumns 83 = .ok (.land, 1) := by decide +kernel
theorem dX7_openColumns_84 : decode cX7_openColumns 84 = .ok (.invokestatic 101, 3) := by decide +kernel
theorem dX7_openColumns_87 : decode cX7_openColumns 87 = .ok (.iload 9, 2) := by decide +kernel
theorem dX7_openColumns_89 : decode cX7_openColumns 89 = .ok (.if_icmp .ge 12, 3) := by decide +kernel
theorem dX7_openColumns_92 : decode cX7_openColumns 92 = .ok (.iload 5, 2) := by decide +kernel
theorem dX7_openColumns_94 : decode cX7_openColumns 94 = .ok (.iconst 1, 1) := by decide +kernel
theorem dX7_openColumns_95 : decode cX7_openColumns 95 = .ok (.iload 6, 2) := by decide +kernel
theorem dX7_openColumns_97 : decode cX7_openColumns 97 = .ok (.ishl, 1) := by decide +kernel
theorem dX7_openColumns_98 : decode cX7_openColumns 98 = .ok (.ior, 1) := by decide +kernel
theorem dX7_openColumns_99 : decode cX7_openColumns 99 = .ok (.istore 5, 2) := by decide +kernel
theorem dX7_openColumns_101 : decode cX7_openColumns 101 = .ok (.iinc 6 1, 3) := by decide +kernel
theorem dX7_openColumns_104 : decode cX7_openColumns 104 = .ok (.goto (-86), 3) := by decide +kernel
theorem dX7_openColumns_107 : decode cX7_openColumns 107 = .ok (.iload 5, 2) := by decide +kernel
theorem dX7_openColumns_109 : decode cX7_openColumns 109 = .ok (.ireturn, 1) := by decide +kernel
theorem dX7_setterBehind_0 : decode cX7_setterBehind 0 = .ok (.aload_n 0, 1) := by decide +kernel
theorem dX7_setterBehind_1 : decode cX7_setterBehind 1 = .ok (.getfield 15, 3) := by decide +kernel
theorem dX7_setterBehind_4 : decode cX7_setterBehind 4 = .ok (.bipush 8, 2) := by decide +kernel
theorem dX7_setterBehind_6 : decode cX7_setterBehind 6 = .ok (.iload_n 1, 1) := by decide +kernel
theorem dX7_setterBehind_7 : decode cX7_setterBehind 7 = .ok (.imul, 1) := by decide +kernel
theorem dX7_setterBehind_8 : decode cX7_setterBehind 8 = .ok (.iload_n 2, 1) := by decide +kernel
theorem dX7_setterBehind_9 : decode cX7_setterBehind 9 = .ok (.invokestatic 147, 3) := by decide +kernel
theorem dX7_setterBehind_12 : decode cX7_setterBehind 12 = .ok (.ireturn, 1) := by decide +kernel
theorem dX7_holdBehind_0 : decode cX7_holdBehind 0 = .ok (.aload_n 0, 1) := by decide +kernel
theorem dX7_holdBehind_1 : decode cX7_holdBehind 1 = .ok (.iload_n 1, 1) := by decide +kernel
theorem dX7_holdBehind_2 : decode cX7_holdBehind 2 = .ok (.iload_n 2, 1) := by decide +kernel
theorem dX7_holdBehind_3 : decode cX7_holdBehind 3 = .ok (.invokevirtual 151, 3) := by decide +kernel
theorem dX7_holdBehind_6 : decode cX7_holdBehind 6 = .ok (.istore_n 3, 1) := by decide +kernel
theorem dX7_holdBehind_7 : decode cX7_holdBehind 7 = .ok (.iload_n 3, 1) := by decide +kernel
theorem dX7_holdBehind_8 : decode cX7_holdBehind 8 = .ok (.iconst (-1), 1) := by decide +kernel
theorem dX7_holdBehind_9 : decode cX7_holdBehind 9 = .ok (.if_icmp .ne 5, 3) := by decide +kernel
theorem dX7_holdBehind_12 : decode cX7_holdBehind 12 = .ok (.iconst (-1), 1) := by decide +kernel
theorem dX7_holdBehind_13 : decode cX7_holdBehind 13 = .ok (.ireturn, 1) := by decide +kernel
theorem dX7_holdBehind_14 : decode cX7_holdBehind 14 = .ok (.aload_n 0, 1) := by decide +kernel
theorem dX7_holdBehind_15 : decode cX7_holdBehind 15 = .ok (.getfield 15, 3) := by decide +kernel
theorem dX7_holdBehind_18 : decode cX7_holdBehind 18 = .ok (.bipush 8, 2) := by decide +kernel
theorem dX7_holdBehind_20 : decode cX7_holdBehind 20 = .ok (.iload_n 1, 1) := by decide +kernel
theorem dX7_holdBehind_21 : decode cX7_holdBehind 21 = .ok (.imul, 1) := by decide +kernel
theorem dX7_holdBehind_22 : decode cX7_holdBehind 22 = .ok (.aload_n 0, 1) := by decide +kernel
theorem dX7_holdBehind_23 : decode cX7_holdBehind 23 = .ok (.getfield 9, 3) := by decide +kernel
theorem dX7_holdBehind_26 : decode cX7_holdBehind 26 = .ok (.iconst 0, 1) := by decide +kernel
theorem dX7_holdBehind_27 : decode cX7_holdBehind 27 = .ok (.bipush 8, 2) := by decide +kernel
theorem dX7_holdBehind_29 : decode cX7_holdBehind 29 = .ok (.invokestatic 43, 3) := by decide +kernel
theorem dX7_holdBehind_32 : decode cX7_holdBehind 32 = .ok (.aload_n 0, 1) := by decide +kernel
theorem dX7_holdBehind_33 : decode cX7_holdBehind 33 = .ok (.aload_n 0, 1) := by decide +kernel
theorem dX7_holdBehind_34 : decode cX7_holdBehind 34 = .ok (.getfield 18, 3) := by decide +kernel
theorem dX7_holdBehind_37 : decode cX7_holdBehind 37 = .ok (.iload_n 1, 1) := by decide +kernel
theorem dX7_holdBehind_38 : decode cX7_holdBehind 38 = .ok (.laload, 1) := by decide +kernel
theorem dX7_holdBehind_39 : decode cX7_holdBehind 39 = .ok (.putfield 53, 3) := by decide +kernel
theorem dX7_holdBehind_42 : decode cX7_holdBehind 42 = .ok (.iconst 0, 1) := by decide +kernel
theorem dX7_holdBehind_43 : decode cX7_holdBehind 43 = .ok (.istore 4, 2) := by decide +kernel
theorem dX7_holdBehind_45 : decode cX7_holdBehind 45 = .ok (.iconst 1, 1) := by decide +kernel
theorem dX7_holdBehind_46 : decode cX7_holdBehind 46 = .ok (.istore 5, 2) := by decide +kernel
theorem dX7_holdBehind_48 : decode cX7_holdBehind 48 = .ok (.iload 5, 2) := by decide +kernel
theorem dX7_holdBehind_50 : decode cX7_holdBehind 50 = .ok (.bipush 15, 2) := by decide +kernel
theorem dX7_holdBehind_52 : decode cX7_holdBehind 52 = .ok (.if_icmp .gt 27, 3) := by decide +kernel
theorem dX7_holdBehind_55 : decode cX7_holdBehind 55 = .ok (.aload_n 0, 1) := by decide +kernel
theorem dX7_holdBehind_56 : decode cX7_holdBehind 56 = .ok (.iload_n 3, 1) := by decide +kernel
theorem dX7_holdBehind_57 : decode cX7_holdBehind 57 = .ok (.iload 5, 2) := by decide +kernel
theorem dX7_holdBehind_59 : decode cX7_holdBehind 59 = .ok (.invokevirtual 87, 3) := by decide +kernel
theorem dX7_holdBehind_62 : decode cX7_holdBehind 62 = .ok (.iload_n 2, 1) := by decide +kernel
theorem dX7_holdBehind_63 : decode cX7_holdBehind 63 = .ok (.invokestatic 155, 3) := by decide +kernel
theorem dX7_holdBehind_66 : decode cX7_holdBehind 66 = .ok (.ifCond .eq 7, 3) := by decide +kernel
theorem dX7_holdBehind_69 : decode cX7_holdBehind 69 = .ok (.iload 5, 2) := by decide +kernel
theorem dX7_holdBehind_71 : decode cX7_holdBehind 71 = .ok (.istore 4, 2) := by decide +kernel
theorem dX7_holdBehind_73 : decode cX7_holdBehind 73 = .ok (.iinc 5 1, 3) := by decide +kernel
theorem dX7_holdBehind_76 : decode cX7_holdBehind 76 = .ok (.goto (-28), 3) := by decide +kernel
theorem dX7_holdBehind_79 : decode cX7_holdBehind 79 = .ok (.iload 4, 2) := by decide +kernel
theorem dX7_holdBehind_81 : decode cX7_holdBehind 81 = .ok (.ireturn, 1) := by decide +kernel
theorem dX7_highBehind_0 : decode cX7_highBehind 0 = .ok (.aload_n 0, 1) := by decide +kernel
theorem dX7_highBehind_1 : decode cX7_highBehind 1 = .ok (.getfield 18, 3) := by decide +kernel
theorem dX7_highBehind_4 : decode cX7_highBehind 4 = .ok (.iload_n 1, 1) := by decide +kernel
theorem dX7_highBehind_5 : decode cX7_highBehind 5 = .ok (.laload, 1) := by decide +kernel
theorem dX7_highBehind_6 : decode cX7_highBehind 6 = .ok (.ldc2_w 142, 3) := by decide +kernel
theorem dX7_highBehind_9 : decode cX7_highBehind 9 = .ok (.iload_n 2, 1) := by decide +kernel
theorem dX7_highBehind_10 : decode cX7_highBehind 10 = .ok (.lshl, 1) := by decide +kernel
theorem dX7_highBehind_11 : decode cX7_highBehind 11 = .ok (.land, 1) := by decide +kernel
theorem dX7_highBehind_12 : decode cX7_highBehind 12 = .ok (.invokestatic 101, 3) := by decide +kernel
theorem dX7_highBehind_15 : decode cX7_highBehind 15 = .ok (.ireturn, 1) := by decide +kernel
theorem dX7_lastingOf_0 : decode cX7_lastingOf 0 = .ok (.aload_n 0, 1) := by decide +kernel
theorem dX7_lastingOf_1 : decode cX7_lastingOf 1 = .ok (.getfield 15, 3) := by decide +kernel
theorem dX7_lastingOf_4 : decode cX7_lastingOf 4 = .ok (.sipush 152, 3) := by decide +kernel
theorem dX7_lastingOf_7 : decode cX7_lastingOf 7 = .ok (.iload_n 1, 1) := by decide +kernel
theorem dX7_lastingOf_8 : decode cX7_lastingOf 8 = .ok (.iadd, 1) := by decide +kernel
theorem dX7_lastingOf_9 : decode cX7_lastingOf 9 = .ok (.laload, 1) := by decide +kernel
theorem dX7_lastingOf_10 : decode cX7_lastingOf 10 = .ok (.invokestatic 101, 3) := by decide +kernel
theorem dX7_lastingOf_13 : decode cX7_lastingOf 13 = .ok (.ireturn, 1) := by decide +kernel
theorem dX7_firstOpenYear_0 : decode cX7_firstOpenYear 0 = .ok (.iconst 0, 1) := by decide +kernel
theorem dX7_firstOpenYear_1 : decode cX7_firstOpenYear 1 = .ok (.istore_n 1, 1) := by decide +kernel
theorem dX7_firstOpenYear_2 : decode cX7_firstOpenYear 2 = .ok (.iload_n 1, 1) := by decide +kernel
theorem dX7_firstOpenYear_3 : decode cX7_firstOpenYear 3 = .ok (.bipush 20, 2) := by decide +kernel
theorem dX7_firstOpenYear_5 : decode cX7_firstOpenYear 5 = .ok (.if_icmp .ge 20, 3) := by decide +kernel
theorem dX7_firstOpenYear_8 : decode cX7_firstOpenYear 8 = .ok (.aload_n 0, 1) := by decide +kernel
theorem dX7_firstOpenYear_9 : decode cX7_firstOpenYear 9 = .ok (.getfield 21, 3) := by decide +kernel
theorem dX7_firstOpenYear_12 : decode cX7_firstOpenYear 12 = .ok (.iload_n 1, 1) := by decide +kernel
theorem dX7_firstOpenYear_13 : decode cX7_firstOpenYear 13 = .ok (.iaload, 1) := by decide +kernel
theorem dX7_firstOpenYear_14 : decode cX7_firstOpenYear 14 = .ok (.ifCond .eq 5, 3) := by decide +kernel
theorem dX7_firstOpenYear_17 : decode cX7_firstOpenYear 17 = .ok (.iload_n 1, 1) := by decide +kernel
theorem dX7_firstOpenYear_18 : decode cX7_firstOpenYear 18 = .ok (.ireturn, 1) := by decide +kernel
theorem dX7_firstOpenYear_19 : decode cX7_firstOpenYear 19 = .ok (.iinc 1 1, 3) := by decide +kernel
theorem dX7_firstOpenYear_22 : decode cX7_firstOpenYear 22 = .ok (.goto (-20), 3) := by decide +kernel
theorem dX7_firstOpenYear_25 : decode cX7_firstOpenYear 25 = .ok (.iconst (-1), 1) := by decide +kernel
theorem dX7_firstOpenYear_26 : decode cX7_firstOpenYear 26 = .ok (.ireturn, 1) := by decide +kernel
theorem dX7_openYears_0 : decode cX7_openYears 0 = .ok (.iconst 0, 1) := by decide +kernel
theorem dX7_openYears_1 : decode cX7_openYears 1 = .ok (.istore_n 1, 1) := by decide +kernel
theorem dX7_openYears_2 : decode cX7_openYears 2 = .ok (.iconst 0, 1) := by decide +kernel
theorem dX7_openYears_3 : decode cX7_openYears 3 = .ok (.istore_n 2, 1) := by decide +kernel
theorem dX7_openYears_4 : decode cX7_openYears 4 = .ok (.iload_n 2, 1) := by decide +kernel
theorem dX7_openYears_5 : decode cX7_openYears 5 = .ok (.bipush 20, 2) := by decide +kernel
theorem dX7_openYears_7 : decode cX7_openYears 7 = .ok (.if_icmp .ge 21, 3) := by decide +kernel
theorem dX7_openYears_10 : decode cX7_openYears 10 = .ok (.aload_n 0, 1) := by decide +kernel
theorem dX7_openYears_11 : decode cX7_openYears 11 = .ok (.getfield 21, 3) := by decide +kernel
theorem dX7_openYears_14 : decode cX7_openYears 14 = .ok (.iload_n 2, 1) := by decide +kernel
theorem dX7_openYears_15 : decode cX7_openYears 15 = .ok (.iaload, 1) := by decide +kernel
theorem dX7_openYears_16 : decode cX7_openYears 16 = .ok (.ifCond .eq 6, 3) := by decide +kernel
theorem dX7_openYears_19 : decode cX7_openYears 19 = .ok (.iinc 1 1, 3) := by decide +kernel
theorem dX7_openYears_22 : decode cX7_openYears 22 = .ok (.iinc 2 1, 3) := by decide +kernel
theorem dX7_openYears_25 : decode cX7_openYears 25 = .ok (.goto (-21), 3) := by decide +kernel
theorem dX7_openYears_28 : decode cX7_openYears 28 = .ok (.iload_n 1, 1) := by decide +kernel
theorem dX7_openYears_29 : decode cX7_openYears 29 = .ok (.ireturn, 1) := by decide +kernel
theorem dX7_allFallen_0 : decode cX7_allFallen 0 = .ok (.iconst 0, 1) := by decide +kernel
theorem dX7_allFallen_1 : decode cX7_allFallen 1 = .ok (.istore_n 1, 1) := by decide +kernel
theorem dX7_allFallen_2 : decode cX7_allFallen 2 = .ok (.iconst 0, 1) := by decide +kernel
theorem dX7_allFallen_3 : decode cX7_allFallen 3 = .ok (.istore_n 2, 1) := by decide +kernel
theorem dX7_allFallen_4 : decode cX7_allFallen 4 = .ok (.iload_n 2, 1) := by decide +kernel
theorem dX7_allFallen_5 : decode cX7_allFallen 5 = .ok (.bipush 20, 2) := by decide +kernel
theorem dX7_allFallen_7 : decode cX7_allFallen 7 = .ok (.if_icmp .ge 18, 3) := by decide +kernel
theorem dX7_allFallen_10 : decode cX7_allFallen 10 = .ok (.iload_n 1, 1) := by decide +kernel
theorem dX7_allFallen_11 : decode cX7_allFallen 11 = .ok (.aload_n 0, 1) := by decide +kernel
theorem dX7_allFallen_12 : decode cX7_allFallen 12 = .ok (.getfield 25, 3) := by decide +kernel
theorem dX7_allFallen_15 : decode cX7_allFallen 15 = .ok (.iload_n 2, 1) := by decide +kernel
theorem dX7_allFallen_16 : decode cX7_allFallen 16 = .ok (.iaload, 1) := by decide +kernel
theorem dX7_allFallen_17 : decode cX7_allFallen 17 = .ok (.iadd, 1) := by decide +kernel
theorem dX7_allFallen_18 : decode cX7_allFallen 18 = .ok (.istore_n 1, 1) := by decide +kernel
theorem dX7_allFallen_19 : decode cX7_allFallen 19 = .ok (.iinc 2 1, 3) := by decide +kernel
theorem dX7_allFallen_22 : decode cX7_allFallen 22 = .ok (.goto (-18), 3) := by decide +kernel
theorem dX7_allFallen_25 : decode cX7_allFallen 25 = .ok (.iload_n 1, 1) := by decide +kernel
theorem dX7_allFallen_26 : decode cX7_allFallen 26 = .ok (.ireturn, 1) := by decide +kernel
theorem dX7_tallyInto_0 : decode cX7_tallyInto 0 = .ok (.iconst 0, 1) := by decide +kernel
theorem dX7_tallyInto_1 : decode cX7_tallyInto 1 = .ok (.istore_n 3, 1) := by decide +kernel
theorem dX7_tallyInto_2 : decode cX7_tallyInto 2 = .ok (.iload_n 3, 1) := by decide +kernel
theorem dX7_tallyInto_3 : decode cX7_tallyInto 3 = .ok (.bipush 20, 2) := by decide +kernel
theorem dX7_tallyInto_5 : decode cX7_tallyInto 5 = .ok (.if_icmp .ge 31, 3) := by decide +kernel
theorem dX7_tallyInto_8 : decode cX7_tallyInto 8 = .ok (.iload_n 2, 1) := by decide +kernel
theorem dX7_tallyInto_9 : decode cX7_tallyInto 9 = .ok (.iload_n 3, 1) := by decide +kernel
theorem dX7_tallyInto_10 : decode cX7_tallyInto 10 = .ok (.iadd, 1) := by decide +kernel
theorem dX7_tallyInto_11 : decode cX7_tallyInto 11 = .ok (.aload_n 1, 1) := by decide +kernel
theorem dX7_tallyInto_12 : decode cX7_tallyInto 12 = .ok (.arraylength, 1) := by decide +kernel
theorem dX7_tallyInto_13 : decode cX7_tallyInto 13 = .ok (.if_icmp .ge 23, 3) := by decide +kernel
theorem dX7_tallyInto_16 : decode cX7_tallyInto 16 = .ok (.aload_n 1, 1) := by decide +kernel
theorem dX7_tallyInto_17 : decode cX7_tallyInto 17 = .ok (.iload_n 2, 1) := by decide +kernel
theorem dX7_tallyInto_18 : decode cX7_tallyInto 18 = .ok (.iload_n 3, 1) := by decide +kernel
theorem dX7_tallyInto_19 : decode cX7_tallyInto 19 = .ok (.iadd, 1) := by decide +kernel
theorem dX7_tallyInto_20 : decode cX7_tallyInto 20 = .ok (.aload_n 0, 1) := by decide +kernel
theorem dX7_tallyInto_21 : decode cX7_tallyInto 21 = .ok (.getfield 18, 3) := by decide +kernel
theorem dX7_tallyInto_24 : decode cX7_tallyInto 24 = .ok (.iload_n 3, 1) := by decide +kernel
theorem dX7_tallyInto_25 : decode cX7_tallyInto 25 = .ok (.laload, 1) := by decide +kernel
theorem dX7_tallyInto_26 : decode cX7_tallyInto 26 = .ok (.invokestatic 101, 3) := by decide +kernel
theorem dX7_tallyInto_29 : decode cX7_tallyInto 29 = .ok (.iastore, 1) := by decide +kernel
theorem dX7_tallyInto_30 : decode cX7_tallyInto 30 = .ok (.iinc 3 1, 3) := by decide +kernel
theorem dX7_tallyInto_33 : decode cX7_tallyInto 33 = .ok (.goto (-31), 3) := by decide +kernel
theorem dX7_tallyInto_36 : decode cX7_tallyInto 36 = .ok (.return_, 1) := by decide +kernel
theorem dX8_init_0 : decode cX8_init 0 = .ok (.aload_n 0, 1) := by decide +kernel
theorem dX8_init_1 : decode cX8_init 1 = .ok (.invokespecial 3, 3) := by decide +kernel
theorem dX8_init_4 : decode cX8_init 4 = .ok (.aload_n 0, 1) := by decide +kernel
theorem dX8_init_5 : decode cX8_init 5 = .ok (.new 9, 3) := by decide +kernel
theorem dX8_init_8 : decode cX8_init 8 = .ok (.dup, 1) := by decide +kernel
theorem dX8_init_9 : decode cX8_init 9 = .ok (.bipush 44, 2) := by decide +kernel
theorem dX8_init_11 : decode cX8_init 11 = .ok (.invokespecial 11, 3) := by decide +kernel
theorem dX8_init_14 : decode cX8_init 14 = .ok (.putfield 14, 3) := by decide +kernel
theorem dX8_init_17 : decode cX8_init 17 = .ok (.aload_n 0, 1) := by decide +kernel
theorem dX8_init_18 : decode cX8_init 18 = .ok (.new 9, 3) := by decide +kernel
theorem dX8_init_21 : decode cX8_init 21 = .ok (.dup, 1) := by decide +kernel
theorem dX8_init_22 : decode cX8_init 22 = .ok (.bipush 23, 2) := by decide +kernel
theorem dX8_init_24 : decode cX8_init 24 = .ok (.invokespecial 11, 3) := by decide +kernel
theorem dX8_init_27 : decode cX8_init 27 = .ok (.putfield 18, 3) := by decide +kernel
theorem dX8_init_30 : decode cX8_init 30 = .ok (.aload_n 0, 1) := by decide +kernel
theorem dX8_init_31 : decode cX8_init 31 = .ok (.new 21, 3) := by decide +kernel
theorem dX8_init_34 : decode cX8_init 34 = .ok (.dup, 1) := by decide +kernel
theorem dX8_init_35 : decode cX8_init 35 = .ok (.invokespecial 23, 3) := by decide +kernel
theorem dX8_init_38 : decode cX8_init 38 = .ok (.putfield 24, 3) := by decide +kernel
theorem dX8_init_41 : decode cX8_init 41 = .ok (.aload_n 0, 1) := by decide +kernel
theorem dX8_init_42 : decode cX8_init 42 = .ok (.new 28, 3) := by decide +kernel
theorem dX8_init_45 : decode cX8_init 45 = .ok (.dup, 1) := by decide +kernel
theorem dX8_init_46 : decode cX8_init 46 = .ok (.invokespecial 30, 3) := by decide +kernel
theorem dX8_init_49 : decode cX8_init 49 = .ok (.putfield 31, 3) := by decide +kernel
theorem dX8_init_52 : decode cX8_init 52 = .ok (.aload_n 0, 1) := by decide +kernel
theorem dX8_init_53 : decode cX8_init 53 = .ok (.new 35, 3) := by decide +kernel
theorem dX8_init_56 : decode cX8_init 56 = .ok (.dup, 1) := by decide +kernel
theorem dX8_init_57 : decode cX8_init 57 = .ok (.invokespecial 37, 3) := by decide +kernel
theorem dX8_init_60 : decode cX8_init 60 = .ok (.putfield 38, 3) := by decide +kernel
theorem dX8_init_63 : decode cX8_init 63 = .ok (.aload_n 0, 1) := by decide +kernel
theorem dX8_init_64 : decode cX8_init 64 = .ok (.new 35, 3) := by decide +kernel
theorem dX8_init_67 : decode cX8_init 67 = .ok (.dup, 1) := by decide +kernel
theorem dX8_init_68 : decode cX8_init 68 = .ok (.invokespecial 37, 3) := by decide +kernel
theorem dX8_init_71 : decode cX8_init 71 = .ok (.putfield 42, 3) := by decide +kernel
theorem dX8_init_74 : decode cX8_init 74 = .ok (.aload_n 0, 1) := by decide +kernel
theorem dX8_init_75 : decode cX8_init 75 = .ok (.new 45, 3) := by decide +kernel
theorem dX8_init_78 : decode cX8_init 78 = .ok (.dup, 1) := by decide +kernel
theorem dX8_init_79 : decode cX8_init 79 = .ok (.invokespecial 47, 3) := by decide +kernel
theorem dX8_init_82 : decode cX8_init 82 = .ok (.putfield 48, 3) := by decide +kernel
theorem dX8_init_85 : decode cX8_init 85 = .ok (.aload_n 0, 1) := by decide +kernel
theorem dX8_init_86 : decode cX8_init 86 = .ok (.new 52, 3) := by decide +kernel
theorem dX8_init_89 : decode cX8_init 89 = .ok (.dup, 1) := by decide +kernel
theorem dX8_init_90 : decode cX8_init 90 = .ok (.invokespecial 54, 3) := by decide +kernel
theorem dX8_init_93 : decode cX8_init 93 = .ok (.putfield 55, 3) := by decide +kernel
theorem dX8_init_96 : decode cX8_init 96 = .ok (.aload_n 0, 1) := by decide +kernel
theorem dX8_init_97 : decode cX8_init 97 = .ok (.iconst 4, 1) := by decide +kernel
theorem dX8_init_98 : decode cX8_init 98 = .ok (.anewarray 59, 3) := by decide +kernel
theorem dX8_init_101 : decode cX8_init 101 = .ok (.putfield 61, 3) := by decide +kernel
theorem dX8_init_104 : decode cX8_init 104 = .ok (.aload_n 0, 1) := by decide +kernel
theorem dX8_init_105 : decode cX8_init 105 = .ok (.new 65, 3) := by decide +kernel
theorem dX8_init_108 : decode cX8_init 108 = .ok (.dup, 1) := by decide +kernel
theorem dX8_init_109 : decode cX8_init 109 = .ok (.aload_n 0, 1) := by decide +kernel
theorem dX8_init_110 : decode cX8_init 110 = .ok (.getfield 24, 3) := by decide +kernel
theorem dX8_init_113 : decode cX8_init 113 = .ok (.aload_n 0, 1) := by decide +kernel
theorem dX8_init_114 : decode cX8_init 114 = .ok (.getfield 31, 3) := by decide +kernel
theorem dX8_init_117 : decode cX8_init 117 = .ok (.aload_n 0, 1) := by decide +kernel
theorem dX8_init_118 : decode cX8_init 118 = .ok (.getfield 48, 3) := by decide +kernel
theorem dX8_init_121 : decode cX8_init 121 = .ok (.invokespecial 67, 3) := by decide +kernel
theorem dX8_init_124 : decode cX8_init 124 = .ok (.putfield 70, 3) := by decide +kernel
theorem dX8_init_127 : decode cX8_init 127 = .ok (.aload_n 0, 1) := by decide +kernel
theorem dX8_init_128 : decode cX8_init 128 = .ok (.new 65, 3) := by decide +kernel
theorem dX8_init_131 : decode cX8_init 131 = .ok (.dup, 1) := by decide +kernel
theorem dX8_init_132 : decode cX8_init 132 = .ok (.aload_n 0, 1) := by decide +kernel
theorem dX8_init_133 : decode cX8_init 133 = .ok (.getfield 24, 3) := by decide +kernel
theorem dX8_init_136 : decode cX8_init 136 = .ok (.aload_n 0, 1) := by decide +kernel
theorem dX8_init_137 : decode cX8_init 137 = .ok (.getfield 31, 3) := by decide +kernel
theorem dX8_init_140 : decode cX8_init 140 = .ok (.aload_n 0, 1) := by decide +kernel
theorem dX8_init_141 : decode cX8_init 141 = .ok (.getfield 48, 3) := by decide +kernel
theorem dX8_init_144 : decode cX8_init 144 = .ok (.invokespecial 67, 3) := by decide +kernel
theorem dX8_init_147 : decode cX8_init 147 = .ok (.putfield 74, 3) := by decide +kernel
theorem dX8_init_150 : decode cX8_init 150 = .ok (.aload_n 0, 1) := by decide +kernel
theorem dX8_init_151 : decode cX8_init 151 = .ok (.sipush 180, 3) := by decide +kernel
theorem dX8_init_154 : decode cX8_init 154 = .ok (.newarray .int, 2) := by decide +kernel
theorem dX8_init_156 : decode cX8_init 156 = .ok (.putfield 77, 3) := by decide +kernel
theorem dX8_init_159 : decode cX8_init 159 = .ok (.aload_n 0, 1) := by decide +kernel
theorem dX8_init_160 : decode cX8_init 160 = .ok (.iconst 1, 1) := by decide +kernel
theorem dX8_init_161 : decode cX8_init 161 = .ok (.putfield 81, 3) := by decide +kernel
theorem dX8_init_164 : decode cX8_init 164 = .ok (.aload_n 0, 1) := by decide +kernel
theorem dX8_init_165 : decode cX8_init 165 = .ok (.iconst 0, 1) := by decide +kernel
theorem dX8_init_166 : decode cX8_init 166 = .ok (.putfield 85, 3) := by decide +kernel
theorem dX8_init_169 : decode cX8_init 169 = .ok (.iconst 0, 1) := by decide +kernel
theorem dX8_init_170 : decode cX8_init 170 = .ok (.istore_n 1, 1) := by decide +kernel
theorem dX8_init_171 : decode cX8_init 171 = .ok (.iload_n 1, 1) := by decide +kernel
theorem dX8_init_172 : decode cX8_init 172 = .ok (.iconst 4, 1) := by decide +kernel
theorem dX8_init_173 : decode cX8_init 173 = .ok (.if_icmp .ge 22, 3) := by decide +kernel
theorem dX8_init_176 : decode cX8_init 176 = .ok (.aload_n 0, 1) := by decide +kernel
theorem dX8_init_177 : decode cX8_init 177 = .ok (.getfield 61, 3) := by decide +kernel
theorem dX8_init_180 : decode cX8_init 180 = .ok (.iload_n 1, 1) := by decide +kernel
theorem dX8_init_181 : decode cX8_init 181 = .ok (.new 59, 3) := by decide +kernel
theorem dX8_init_184 : decode cX8_init 184 = .ok (.dup, 1) := by decide +kernel
theorem dX8_init_185 : decode cX8_init 185 = .ok (.invokespecial 89, 3) := by decide +kernel
theorem dX8_init_188 : decode cX8_init 188 = .ok (.aastore, 1) := by decide +kernel
theorem dX8_init_189 : decode cX8_init 189 = .ok (.iinc 1 1, 3) := by decide +kernel
theorem dX8_init_192 : decode cX8_init 192 = .ok (.goto (-21), 3) := by decide +kernel
theorem dX8_init_195 : decode cX8_init 195 = .ok (.return_, 1) := by decide +kernel
theorem dX8_type_0 : decode cX8_type 0 = .ok (.iload_n 1, 1) := by decide +kernel
theorem dX8_type_1 : decode cX8_type 1 = .ok (.invokestatic 90, 3) := by decide +kernel
theorem dX8_type_4 : decode cX8_type 4 = .ok (.ifCond .eq 14, 3) := by decide +kernel
theorem dX8_type_7 : decode cX8_type 7 = .ok (.iload_n 2, 1) := by decide +kernel
theorem dX8_type_8 : decode cX8_type 8 = .ok (.iconst 0, 1) := by decide +kernel
theorem dX8_type_9 : decode cX8_type 9 = .ok (.sipush 255, 3) := by decide +kernel
theorem dX8_type_12 : decode cX8_type 12 = .ok (.invokestatic 94, 3) := by decide +kernel
theorem dX8_type_15 : decode cX8_type 15 = .ok (.ifCond .ne 6, 3) := by decide +kernel
theorem dX8_type_18 : decode cX8_type 18 = .ok (.bipush (-2), 2) := by decide +kernel
theorem dX8_type_20 : decode cX8_type 20 = .ok (.ireturn, 1) := by decide +kernel
theorem dX8_type_21 : decode cX8_type 21 = .ok (.aload_n 0, 1) := by decide +kernel
theorem dX8_type_22 : decode cX8_type 22 = .ok (.iload_n 1, 1) := by decide +kernel
theorem dX8_type_23 : decode cX8_type 23 = .ok (.invokevirtual 98, 3) := by decide +kernel
theorem dX8_type_26 : decode cX8_type 26 = .ok (.astore_n 3, 1) := by decide +kernel
theorem dX8_type_27 : decode cX8_type 27 = .ok (.aload_n 3, 1) := by decide +kernel
theorem dX8_type_28 : decode cX8_type 28 = .ok (.getfield 102, 3) := by decide +kernel
theorem dX8_type_31 : decode cX8_type 31 = .ok (.aload_n 3, 1) := by decide +kernel
theorem dX8_type_32 : decode cX8_type 32 = .ok (.getfield 105, 3) := by decide +kernel
theorem dX8_type_35 : decode cX8_type 35 = .ok (.arraylength, 1) := by decide +kernel
theorem dX8_type_36 : decode cX8_type 36 = .ok (.if_icmp .lt 6, 3) := by decide +kernel
theorem dX8_type_39 : decode cX8_type 39 = .ok (.bipush (-4), 2) := by decide +kernel
theorem dX8_type_41 : decode cX8_type 41 = .ok (.ireturn, 1) := by decide +kernel
theorem dX8_type_42 : decode cX8_type 42 = .ok (.aload_n 3, 1) := by decide +kernel
theorem dX8_type_43 : decode cX8_type 43 = .ok (.getfield 105, 3) := by decide +kernel
theorem dX8_type_46 : decode cX8_type 46 = .ok (.aload_n 3, 1) := by decide +kernel
theorem dX8_type_47 : decode cX8_type 47 = .ok (.getfield 102, 3) := by decide +kernel
theorem dX8_type_50 : decode cX8_type 50 = .ok (.iload_n 2, 1) := by decide +kernel
theorem dX8_type_51 : decode cX8_type 51 = .ok (.iastore, 1) := by decide +kernel
theorem dX8_type_52 : decode cX8_type 52 = .ok (.aload_n 3, 1) := by decide +kernel
theorem dX8_type_53 : decode cX8_type 53 = .ok (.dup, 1) := by decide +kernel
theorem dX8_type_54 : decode cX8_type 54 = .ok (.getfield 102, 3) := by decide +kernel
theorem dX8_type_57 : decode cX8_type 57 = .ok (.iconst 1, 1) := by decide +kernel
theorem dX8_type_58 : decode cX8_type 58 = .ok (.iadd, 1) := by decide +kernel
theorem dX8_type_59 : decode cX8_type 59 = .ok (.putfield 102, 3) := by decide +kernel
theorem dX8_type_62 : decode cX8_type 62 = .ok (.aload_n 0, 1) := by decide +kernel
theorem dX8_type_63 : decode cX8_type 63 = .ok (.iload_n 1, 1) := by decide +kernel
theorem dX8_type_64 : decode cX8_type 64 = .ok (.invokevirtual 108, 3) := by decide +kernel
theorem dX8_type_67 : decode cX8_type 67 = .ok (.aload_n 3, 1) := by decide +kernel
theorem dX8_type_68 : decode cX8_type 68 = .ok (.getfield 102, 3) := by decide +kernel
theorem dX8_type_71 : decode cX8_type 71 = .ok (.ireturn, 1) := by decide +kernel
theorem dX8_wipe_0 : decode cX8_wipe 0 = .ok (.iload_n 1, 1) := by decide +kernel
theorem dX8_wipe_1 : decode cX8_wipe 1 = .ok (.invokestatic 90, 3) := by decide +kernel
theorem dX8_wipe_4 : decode cX8_wipe 4 = .ok (.ifCond .ne 6, 3) := by decide +kernel
theorem dX8_wipe_7 : decode cX8_wipe 7 = .ok (.bipush (-2), 2) := by decide +kernel
theorem dX8_wipe_9 : decode cX8_wipe 9 = .ok (.ireturn, 1) := by decide +kernel
theorem dX8_wipe_10 : decode cX8_wipe 10 = .ok (.aload_n 0, 1) := by decide +kernel
theorem dX8_wipe_11 : decode cX8_wipe 11 = .ok (.iload_n 1, 1) := by decide +kernel
theorem dX8_wipe_12 : decode cX8_wipe 12 = .ok (.invokevirtual 98, 3) := by decide +kernel
theorem dX8_wipe_15 : decode cX8_wipe 15 = .ok (.astore_n 2, 1) := by decide +kernel
theorem dX8_wipe_16 : decode cX8_wipe 16 = .ok (.aload_n 2, 1) := by decide +kernel
theorem dX8_wipe_17 : decode cX8_wipe 17 = .ok (.getfield 102, 3) := by decide +kernel
theorem dX8_wipe_20 : decode cX8_wipe 20 = .ok (.istore_n 3, 1) := by decide +kernel
theorem dX8_wipe_21 : decode cX8_wipe 21 = .ok (.aload_n 2, 1) := by decide +kernel
theorem dX8_wipe_22 : decode cX8_wipe 22 = .ok (.iconst 0, 1) := by decide +kernel
theorem dX8_wipe_23 : decode cX8_wipe 23 = .ok (.putfield 102, 3) := by decide +kernel
theorem dX8_wipe_26 : decode cX8_wipe 26 = .ok (.aload_n 0, 1) := by decide +kernel
theorem dX8_wipe_27 : decode cX8_wipe 27 = .ok (.iload_n 1, 1) := by decide +kernel
theorem dX8_wipe_28 : decode cX8_wipe 28 = .ok (.invokevirtual 108, 3) := by decide +kernel
theorem dX8_wipe_31 : decode cX8_wipe 31 = .ok (.iload_n 3, 1) := by decide +kernel
theorem dX8_wipe_32 : decode cX8_wipe 32 = .ok (.ireturn, 1) := by decide +kernel
theorem dX8_undo_0 : decode cX8_undo 0 = .ok (.iload_n 1, 1) := by decide +kernel
theorem dX8_undo_1 : decode cX8_undo 1 = .ok (.invokestatic 90, 3) := by decide +kernel
theorem dX8_undo_4 : decode cX8_undo 4 = .ok (.ifCond .ne 6, 3) := by decide +kernel
theorem dX8_undo_7 : decode cX8_undo 7 = .ok (.bipush (-2), 2) := by decide +kernel
theorem dX8_undo_9 : decode cX8_undo 9 = .ok (.ireturn, 1) := by decide +kernel
theorem dX8_undo_10 : decode cX8_undo 10 = .ok (.aload_n 0, 1) := by decide +kernel
theorem dX8_undo_11 : decode cX8_undo 11 = .ok (.iload_n 1, 1) := by decide +kernel
theorem dX8_undo_12 : decode cX8_undo 12 = .ok (.invokevirtual 98, 3) := by decide +kernel
theorem dX8_undo_15 : decode cX8_undo 15 = .ok (.astore_n 2, 1) := by decide +kernel
theorem dX8_undo_16 : decode cX8_undo 16 = .ok (.aload_n 2, 1) := by decide +kernel
theorem dX8_undo_17 : decode cX8_undo 17 = .ok (.getfield 102, 3) := by decide +kernel
theorem dX8_undo_20 : decode cX8_undo 20 = .ok (.ifCond .ne 6, 3) := by decide +kernel
theorem dX8_undo_23 : decode cX8_undo 23 = .ok (.bipush (-3), 2) := by decide +kernel
theorem dX8_undo_25 : decode cX8_undo 25 = .ok (.ireturn, 1) := by decide +kernel
theorem dX8_undo_26 : decode cX8_undo 26 = .ok (.aload_n 2, 1) := by decide +kernel
theorem dX8_undo_27 : decode cX8_undo 27 = .ok (.dup, 1) := by decide +kernel
theorem dX8_undo_28 : decode cX8_undo 28 = .ok (.getfield 102, 3) := by decide +kernel
theorem dX8_undo_31 : decode cX8_undo 31 = .ok (.iconst 1, 1) := by decide +kernel
theorem dX8_undo_32 : decode cX8_undo 32 = .ok (.isub, 1) := by decide +kernel
theorem dX8_undo_33 : decode cX8_undo 33 = .ok (.putfield 102, 3) := by decide +kernel
theorem dX8_undo_36 : decode cX8_undo 36 = .ok (.aload_n 0, 1) := by decide +kernel
theorem dX8_undo_37 : decode cX8_undo 37 = .ok (.iload_n 1, 1) := by decide +kernel
theorem dX8_undo_38 : decode cX8_undo 38 = .ok (.invokevirtual 108, 3) := by decide +kernel
theorem dX8_undo_41 : decode cX8_undo 41 = .ok (.aload_n 2, 1) := by decide +kernel
theorem dX8_undo_42 : decode cX8_undo 42 = .ok (.getfield 102, 3) := by decide +kernel
theorem dX8_undo_45 : decode cX8_undo 45 = .ok (.ireturn, 1) := by decide +kernel
theorem dX8_fault_0 : decode cX8_fault 0 = .ok (.iload_n 1, 1) := by decide +kernel
theorem dX8_fault_1 : decode cX8_fault 1 = .ok (.invokestatic 90, 3) := by decide +kernel
theorem dX8_fault_4 : decode cX8_fault 4 = .ok (.ifCond .ne 6, 3) := by decide +kernel
theorem dX8_fault_7 : decode cX8_fault 7 = .ok (.bipush (-2), 2) := by decide +kernel
theorem dX8_fault_9 : decode cX8_fault 9 = .ok (.ireturn, 1) := by decide +kernel
theorem dX8_fault_10 : decode cX8_fault 10 = .ok (.iload_n 1, 1) := by decide +kernel
theorem dX8_fault_11 : decode cX8_fault 11 = .ok (.ifCond .ne 13, 3) := by decide +kernel
theorem dX8_fault_14 : decode cX8_fault 14 = .ok (.aload_n 0, 1) := by decide +kernel
theorem dX8_fault_15 : decode cX8_fault 15 = .ok (.getfield 24, 3) := by decide +kernel
theorem dX8_fault_18 : decode cX8_fault 18 = .ok (.getfield 111, 3) := by decide +kernel
theorem dX8_fault_21 : decode cX8_fault 21 = .ok (.goto 10, 3) := by decide +kernel
theorem dX8_fault_24 : decode cX8_fault 24 = .ok (.aload_n 0, 1) := by decide +kernel
theorem dX8_fault_25 : decode cX8_fault 25 = .ok (.getfield 31, 3) := by decide +kernel
theorem dX8_fault_28 : decode cX8_fault 28 = .ok (.getfield 114, 3) := by decide +kernel
theorem dX8_fault_31 : decode cX8_fault 31 = .ok (.ireturn, 1) := by decide +kernel
theorem dX8_stone_0 : decode cX8_stone 0 = .ok (.iload_n 1, 1) := by decide +kernel
theorem dX8_stone_1 : decode cX8_stone 1 = .ok (.iload_n 2, 1) := by decide +kernel
