theorem dX0_init_0 : decode cX0_init 0 = .ok (.aload_n 0, 1) := by decide +kernel
theorem dX0_init_1 : decode cX0_init 1 = .ok (.invokespecial 3, 3) := by decide +kernel
theorem dX0_init_4 : decode cX0_init 4 = .ok (.aload_n 0, 1) := by decide +kernel
theorem dX0_init_5 : decode cX0_init 5 = .ok (.sipush 200, 3) := by decide +kernel
theorem dX0_init_8 : decode cX0_init 8 = .ok (.newarray .int, 2) := by decide +kernel
theorem dX0_init_10 : decode cX0_init 10 = .ok (.putfield 9, 3) := by decide +kernel
theorem dX0_init_13 : decode cX0_init 13 = .ok (.aload_n 0, 1) := by decide +kernel
theorem dX0_init_14 : decode cX0_init 14 = .ok (.sipush 200, 3) := by decide +kernel
theorem dX0_init_17 : decode cX0_init 17 = .ok (.newarray .int, 2) := by decide +kernel
theorem dX0_init_19 : decode cX0_init 19 = .ok (.putfield 15, 3) := by decide +kernel
theorem dX0_init_22 : decode cX0_init 22 = .ok (.aload_n 0, 1) := by decide +kernel
theorem dX0_init_23 : decode cX0_init 23 = .ok (.bipush 10, 2) := by decide +kernel
theorem dX0_init_25 : decode cX0_init 25 = .ok (.newarray .int, 2) := by decide +kernel
theorem dX0_init_27 : decode cX0_init 27 = .ok (.putfield 18, 3) := by decide +kernel
theorem dX0_init_30 : decode cX0_init 30 = .ok (.aload_n 0, 1) := by decide +kernel
theorem dX0_init_31 : decode cX0_init 31 = .ok (.bipush 10, 2) := by decide +kernel
theorem dX0_init_33 : decode cX0_init 33 = .ok (.newarray .int, 2) := by decide +kernel
theorem dX0_init_35 : decode cX0_init 35 = .ok (.putfield 21, 3) := by decide +kernel
theorem dX0_init_38 : decode cX0_init 38 = .ok (.aload_n 0, 1) := by decide +kernel
theorem dX0_init_39 : decode cX0_init 39 = .ok (.bipush 10, 2) := by decide +kernel
theorem dX0_init_41 : decode cX0_init 41 = .ok (.newarray .boolean, 2) := by decide +kernel
theorem dX0_init_43 : decode cX0_init 43 = .ok (.putfield 24, 3) := by decide +kernel
theorem dX0_init_46 : decode cX0_init 46 = .ok (.aload_n 0, 1) := by decide +kernel
theorem dX0_init_47 : decode cX0_init 47 = .ok (.bipush 10, 2) := by decide +kernel
theorem dX0_init_49 : decode cX0_init 49 = .ok (.newarray .boolean, 2) := by decide +kernel
theorem dX0_init_51 : decode cX0_init 51 = .ok (.putfield 28, 3) := by decide +kernel
theorem dX0_init_54 : decode cX0_init 54 = .ok (.aload_n 0, 1) := by decide +kernel
theorem dX0_init_55 : decode cX0_init 55 = .ok (.aload_n 1, 1) := by decide +kernel
theorem dX0_init_56 : decode cX0_init 56 = .ok (.putfield 31, 3) := by decide +kernel
theorem dX0_init_59 : decode cX0_init 59 = .ok (.aload_n 0, 1) := by decide +kernel
theorem dX0_init_60 : decode cX0_init 60 = .ok (.aload_n 2, 1) := by decide +kernel
theorem dX0_init_61 : decode cX0_init 61 = .ok (.putfield 35, 3) := by decide +kernel
theorem dX0_init_64 : decode cX0_init 64 = .ok (.aload_n 0, 1) := by decide +kernel
theorem dX0_init_65 : decode cX0_init 65 = .ok (.getfield 9, 3) := by decide +kernel
theorem dX0_init_68 : decode cX0_init 68 = .ok (.iconst (-1), 1) := by decide +kernel
theorem dX0_init_69 : decode cX0_init 69 = .ok (.invokestatic 39, 3) := by decide +kernel
theorem dX0_init_72 : decode cX0_init 72 = .ok (.return_, 1) := by decide +kernel
theorem dX0_stampAt_0 : decode cX0_stampAt 0 = .ok (.aload_n 0, 1) := by decide +kernel
theorem dX0_stampAt_1 : decode cX0_stampAt 1 = .ok (.getfield 31, 3) := by decide +kernel
theorem dX0_stampAt_4 : decode cX0_stampAt 4 = .ok (.iload_n 2, 1) := by decide +kernel
theorem dX0_stampAt_5 : decode cX0_stampAt 5 = .ok (.invokevirtual 45, 3) := by decide +kernel
theorem dX0_stampAt_8 : decode cX0_stampAt 8 = .ok (.ifCond .eq 17, 3) := by decide +kernel
theorem dX0_stampAt_11 : decode cX0_stampAt 11 = .ok (.aload_n 0, 1) := by decide +kernel
theorem dX0_stampAt_12 : decode cX0_stampAt 12 = .ok (.getfield 9, 3) := by decide +kernel
theorem dX0_stampAt_15 : decode cX0_stampAt 15 = .ok (.iload_n 2, 1) := by decide +kernel
theorem dX0_stampAt_16 : decode cX0_stampAt 16 = .ok (.bipush 10, 2) := by decide +kernel
theorem dX0_stampAt_18 : decode cX0_stampAt 18 = .ok (.imul, 1) := by decide +kernel
theorem dX0_stampAt_19 : decode cX0_stampAt 19 = .ok (.iload_n 1, 1) := by decide +kernel
theorem dX0_stampAt_20 : decode cX0_stampAt 20 = .ok (.iadd, 1) := by decide +kernel
theorem dX0_stampAt_21 : decode cX0_stampAt 21 = .ok (.iaload, 1) := by decide +kernel
theorem dX0_stampAt_22 : decode cX0_stampAt 22 = .ok (.goto 4, 3) := by decide +kernel
theorem dX0_stampAt_25 : decode cX0_stampAt 25 = .ok (.iconst (-1), 1) := by decide +kernel
theorem dX0_stampAt_26 : decode cX0_stampAt 26 = .ok (.ireturn, 1) := by decide +kernel
theorem dX0_dueAt_0 : decode cX0_dueAt 0 = .ok (.aload_n 0, 1) := by decide +kernel
theorem dX0_dueAt_1 : decode cX0_dueAt 1 = .ok (.getfield 31, 3) := by decide +kernel
theorem dX0_dueAt_4 : decode cX0_dueAt 4 = .ok (.iload_n 2, 1) := by decide +kernel
theorem dX0_dueAt_5 : decode cX0_dueAt 5 = .ok (.invokevirtual 51, 3) := by decide +kernel
theorem dX0_dueAt_8 : decode cX0_dueAt 8 = .ok (.ifCond .ne 35, 3) := by decide +kernel
theorem dX0_dueAt_11 : decode cX0_dueAt 11 = .ok (.aload_n 0, 1) := by decide +kernel
theorem dX0_dueAt_12 : decode cX0_dueAt 12 = .ok (.getfield 35, 3) := by decide +kernel
theorem dX0_dueAt_15 : decode cX0_dueAt 15 = .ok (.iload_n 2, 1) := by decide +kernel
theorem dX0_dueAt_16 : decode cX0_dueAt 16 = .ok (.iload_n 1, 1) := by decide +kernel
theorem dX0_dueAt_17 : decode cX0_dueAt 17 = .ok (.invokevirtual 55, 3) := by decide +kernel
theorem dX0_dueAt_20 : decode cX0_dueAt 20 = .ok (.istore_n 3, 1) := by decide +kernel
theorem dX0_dueAt_21 : decode cX0_dueAt 21 = .ok (.iload_n 3, 1) := by decide +kernel
theorem dX0_dueAt_22 : decode cX0_dueAt 22 = .ok (.iconst (-1), 1) := by decide +kernel
theorem dX0_dueAt_23 : decode cX0_dueAt 23 = .ok (.if_icmp .ne 7, 3) := by decide +kernel
theorem dX0_dueAt_26 : decode cX0_dueAt 26 = .ok (.iconst (-1), 1) := by decide +kernel
theorem dX0_dueAt_27 : decode cX0_dueAt 27 = .ok (.goto 15, 3) := by decide +kernel
theorem dX0_dueAt_30 : decode cX0_dueAt 30 = .ok (.aload_n 0, 1) := by decide +kernel
theorem dX0_dueAt_31 : decode cX0_dueAt 31 = .ok (.getfield 31, 3) := by decide +kernel
theorem dX0_dueAt_34 : decode cX0_dueAt 34 = .ok (.iload_n 2, 1) := by decide +kernel
theorem dX0_dueAt_35 : decode cX0_dueAt 35 = .ok (.invokevirtual 61, 3) := by decide +kernel
theorem dX0_dueAt_38 : decode cX0_dueAt 38 = .ok (.iconst 2, 1) := by decide +kernel
theorem dX0_dueAt_39 : decode cX0_dueAt 39 = .ok (.iload_n 3, 1) := by decide +kernel
theorem dX0_dueAt_40 : decode cX0_dueAt 40 = .ok (.imul, 1) := by decide +kernel
theorem dX0_dueAt_41 : decode cX0_dueAt 41 = .ok (.iadd, 1) := by decide +kernel
theorem dX0_dueAt_42 : decode cX0_dueAt 42 = .ok (.ireturn, 1) := by decide +kernel
theorem dX0_dueAt_43 : decode cX0_dueAt 43 = .ok (.aload_n 0, 1) := by decide +kernel
theorem dX0_dueAt_44 : decode cX0_dueAt 44 = .ok (.iload_n 1, 1) := by decide +kernel
theorem dX0_dueAt_45 : decode cX0_dueAt 45 = .ok (.aload_n 0, 1) := by decide +kernel
theorem dX0_dueAt_46 : decode cX0_dueAt 46 = .ok (.getfield 31, 3) := by decide +kernel
theorem dX0_dueAt_49 : decode cX0_dueAt 49 = .ok (.iload_n 2, 1) := by decide +kernel
theorem dX0_dueAt_50 : decode cX0_dueAt 50 = .ok (.invokevirtual 64, 3) := by decide +kernel
theorem dX0_dueAt_53 : decode cX0_dueAt 53 = .ok (.invokevirtual 67, 3) := by decide +kernel
theorem dX0_dueAt_56 : decode cX0_dueAt 56 = .ok (.istore_n 3, 1) := by decide +kernel
theorem dX0_dueAt_57 : decode cX0_dueAt 57 = .ok (.iload_n 3, 1) := by decide +kernel
theorem dX0_dueAt_58 : decode cX0_dueAt 58 = .ok (.iconst (-1), 1) := by decide +kernel
theorem dX0_dueAt_59 : decode cX0_dueAt 59 = .ok (.if_icmp .ne 5, 3) := by decide +kernel
theorem dX0_dueAt_62 : decode cX0_dueAt 62 = .ok (.iconst (-1), 1) := by decide +kernel
theorem dX0_dueAt_63 : decode cX0_dueAt 63 = .ok (.ireturn, 1) := by decide +kernel
theorem dX0_dueAt_64 : decode cX0_dueAt 64 = .ok (.aload_n 0, 1) := by decide +kernel
theorem dX0_dueAt_65 : decode cX0_dueAt 65 = .ok (.getfield 31, 3) := by decide +kernel
theorem dX0_dueAt_68 : decode cX0_dueAt 68 = .ok (.iload_n 2, 1) := by decide +kernel
theorem dX0_dueAt_69 : decode cX0_dueAt 69 = .ok (.invokevirtual 70, 3) := by decide +kernel
theorem dX0_dueAt_72 : decode cX0_dueAt 72 = .ok (.ifCond .eq 9, 3) := by decide +kernel
theorem dX0_dueAt_75 : decode cX0_dueAt 75 = .ok (.iload_n 3, 1) := by decide +kernel
theorem dX0_dueAt_76 : decode cX0_dueAt 76 = .ok (.iconst 3, 1) := by decide +kernel
theorem dX0_dueAt_77 : decode cX0_dueAt 77 = .ok (.iadd, 1) := by decide +kernel
theorem dX0_dueAt_78 : decode cX0_dueAt 78 = .ok (.goto 4, 3) := by decide +kernel
theorem dX0_dueAt_81 : decode cX0_dueAt 81 = .ok (.iload_n 3, 1) := by decide +kernel
theorem dX0_dueAt_82 : decode cX0_dueAt 82 = .ok (.istore 4, 2) := by decide +kernel
theorem dX0_dueAt_84 : decode cX0_dueAt 84 = .ok (.iload 4, 2) := by decide +kernel
theorem dX0_dueAt_86 : decode cX0_dueAt 86 = .ok (.aload_n 0, 1) := by decide +kernel
theorem dX0_dueAt_87 : decode cX0_dueAt 87 = .ok (.getfield 31, 3) := by decide +kernel
theorem dX0_dueAt_90 : decode cX0_dueAt 90 = .ok (.iload_n 2, 1) := by decide +kernel
theorem dX0_dueAt_91 : decode cX0_dueAt 91 = .ok (.invokevirtual 61, 3) := by decide +kernel
theorem dX0_dueAt_94 : decode cX0_dueAt 94 = .ok (.iadd, 1) := by decide +kernel
theorem dX0_dueAt_95 : decode cX0_dueAt 95 = .ok (.aload_n 0, 1) := by decide +kernel
theorem dX0_dueAt_96 : decode cX0_dueAt 96 = .ok (.getfield 15, 3) := by decide +kernel
theorem dX0_dueAt_99 : decode cX0_dueAt 99 = .ok (.iload_n 2, 1) := by decide +kernel
theorem dX0_dueAt_100 : decode cX0_dueAt 100 = .ok (.bipush 10, 2) := by decide +kernel
theorem dX0_dueAt_102 : decode cX0_dueAt 102 = .ok (.imul, 1) := by decide +kernel
theorem dX0_dueAt_103 : decode cX0_dueAt 103 = .ok (.iload_n 1, 1) := by decide +kernel
theorem dX0_dueAt_104 : decode cX0_dueAt 104 = .ok (.iadd, 1) := by decide +kernel
theorem dX0_dueAt_105 : decode cX0_dueAt 105 = .ok (.iaload, 1) := by decide +kernel
theorem dX0_dueAt_106 : decode cX0_dueAt 106 = .ok (.iadd, 1) := by decide +kernel
theorem dX0_dueAt_107 : decode cX0_dueAt 107 = .ok (.ireturn, 1) := by decide +kernel
theorem dX0_takesStamp_0 : decode cX0_takesStamp 0 = .ok (.aload_n 0, 1) := by decide +kernel
theorem dX0_takesStamp_1 : decode cX0_takesStamp 1 = .ok (.iload_n 1, 1) := by decide +kernel
theorem dX0_takesStamp_2 : decode cX0_takesStamp 2 = .ok (.invokevirtual 73, 3) := by decide +kernel
theorem dX0_takesStamp_5 : decode cX0_takesStamp 5 = .ok (.ifCond .eq 27, 3) := by decide +kernel
theorem dX0_takesStamp_8 : decode cX0_takesStamp 8 = .ok (.aload_n 0, 1) := by decide +kernel
theorem dX0_takesStamp_9 : decode cX0_takesStamp 9 = .ok (.iload_n 1, 1) := by decide +kernel
theorem dX0_takesStamp_10 : decode cX0_takesStamp 10 = .ok (.iload_n 2, 1) := by decide +kernel
theorem dX0_takesStamp_11 : decode cX0_takesStamp 11 = .ok (.invokevirtual 67, 3) := by decide +kernel
theorem dX0_takesStamp_14 : decode cX0_takesStamp 14 = .ok (.iconst (-1), 1) := by decide +kernel
theorem dX0_takesStamp_15 : decode cX0_takesStamp 15 = .ok (.if_icmp .ne 17, 3) := by decide +kernel
theorem dX0_takesStamp_18 : decode cX0_takesStamp 18 = .ok (.aload_n 0, 1) := by decide +kernel
theorem dX0_takesStamp_19 : decode cX0_takesStamp 19 = .ok (.iload_n 1, 1) := by decide +kernel
theorem dX0_takesStamp_20 : decode cX0_takesStamp 20 = .ok (.iload_n 2, 1) := by decide +kernel
theorem dX0_takesStamp_21 : decode cX0_takesStamp 21 = .ok (.invokevirtual 76, 3) := by decide +kernel
theorem dX0_takesStamp_24 : decode cX0_takesStamp 24 = .ok (.iconst (-1), 1) := by decide +kernel
theorem dX0_takesStamp_25 : decode cX0_takesStamp 25 = .ok (.if_icmp .eq 7, 3) := by decide +kernel
theorem dX0_takesStamp_28 : decode cX0_takesStamp 28 = .ok (.iconst 1, 1) := by decide +kernel
theorem dX0_takesStamp_29 : decode cX0_takesStamp 29 = .ok (.goto 4, 3) := by decide +kernel
theorem dX0_takesStamp_32 : decode cX0_takesStamp 32 = .ok (.iconst 0, 1) := by decide +kernel
theorem dX0_takesStamp_33 : decode cX0_takesStamp 33 = .ok (.ireturn, 1) := by decide +kernel
theorem dX0_put_0 : decode cX0_put 0 = .ok (.aload_n 0, 1) := by decide +kernel
theorem dX0_put_1 : decode cX0_put 1 = .ok (.getfield 9, 3) := by decide +kernel
theorem dX0_put_4 : decode cX0_put 4 = .ok (.iload_n 2, 1) := by decide +kernel
theorem dX0_put_5 : decode cX0_put 5 = .ok (.bipush 10, 2) := by decide +kernel
theorem dX0_put_7 : decode cX0_put 7 = .ok (.imul, 1) := by decide +kernel
theorem dX0_put_8 : decode cX0_put 8 = .ok (.iload_n 1, 1) := by decide +kernel
theorem dX0_put_9 : decode cX0_put 9 = .ok (.iadd, 1) := by decide +kernel
theorem dX0_put_10 : decode cX0_put 10 = .ok (.iload_n 3, 1) := by decide +kernel
theorem dX0_put_11 : decode cX0_put 11 = .ok (.iastore, 1) := by decide +kernel
theorem dX0_put_12 : decode cX0_put 12 = .ok (.aload_n 0, 1) := by decide +kernel
theorem dX0_put_13 : decode cX0_put 13 = .ok (.iload_n 1, 1) := by decide +kernel
theorem dX0_put_14 : decode cX0_put 14 = .ok (.iload_n 2, 1) := by decide +kernel
theorem dX0_put_15 : decode cX0_put 15 = .ok (.invokevirtual 79, 3) := by decide +kernel
theorem dX0_put_18 : decode cX0_put 18 = .ok (.istore 4, 2) := by decide +kernel
theorem dX0_put_20 : decode cX0_put 20 = .ok (.aload_n 0, 1) := by decide +kernel
theorem dX0_put_21 : decode cX0_put 21 = .ok (.getfield 18, 3) := by decide +kernel
theorem dX0_put_24 : decode cX0_put 24 = .ok (.iload_n 1, 1) := by decide +kernel
theorem dX0_put_25 : decode cX0_put 25 = .ok (.dup2, 1) := by decide +kernel
theorem dX0_put_26 : decode cX0_put 26 = .ok (.iaload, 1) := by decide +kernel
theorem dX0_put_27 : decode cX0_put 27 = .ok (.iload 4, 2) := by decide +kernel
theorem dX0_put_29 : decode cX0_put 29 = .ok (.iadd, 1) := by decide +kernel
theorem dX0_put_30 : decode cX0_put 30 = .ok (.iastore, 1) := by decide +kernel
theorem dX0_put_31 : decode cX0_put 31 = .ok (.aload_n 0, 1) := by decide +kernel
theorem dX0_put_32 : decode cX0_put 32 = .ok (.getfield 21, 3) := by decide +kernel
theorem dX0_put_35 : decode cX0_put 35 = .ok (.iload_n 1, 1) := by decide +kernel
theorem dX0_put_36 : decode cX0_put 36 = .ok (.dup2, 1) := by decide +kernel
theorem dX0_put_37 : decode cX0_put 37 = .ok (.iaload, 1) := by decide +kernel
theorem dX0_put_38 : decode cX0_put 38 = .ok (.iconst 0, 1) := by decide +kernel
theorem dX0_put_39 : decode cX0_put 39 = .ok (.iload_n 3, 1) := by decide +kernel
theorem dX0_put_40 : decode cX0_put 40 = .ok (.aload_n 0, 1) := by decide +kernel
theorem dX0_put_41 : decode cX0_put 41 = .ok (.iload_n 1, 1) := by decide +kernel
theorem dX0_put_42 : decode cX0_put 42 = .ok (.iload_n 2, 1) := by decide +kernel
theorem dX0_put_43 : decode cX0_put 43 = .ok (.invokevirtual 76, 3) := by decide +kernel
theorem dX0_put_46 : decode cX0_put 46 = .ok (.isub, 1) := by decide +kernel
theorem dX0_put_47 : decode cX0_put 47 = .ok (.invokestatic 82, 3) := by decide +kernel
theorem dX0_put_50 : decode cX0_put 50 = .ok (.iadd, 1) := by decide +kernel
theorem dX0_put_51 : decode cX0_put 51 = .ok (.iastore, 1) := by decide +kernel
theorem dX0_put_52 : decode cX0_put 52 = .ok (.iload 4, 2) := by decide +kernel
theorem dX0_put_54 : decode cX0_put 54 = .ok (.ireturn, 1) := by decide +kernel
theorem dX0_penaltyAt_0 : decode cX0_penaltyAt 0 = .ok (.aload_n 0, 1) := by decide +kernel
theorem dX0_penaltyAt_1 : decode cX0_penaltyAt 1 = .ok (.iload_n 1, 1) := by decide +kernel
theorem dX0_penaltyAt_2 : decode cX0_penaltyAt 2 = .ok (.iload_n 2, 1) := by decide +kernel
theorem dX0_penaltyAt_3 : decode cX0_penaltyAt 3 = .ok (.invokevirtual 67, 3) := by decide +kernel
theorem dX0_penaltyAt_6 : decode cX0_penaltyAt 6 = .ok (.aload_n 0, 1) := by decide +kernel
theorem dX0_penaltyAt_7 : decode cX0_penaltyAt 7 = .ok (.iload_n 1, 1) := by decide +kernel
theorem dX0_penaltyAt_8 : decode cX0_penaltyAt 8 = .ok (.iload_n 2, 1) := by decide +kernel
theorem dX0_penaltyAt_9 : decode cX0_penaltyAt 9 = .ok (.invokevirtual 76, 3) := by decide +kernel
theorem dX0_penaltyAt_12 : decode cX0_penaltyAt 12 = .ok (.isub, 1) := by decide +kernel
theorem dX0_penaltyAt_13 : decode cX0_penaltyAt 13 = .ok (.istore_n 3, 1) := by decide +kernel
theorem dX0_penaltyAt_14 : decode cX0_penaltyAt 14 = .ok (.iload_n 3, 1) := by decide +kernel
theorem dX0_penaltyAt_15 : decode cX0_penaltyAt 15 = .ok (.ifCond .le 10, 3) := by decide +kernel
theorem dX0_penaltyAt_18 : decode cX0_penaltyAt 18 = .ok (.bipush 100, 2) := by decide +kernel
theorem dX0_penaltyAt_20 : decode cX0_penaltyAt 20 = .ok (.iload_n 3, 1) := by decide +kernel
theorem dX0_penaltyAt_21 : decode cX0_penaltyAt 21 = .ok (.imul, 1) := by decide +kernel
theorem dX0_penaltyAt_22 : decode cX0_penaltyAt 22 = .ok (.goto 8, 3) := by decide +kernel
theorem dX0_penaltyAt_25 : decode cX0_penaltyAt 25 = .ok (.sipush (-600), 3) := by decide +kernel
theorem dX0_penaltyAt_28 : decode cX0_penaltyAt 28 = .ok (.iload_n 3, 1) := by decide +kernel
theorem dX0_penaltyAt_29 : decode cX0_penaltyAt 29 = .ok (.imul, 1) := by decide +kernel
theorem dX0_penaltyAt_30 : decode cX0_penaltyAt 30 = .ok (.ireturn, 1) := by decide +kernel
theorem dX0_penaltiesFromCard_0 : decode cX0_penaltiesFromCard 0 = .ok (.iconst 0, 1) := by decide +kernel
theorem dX0_penaltiesFromCard_1 : decode cX0_penaltiesFromCard 1 = .ok (.istore_n 2, 1) := by decide +kernel
theorem dX0_penaltiesFromCard_2 : decode cX0_penaltiesFromCard 2 = .ok (.iconst 0, 1) := by decide +kernel
theorem dX0_penaltiesFromCard_3 : decode cX0_penaltiesFromCard 3 = .ok (.istore_n 3, 1) := by decide +kernel
theorem dX0_penaltiesFromCard_4 : decode cX0_penaltiesFromCard 4 = .ok (.iload_n 3, 1) := by decide +kernel
theorem dX0_penaltiesFromCard_5 : decode cX0_penaltiesFromCard 5 = .ok (.aload_n 0, 1) := by decide +kernel
theorem dX0_penaltiesFromCard_6 : decode cX0_penaltiesFromCard 6 = .ok (.getfield 31, 3) := by decide +kernel
theorem dX0_penaltiesFromCard_9 : decode cX0_penaltiesFromCard 9 = .ok (.invokevirtual 87, 3) := by decide +kernel
theorem dX0_penaltiesFromCard_12 : decode cX0_penaltiesFromCard 12 = .ok (.if_icmp .ge 28, 3) := by decide +kernel
theorem dX0_penaltiesFromCard_15 : decode cX0_penaltiesFromCard 15 = .ok (.aload_n 0, 1) := by decide +kernel
theorem dX0_penaltiesFromCard_16 : decode cX0_penaltiesFromCard 16 = .ok (.iload_n 1, 1) := by decide +kernel
theorem dX0_penaltiesFromCard_17 : decode cX0_penaltiesFromCard 17 = .ok (.iload_n 3, 1) := by decide +kernel
theorem dX0_penaltiesFromCard_18 : decode cX0_penaltiesFromCard 18 = .ok (.invokevirtual 67, 3) := by decide +kernel
theorem dX0_penaltiesFromCard_21 : decode cX0_penaltiesFromCard 21 = .ok (.iconst (-1), 1) := by decide +kernel
theorem dX0_penaltiesFromCard_22 : decode cX0_penaltiesFromCard 22 = .ok (.if_icmp .eq 12, 3) := by decide +kernel
theorem dX0_penaltiesFromCard_25 : decode cX0_penaltiesFromCard 25 = .ok (.iload_n 2, 1) := by decide +kernel
theorem dX0_penaltiesFromCard_26 : decode cX0_penaltiesFromCard 26 = .ok (.aload_n 0, 1) := by decide +kernel
theorem dX0_penaltiesFromCard_27 : decode cX0_penaltiesFromCard 27 = .ok (.iload_n 1, 1) := by decide +kernel
theorem dX0_penaltiesFromCard_28 : decode cX0_penaltiesFromCard 28 = .ok (.iload_n 3, 1) := by decide +kernel
theorem dX0_penaltiesFromCard_29 : decode cX0_penaltiesFromCard 29 = .ok (.invokevirtual 79, 3) := by decide +kernel
theorem dX0_penaltiesFromCard_32 : decode cX0_penaltiesFromCard 32 = .ok (.iadd, 1) := by decide +kernel
theorem dX0_penaltiesFromCard_33 : decode cX0_penaltiesFromCard 33 = .ok (.istore_n 2, 1) := by decide +kernel
theorem dX0_penaltiesFromCard_34 : decode cX0_penaltiesFromCard 34 = .ok (.iinc 3 1, 3) := by decide +kernel
theorem dX0_penaltiesFromCard_37 : decode cX0_penaltiesFromCard 37 = .ok (.goto (-33), 3) := by decide +kernel
theorem dX0_penaltiesFromCard_40 : decode cX0_penaltiesFromCard 40 = .ok (.iload_n 2, 1) := by decide +kernel
theorem dX0_penaltiesFromCard_41 : decode cX0_penaltiesFromCard 41 = .ok (.ireturn, 1) := by decide +kernel
theorem dX0_giveDelay_0 : decode cX0_giveDelay 0 = .ok (.iconst 0, 1) := by decide +kernel
theorem dX0_giveDelay_1 : decode cX0_giveDelay 1 = .ok (.istore 5, 2) := by decide +kernel
theorem dX0_giveDelay_3 : decode cX0_giveDelay 3 = .ok (.iload_n 3, 1) := by decide +kernel
theorem dX0_giveDelay_4 : decode cX0_giveDelay 4 = .ok (.istore 6, 2) := by decide +kernel
theorem dX0_giveDelay_6 : decode cX0_giveDelay 6 = .ok (.iload 6, 2) := by decide +kernel
theorem dX0_giveDelay_8 : decode cX0_giveDelay 8 = .ok (.bipush 10, 2) := by decide +kernel
theorem dX0_giveDelay_10 : decode cX0_giveDelay 10 = .ok (.if_icmp .ge 58, 3) := by decide +kernel
theorem dX0_giveDelay_13 : decode cX0_giveDelay 13 = .ok (.aload_n 0, 1) := by decide +kernel
theorem dX0_giveDelay_14 : decode cX0_giveDelay 14 = .ok (.getfield 35, 3) := by decide +kernel
theorem dX0_giveDelay_17 : decode cX0_giveDelay 17 = .ok (.iload_n 2, 1) := by decide +kernel
theorem dX0_giveDelay_18 : decode cX0_giveDelay 18 = .ok (.iload 6, 2) := by decide +kernel
theorem dX0_giveDelay_20 : decode cX0_giveDelay 20 = .ok (.invokevirtual 91, 3) := by decide +kernel
theorem dX0_giveDelay_23 : decode cX0_giveDelay 23 = .ok (.istore 7, 2) := by decide +kernel
theorem dX0_giveDelay_25 : decode cX0_giveDelay 25 = .ok (.iload 7, 2) := by decide +kernel
theorem dX0_giveDelay_27 : decode cX0_giveDelay 27 = .ok (.iconst (-1), 1) := by decide +kernel
theorem dX0_giveDelay_28 : decode cX0_giveDelay 28 = .ok (.if_icmp .eq 34, 3) := by decide +kernel
theorem dX0_giveDelay_31 : decode cX0_giveDelay 31 = .ok (.aload_n 0, 1) := by decide +kernel
theorem dX0_giveDelay_32 : decode cX0_giveDelay 32 = .ok (.iload 7, 2) := by decide +kernel
theorem dX0_giveDelay_34 : decode cX0_giveDelay 34 = .ok (.iload_n 1, 1) := by decide +kernel
theorem dX0_giveDelay_35 : decode cX0_giveDelay 35 = .ok (.invokevirtual 67, 3) := by decide +kernel
theorem dX0_giveDelay_38 : decode cX0_giveDelay 38 = .ok (.iconst (-1), 1) := by decide +kernel
theorem dX0_giveDelay_39 : decode cX0_giveDelay 39 = .ok (.if_icmp .ne 23, 3) := by decide +kernel
theorem dX0_giveDelay_42 : decode cX0_giveDelay 42 = .ok (.aload_n 0, 1) := by decide +kernel
theorem dX0_giveDelay_43 : decode cX0_giveDelay 43 = .ok (.getfield 15, 3) := by decide +kernel
theorem dX0_giveDelay_46 : decode cX0_giveDelay 46 = .ok (.iload_n 1, 1) := by decide +kernel
theorem dX0_giveDelay_47 : decode cX0_giveDelay 47 = .ok (.bipush 10, 2) := by decide +kernel
theorem dX0_giveDelay_49 : decode cX0_giveDelay 49 = .ok (.imul, 1) := by decide +kernel
theorem dX0_giveDelay_50 : decode cX0_giveDelay 50 = .ok (.iload 7, 2) := by decide +kernel
theorem dX0_giveDelay_52 : decode cX0_giveDelay 52 = .ok (.iadd, 1) := by decide +kernel
theorem dX0_giveDelay_53 : decode cX0_giveDelay 53 = .ok (.dup2, 1) := by decide +kernel
theorem dX0_giveDelay_54 : decode cX0_giveDelay 54 = .ok (.iaload, 1) := by decide +kernel
theorem dX0_giveDelay_55 : decode cX0_giveDelay 55 = .ok (.iload 4, 2) := by decide +kernel
theorem dX0_giveDelay_57 : decode cX0_giveDelay 57 = .ok (.iadd, 1) := by decide +kernel
theorem dX0_giveDelay_58 : decode cX0_giveDelay 58 = .ok (.iastore, 1) := by decide +kernel
theorem dX0_giveDelay_59 : decode cX0_giveDelay 59 = .ok (.iinc 5 1, 3) := by decide +kernel
theorem dX0_giveDelay_62 : decode cX0_giveDelay 62 = .ok (.iinc 6 1, 3) := by decide +kernel
theorem dX0_giveDelay_65 : decode cX0_giveDelay 65 = .ok (.goto (-59), 3) := by decide +kernel
theorem dX0_giveDelay_68 : decode cX0_giveDelay 68 = .ok (.iload 5, 2) := by decide +kernel
theorem dX0_giveDelay_70 : decode cX0_giveDelay 70 = .ok (.ireturn, 1) := by decide +kernel
theorem dX0_startTenths_0 : decode cX0_startTenths 0 = .ok (.sipush 600, 3) := by decide +kernel
theorem dX0_startTenths_3 : decode cX0_startTenths 3 = .ok (.aload_n 0, 1) := by decide +kernel
theorem dX0_startTenths_4 : decode cX0_startTenths 4 = .ok (.iload_n 1, 1) := by decide +kernel
theorem dX0_startTenths_5 : decode cX0_startTenths 5 = .ok (.aload_n 0, 1) := by decide +kernel
theorem dX0_startTenths_6 : decode cX0_startTenths 6 = .ok (.getfield 31, 3) := by decide +kernel
theorem dX0_startTenths_9 : decode cX0_startTenths 9 = .ok (.iload_n 2, 1) := by decide +kernel
theorem dX0_startTenths_10 : decode cX0_startTenths 10 = .ok (.invokevirtual 64, 3) := by decide +kernel
theorem dX0_startTenths_13 : decode cX0_startTenths 13 = .ok (.invokevirtual 67, 3) := by decide +kernel
theorem dX0_startTenths_16 : decode cX0_startTenths 16 = .ok (.iconst 3, 1) := by decide +kernel
theorem dX0_startTenths_17 : decode cX0_startTenths 17 = .ok (.iadd, 1) := by decide +kernel
theorem dX0_startTenths_18 : decode cX0_startTenths 18 = .ok (.imul, 1) := by decide +kernel
theorem dX0_startTenths_19 : decode cX0_startTenths 19 = .ok (.ireturn, 1) := by decide +kernel
theorem dX0_penaltiesOf_0 : decode cX0_penaltiesOf 0 = .ok (.aload_n 0, 1) := by decide +kernel
theorem dX0_penaltiesOf_1 : decode cX0_penaltiesOf 1 = .ok (.getfield 18, 3) := by decide +kernel
theorem dX0_penaltiesOf_4 : decode cX0_penaltiesOf 4 = .ok (.iload_n 1, 1) := by decide +kernel
theorem dX0_penaltiesOf_5 : decode cX0_penaltiesOf 5 = .ok (.iaload, 1) := by decide +kernel
theorem dX0_penaltiesOf_6 : decode cX0_penaltiesOf 6 = .ok (.ireturn, 1) := by decide +kernel
theorem dX0_lateOf_0 : decode cX0_lateOf 0 = .ok (.aload_n 0, 1) := by decide +kernel
theorem dX0_lateOf_1 : decode cX0_lateOf 1 = .ok (.getfield 21, 3) := by decide +kernel
theorem dX0_lateOf_4 : decode cX0_lateOf 4 = .ok (.iload_n 1, 1) := by decide +kernel
theorem dX0_lateOf_5 : decode cX0_lateOf 5 = .ok (.iaload, 1) := by decide +kernel
theorem dX0_lateOf_6 : decode cX0_lateOf 6 = .ok (.ireturn, 1) := by decide +kernel
theorem dX0_isOut_0 : decode cX0_isOut 0 = .ok (.aload_n 0, 1) := by decide +kernel
theorem dX0_isOut_1 : decode cX0_isOut 1 = .ok (.getfield 21, 3) := by decide +kernel
theorem dX0_isOut_4 : decode cX0_isOut 4 = .ok (.iload_n 1, 1) := by decide +kernel
theorem dX0_isOut_5 : decode cX0_isOut 5 = .ok (.iaload, 1) := by decide +kernel
theorem dX0_isOut_6 : decode cX0_isOut 6 = .ok (.bipush 30, 2) := by decide +kernel
theorem dX0_isOut_8 : decode cX0_isOut 8 = .ok (.if_icmp .le 7, 3) := by decide +kernel
theorem dX0_isOut_11 : decode cX0_isOut 11 = .ok (.iconst 1, 1) := by decide +kernel
theorem dX0_isOut_12 : decode cX0_isOut 12 = .ok (.goto 4, 3) := by decide +kernel
theorem dX0_isOut_15 : decode cX0_isOut 15 = .ok (.iconst 0, 1) := by decide +kernel
theorem dX0_isOut_16 : decode cX0_isOut 16 = .ok (.ireturn, 1) := by decide +kernel
theorem dX0_isRetired_0 : decode cX0_isRetired 0 = .ok (.aload_n 0, 1) := by decide +kernel
theorem dX0_isRetired_1 : decode cX0_isRetired 1 = .ok (.getfield 24, 3) := by decide +kernel
theorem dX0_isRetired_4 : decode cX0_isRetired 4 = .ok (.iload_n 1, 1) := by decide +kernel
theorem dX0_isRetired_5 : decode cX0_isRetired 5 = .ok (.baload, 1) := by decide +kernel
theorem dX0_isRetired_6 : decode cX0_isRetired 6 = .ok (.ireturn, 1) := by decide +kernel
theorem dX0_isRunning_0 : decode cX0_isRunning 0 = .ok (.aload_n 0, 1) := by decide +kernel
theorem dX0_isRunning_1 : decode cX0_isRunning 1 = .ok (.getfield 24, 3) := by decide +kernel
theorem dX0_isRunning_4 : decode cX0_isRunning 4 = .ok (.iload_n 1, 1) := by decide +kernel
theorem dX0_isRunning_5 : decode cX0_isRunning 5 = .ok (.baload, 1) := by decide +kernel
theorem dX0_isRunning_6 : decode cX0_isRunning 6 = .ok (.ifCond .ne 15, 3) := by decide +kernel
theorem dX0_isRunning_9 : decode cX0_isRunning 9 = .ok (.aload_n 0, 1) := by decide +kernel
theorem dX0_isRunning_10 : decode cX0_isRunning 10 = .ok (.iload_n 1, 1) := by decide +kernel
theorem dX0_isRunning_11 : decode cX0_isRunning 11 = .ok (.invokevirtual 94, 3) := by decide +kernel
theorem dX0_isRunning_14 : decode cX0_isRunning 14 = .ok (.ifCond .ne 7, 3) := by decide +kernel
theorem dX0_isRunning_17 : decode cX0_isRunning 17 = .ok (.iconst 1, 1) := by decide +kernel
theorem dX0_isRunning_18 : decode cX0_isRunning 18 = .ok (.goto 4, 3) := by decide +kernel
theorem dX0_isRunning_21 : decode cX0_isRunning 21 = .ok (.iconst 0, 1) := by decide +kernel
theorem dX0_isRunning_22 : decode cX0_isRunning 22 = .ok (.ireturn, 1) := by decide +kernel
theorem dX0_hasStarted_0 : decode cX0_hasStarted 0 = .ok (.aload_n 0, 1) := by decide +kernel
theorem dX0_hasStarted_1 : decode cX0_hasStarted 1 = .ok (.iload_n 1, 1) := by decide +kernel
theorem dX0_hasStarted_2 : decode cX0_hasStarted 2 = .ok (.iconst 0, 1) := by decide +kernel
theorem dX0_hasStarted_3 : decode cX0_hasStarted 3 = .ok (.invokevirtual 67, 3) := by decide +kernel
theorem dX0_hasStarted_6 : decode cX0_hasStarted 6 = .ok (.iconst (-1), 1) := by decide +kernel
theorem dX0_hasStarted_7 : decode cX0_hasStarted 7 = .ok (.if_icmp .eq 7, 3) := by decide +kernel
theorem dX0_hasStarted_10 : decode cX0_hasStarted 10 = .ok (.iconst 1, 1) := by decide +kernel
theorem dX0_hasStarted_11 : decode cX0_hasStarted 11 = .ok (.goto 4, 3) := by decide +kernel
theorem dX0_hasStarted_14 : decode cX0_hasStarted 14 = .ok (.iconst 0, 1) := by decide +kernel
theorem dX0_hasStarted_15 : decode cX0_hasStarted 15 = .ok (.ireturn, 1) := by decide +kernel
theorem dX0_withdraw_0 : decode cX0_withdraw 0 = .ok (.aload_n 0, 1) := by decide +kernel
theorem dX0_withdraw_1 : decode cX0_withdraw 1 = .ok (.getfield 24, 3) := by decide +kernel
theorem dX0_withdraw_4 : decode cX0_withdraw 4 = .ok (.iload_n 1, 1) := by decide +kernel
theorem dX0_withdraw_5 : decode cX0_withdraw 5 = .ok (.iconst 1, 1) := by decide +kernel
theorem dX0_withdraw_6 : decode cX0_withdraw 6 = .ok (.bastore, 1) := by decide +kernel
theorem dX0_withdraw_7 : decode cX0_withdraw 7 = .ok (.aload_n 0, 1) := by decide +kernel
theorem dX0_withdraw_8 : decode cX0_withdraw 8 = .ok (.getfield 28, 3) := by decide +kernel
theorem dX0_withdraw_11 : decode cX0_withdraw 11 = .ok (.iload_n 1, 1) := by decide +kernel
theorem dX0_withdraw_12 : decode cX0_withdraw 12 = .ok (.iload_n 2, 1) := by decide +kernel
theorem dX0_withdraw_13 : decode cX0_withdraw 13 = .ok (.bastore, 1) := by decide +kernel
theorem dX0_withdraw_14 : decode cX0_withdraw 14 = .ok (.return_, 1) := by decide +kernel
theorem dX0_canReturn_0 : decode cX0_canReturn 0 = .ok (.aload_n 0, 1) := by decide +kernel
theorem dX0_canReturn_1 : decode cX0_canReturn 1 = .ok (.getfield 24, 3) := by decide +kernel
theorem dX0_canReturn_4 : decode cX0_canReturn 4 = .ok (.iload_n 1, 1) := by decide +kernel
theorem dX0_canReturn_5 : decode cX0_canReturn 5 = .ok (.baload, 1) := by decide +kernel
theorem dX0_canReturn_6 : decode cX0_canReturn 6 = .ok (.ifCond .eq 32, 3) := by decide +kernel
theorem dX0_canReturn_9 : decode cX0_canReturn 9 = .ok (.aload_n 0, 1) := by decide +kernel
theorem dX0_canReturn_10 : decode cX0_canReturn 10 = .ok (.getfield 28, 3) := by decide +kernel
theorem dX0_canReturn_13 : decode cX0_canReturn 13 = .ok (.iload_n 1, 1) := by decide +kernel
theorem dX0_canReturn_14 : decode cX0_canReturn 14 = .ok (.baload, 1) := by decide +kernel
theorem dX0_canReturn_15 : decode cX0_canReturn 15 = .ok (.ifCond .eq 23, 3) := by decide +kernel
theorem dX0_canReturn_18 : decode cX0_canReturn 18 = .ok (.aload_n 0, 1) := by decide +kernel
theorem dX0_canReturn_19 : decode cX0_canReturn 19 = .ok (.iload_n 1, 1) := by decide +kernel
theorem dX0_canReturn_20 : decode cX0_canReturn 20 = .ok (.invokevirtual 94, 3) := by decide +kernel
theorem dX0_canReturn_23 : decode cX0_canReturn 23 = .ok (.ifCond .ne 15, 3) := by decide +kernel
theorem dX0_canReturn_26 : decode cX0_canReturn 26 = .ok (.aload_n 0, 1) := by decide +kernel
theorem dX0_canReturn_27 : decode cX0_canReturn 27 = .ok (.iload_n 1, 1) := by decide +kernel
theorem dX0_canReturn_28 : decode cX0_canReturn 28 = .ok (.invokevirtual 97, 3) := by decide +kernel
theorem dX0_canReturn_31 : decode cX0_canReturn 31 = .ok (.ifCond .eq 7, 3) := by decide +kernel
theorem dX0_canReturn_34 : decode cX0_canReturn 34 = .ok (.iconst 1, 1) := by decide +kernel
theorem dX0_canReturn_35 : decode cX0_canReturn 35 = .ok (.goto 4, 3) := by decide +kernel
theorem dX0_canReturn_38 : decode cX0_canReturn 38 = .ok (.iconst 0, 1) := by decide +kernel
theorem dX0_canReturn_39 : decode cX0_canReturn 39 = .ok (.ireturn, 1) := by decide +kernel
theorem dX0_bringBack_0 : decode cX0_bringBack 0 = .ok (.aload_n 0, 1) := by decide +kernel
theorem dX0_bringBack_1 : decode cX0_bringBack 1 = .ok (.getfield 24, 3) := by decide +kernel
theorem dX0_bringBack_4 : decode cX0_bringBack 4 = .ok (.iload_n 1, 1) := by decide +kernel
theorem dX0_bringBack_5 : decode cX0_bringBack 5 = .ok (.iconst 0, 1) := by decide +kernel
theorem dX0_bringBack_6 : decode cX0_bringBack 6 = .ok (.bastore, 1) := by decide +kernel
theorem dX0_bringBack_7 : decode cX0_bringBack 7 = .ok (.return_, 1) := by decide +kernel
theorem dX1_init_0 : decode cX1_init 0 = .ok (.aload_n 0, 1) := by decide +kernel
theorem dX1_init_1 : decode cX1_init 1 = .ok (.invokespecial 3, 3) := by decide +kernel
theorem dX1_init_4 : decode cX1_init 4 = .ok (.aload_n 0, 1) := by decide +kernel
theorem dX1_init_5 : decode cX1_init 5 = .ok (.bipush 20, 2) := by decide +kernel
theorem dX1_init_7 : decode cX1_init 7 = .ok (.newarray .int, 2) := by decide +kernel
theorem dX1_init_9 : decode cX1_init 9 = .ok (.putfield 9, 3) := by decide +kernel
theorem dX1_init_12 : decode cX1_init 12 = .ok (.aload_n 0, 1) := by decide +kernel
theorem dX1_init_13 : decode cX1_init 13 = .ok (.bipush 20, 2) := by decide +kernel
theorem dX1_init_15 : decode cX1_init 15 = .ok (.newarray .int, 2) := by decide +kernel
theorem dX1_init_17 : decode cX1_init 17 = .ok (.putfield 15, 3) := by decide +kernel
theorem dX1_init_20 : decode cX1_init 20 = .ok (.aload_n 0, 1) := by decide +kernel
theorem dX1_init_21 : decode cX1_init 21 = .ok (.bipush 20, 2) := by decide +kernel
theorem dX1_init_23 : decode cX1_init 23 = .ok (.newarray .int, 2) := by decide +kernel
theorem dX1_init_25 : decode cX1_init 25 = .ok (.putfield 18, 3) := by decide +kernel
theorem dX1_init_28 : decode cX1_init 28 = .ok (.return_, 1) := by decide +kernel
theorem dX1_has_0 : decode cX1_has 0 = .ok (.iload_n 1, 1) := by decide +kernel
theorem dX1_has_1 : decode cX1_has 1 = .ok (.ifCond .lt 15, 3) := by decide +kernel
theorem dX1_has_4 : decode cX1_has 4 = .ok (.iload_n 1, 1) := by decide +kernel
theorem dX1_has_5 : decode cX1_has 5 = .ok (.aload_n 0, 1) := by decide +kernel
theorem dX1_has_6 : decode cX1_has 6 = .ok (.getfield 21, 3) := by decide +kernel
theorem dX1_has_9 : decode cX1_has 9 = .ok (.if_icmp .ge 7, 3) := by decide +kernel
theorem dX1_has_12 : decode cX1_has 12 = .ok (.iconst 1, 1) := by decide +kernel
theorem dX1_has_13 : decode cX1_has 13 = .ok (.goto 4, 3) := by decide +kernel
theorem dX1_has_16 : decode cX1_has 16 = .ok (.iconst 0, 1) := by decide +kernel
theorem dX1_has_17 : decode cX1_has 17 = .ok (.ireturn, 1) := by decide +kernel
theorem dX1_size_0 : decode cX1_size 0 = .ok (.aload_n 0, 1) := by decide +kernel
theorem dX1_size_1 : decode cX1_size 1 = .ok (.getfield 21, 3) := by decide +kernel
theorem dX1_size_4 : decode cX1_size 4 = .ok (.ireturn, 1) := by decide +kernel
theorem dX1_kindOf_0 : decode cX1_kindOf 0 = .ok (.aload_n 0, 1) := by decide +kernel
theorem dX1_kindOf_1 : decode cX1_kindOf 1 = .ok (.iload_n 1, 1) := by decide +kernel
theorem dX1_kindOf_2 : decode cX1_kindOf 2 = .ok (.invokevirtual 25, 3) := by decide +kernel
theorem dX1_kindOf_5 : decode cX1_kindOf 5 = .ok (.ifCond .eq 12, 3) := by decide +kernel
theorem dX1_kindOf_8 : decode cX1_kindOf 8 = .ok (.aload_n 0, 1) := by decide +kernel
theorem dX1_kindOf_9 : decode cX1_kindOf 9 = .ok (.getfield 9, 3) := by decide +kernel
theorem dX1_kindOf_12 : decode cX1_kindOf 12 = .ok (.iload_n 1, 1) := by decide +kernel
theorem dX1_kindOf_13 : decode cX1_kindOf 13 = .ok (.iaload, 1) := by decide +kernel
theorem dX1_kindOf_14 : decode cX1_kindOf 14 = .ok (.goto 4, 3) := by decide +kernel
theorem dX1_kindOf_17 : decode cX1_kindOf 17 = .ok (.iconst (-1), 1) := by decide +kernel
theorem dX1_kindOf_18 : decode cX1_kindOf 18 = .ok (.ireturn, 1) := by decide +kernel
theorem dX1_minutesOf_0 : decode cX1_minutesOf 0 = .ok (.aload_n 0, 1) := by decide +kernel
theorem dX1_minutesOf_1 : decode cX1_minutesOf 1 = .ok (.iload_n 1, 1) := by decide +kernel
theorem dX1_minutesOf_2 : decode cX1_minutesOf 2 = .ok (.invokevirtual 25, 3) := by decide +kernel
theorem dX1_minutesOf_5 : decode cX1_minutesOf 5 = .ok (.ifCond .eq 12, 3) := by decide +kernel
theorem dX1_minutesOf_8 : decode cX1_minutesOf 8 = .ok (.aload_n 0, 1) := by decide +kernel
theorem dX1_minutesOf_9 : decode cX1_minutesOf 9 = .ok (.getfield 15, 3) := by decide +kernel
theorem dX1_minutesOf_12 : decode cX1_minutesOf 12 = .ok (.iload_n 1, 1) := by decide +kernel
theorem dX1_minutesOf_13 : decode cX1_minutesOf 13 = .ok (.iaload, 1) := by decide +kernel
theorem dX1_minutesOf_14 : decode cX1_minutesOf 14 = .ok (.goto 4, 3) := by decide +kernel
theorem dX1_minutesOf_17 : decode cX1_minutesOf 17 = .ok (.iconst 0, 1) := by decide +kernel
theorem dX1_minutesOf_18 : decode cX1_minutesOf 18 = .ok (.ireturn, 1) := by decide +kernel
theorem dX1_takes_0 : decode cX1_takes 0 = .ok (.aload_n 0, 1) := by decide +kernel
theorem dX1_takes_1 : decode cX1_takes 1 = .ok (.getfield 21, 3) := by decide +kernel
theorem dX1_takes_4 : decode cX1_takes 4 = .ok (.bipush 20, 2) := by decide +kernel
theorem dX1_takes_6 : decode cX1_takes 6 = .ok (.if_icmp .lt 5, 3) := by decide +kernel
theorem dX1_takes_9 : decode cX1_takes 9 = .ok (.iconst 0, 1) := by decide +kernel
theorem dX1_takes_10 : decode cX1_takes 10 = .ok (.ireturn, 1) := by decide +kernel
theorem dX1_takes_11 : decode cX1_takes 11 = .ok (.aload_n 0, 1) := by decide +kernel
theorem dX1_takes_12 : decode cX1_takes 12 = .ok (.getfield 21, 3) := by decide +kernel
theorem dX1_takes_15 : decode cX1_takes 15 = .ok (.ifCond .ne 13, 3) := by decide +kernel
theorem dX1_takes_18 : decode cX1_takes 18 = .ok (.iload_n 1, 1) := by decide +kernel
theorem dX1_takes_19 : decode cX1_takes 19 = .ok (.ifCond .ne 7, 3) := by decide +kernel
theorem dX1_takes_22 : decode cX1_takes 22 = .ok (.iconst 1, 1) := by decide +kernel
theorem dX1_takes_23 : decode cX1_takes 23 = .ok (.goto 4, 3) := by decide +kernel
theorem dX1_takes_26 : decode cX1_takes 26 = .ok (.iconst 0, 1) := by decide +kernel
theorem dX1_takes_27 : decode cX1_takes 27 = .ok (.ireturn, 1) := by decide +kernel
theorem dX1_takes_28 : decode cX1_takes 28 = .ok (.iload_n 1, 1) := by decide +kernel
theorem dX1_takes_29 : decode cX1_takes 29 = .ok (.iconst 1, 1) := by decide +kernel
theorem dX1_takes_30 : decode cX1_takes 30 = .ok (.if_icmp .eq 17, 3) := by decide +kernel
theorem dX1_takes_33 : decode cX1_takes 33 = .ok (.aload_n 0, 1) := by decide +kernel
theorem dX1_takes_34 : decode cX1_takes 34 = .ok (.aload_n 0, 1) := by decide +kernel
theorem dX1_takes_35 : decode cX1_takes 35 = .ok (.getfield 21, 3) := by decide +kernel
theorem dX1_takes_38 : decode cX1_takes 38 = .ok (.iconst 1, 1) := by decide +kernel
theorem dX1_takes_39 : decode cX1_takes 39 = .ok (.isub, 1) := by decide +kernel
theorem dX1_takes_40 : decode cX1_takes 40 = .ok (.invokevirtual 29, 3) := by decide +kernel
theorem dX1_takes_43 : decode cX1_takes 43 = .ok (.iconst 2, 1) := by decide +kernel
theorem dX1_takes_44 : decode cX1_takes 44 = .ok (.if_icmp .eq 7, 3) := by decide +kernel
theorem dX1_takes_47 : decode cX1_takes 47 = .ok (.iconst 1, 1) := by decide +kernel
theorem dX1_takes_48 : decode cX1_takes 48 = .ok (.goto 4, 3) := by decide +kernel
theorem dX1_takes_51 : decode cX1_takes 51 = .ok (.iconst 0, 1) := by decide +kernel
theorem dX1_takes_52 : decode cX1_takes 52 = .ok (.ireturn, 1) := by decide +kernel
theorem dX1_add_0 : decode cX1_add 0 = .ok (.aload_n 0, 1) := by decide +kernel
theorem dX1_add_1 : decode cX1_add 1 = .ok (.getfield 21, 3) := by decide +kernel
theorem dX1_add_4 : decode cX1_add 4 = .ok (.bipush 20, 2) := by decide +kernel
theorem dX1_add_6 : decode cX1_add 6 = .ok (.if_icmp .lt 5, 3) := by decide +kernel
theorem dX1_add_9 : decode cX1_add 9 = .ok (.iconst (-1), 1) := by decide +kernel
theorem dX1_add_10 : decode cX1_add 10 = .ok (.ireturn, 1) := by decide +kernel
theorem dX1_add_11 : decode cX1_add 11 = .ok (.aload_n 0, 1) := by decide +kernel
theorem dX1_add_12 : decode cX1_add 12 = .ok (.getfield 9, 3) := by decide +kernel
theorem dX1_add_15 : decode cX1_add 15 = .ok (.aload_n 0, 1) := by decide +kernel
theorem dX1_add_16 : decode cX1_add 16 = .ok (.getfield 21, 3) := by decide +kernel
theorem dX1_add_19 : decode cX1_add 19 = .ok (.iload_n 1, 1) := by decide +kernel
theorem dX1_add_20 : decode cX1_add 20 = .ok (.iastore, 1) := by decide +kernel
theorem dX1_add_21 : decode cX1_add 21 = .ok (.aload_n 0, 1) := by decide +kernel
theorem dX1_add_22 : decode cX1_add 22 = .ok (.getfield 15, 3) := by decide +kernel
theorem dX1_add_25 : decode cX1_add 25 = .ok (.aload_n 0, 1) := by decide +kernel
theorem dX1_add_26 : decode cX1_add 26 = .ok (.getfield 21, 3) := by decide +kernel
theorem dX1_add_29 : decode cX1_add 29 = .ok (.iload_n 2, 1) := by decide +kernel
theorem dX1_add_30 : decode cX1_add 30 = .ok (.iastore, 1) := by decide +kernel
theorem dX1_add_31 : decode cX1_add 31 = .ok (.aload_n 0, 1) := by decide +kernel
theorem dX1_add_32 : decode cX1_add 32 = .ok (.getfield 18, 3) := by decide +kernel
theorem dX1_add_35 : decode cX1_add 35 = .ok (.aload_n 0, 1) := by decide +kernel
theorem dX1_add_36 : decode cX1_add 36 = .ok (.getfield 21, 3) := by decide +kernel
theorem dX1_add_39 : decode cX1_add 39 = .ok (.iload_n 1, 1) := by decide +kernel
theorem dX1_add_40 : decode cX1_add 40 = .ok (.ifCond .ne 10, 3) := by decide +kernel
theorem dX1_add_43 : decode cX1_add 43 = .ok (.aload_n 0, 1) := by decide +kernel
theorem dX1_add_44 : decode cX1_add 44 = .ok (.getfield 21, 3) := by decide +kernel
theorem dX1_add_47 : decode cX1_add 47 = .ok (.goto 13, 3) := by decide +kernel
theorem dX1_add_50 : decode cX1_add 50 = .ok (.aload_n 0, 1) := by decide +kernel
theorem dX1_add_51 : decode cX1_add 51 = .ok (.aload_n 0, 1) := by decide +kernel
theorem dX1_add_52 : decode cX1_add 52 = .ok (.getfield 21, 3) := by decide +kernel
theorem dX1_add_55 : decode cX1_add 55 = .ok (.iconst 1, 1) := by decide +kernel
theorem dX1_add_56 : decode cX1_add 56 = .ok (.isub, 1) := by decide +kernel
theorem dX1_add_57 : decode cX1_add 57 = .ok (.invokevirtual 33, 3) := by decide +kernel
theorem dX1_add_60 : decode cX1_add 60 = .ok (.iastore, 1) := by decide +kernel
theorem dX1_add_61 : decode cX1_add 61 = .ok (.aload_n 0, 1) := by decide +kernel
theorem dX1_add_62 : decode cX1_add 62 = .ok (.dup, 1) := by decide +kernel
theorem dX1_add_63 : decode cX1_add 63 = .ok (.getfield 21, 3) := by decide +kernel
theorem dX1_add_66 : decode cX1_add 66 = .ok (.iconst 1, 1) := by decide +kernel
theorem dX1_add_67 : decode cX1_add 67 = .ok (.iadd, 1) := by decide +kernel
theorem dX1_add_68 : decode cX1_add 68 = .ok (.putfield 21, 3) := by decide +kernel
theorem dX1_add_71 : decode cX1_add 71 = .ok (.aload_n 0, 1) := by decide +kernel
theorem dX1_add_72 : decode cX1_add 72 = .ok (.getfield 21, 3) := by decide +kernel
theorem dX1_add_75 : decode cX1_add 75 = .ok (.iconst 1, 1) := by decide +kernel
theorem dX1_add_76 : decode cX1_add 76 = .ok (.isub, 1) := by decide +kernel
theorem dX1_add_77 : decode cX1_add 77 = .ok (.ireturn, 1) := by decide +kernel
theorem dX1_isBehindStage_0 : decode cX1_isBehindStage 0 = .ok (.iload_n 1, 1) := by decide +kernel
theorem dX1_isBehindStage_1 : decode cX1_isBehindStage 1 = .ok (.ifCond .le 27, 3) := by decide +kernel
theorem dX1_isBehindStage_4 : decode cX1_isBehindStage 4 = .ok (.iload_n 1, 1) := by decide +kernel
theorem dX1_isBehindStage_5 : decode cX1_isBehindStage 5 = .ok (.aload_n 0, 1) := by decide +kernel
theorem dX1_isBehindStage_6 : decode cX1_isBehindStage 6 = .ok (.getfield 21, 3) := by decide +kernel
theorem dX1_isBehindStage_9 : decode cX1_isBehindStage 9 = .ok (.if_icmp .ge 19, 3) := by decide +kernel
theorem dX1_isBehindStage_12 : decode cX1_isBehindStage 12 = .ok (.aload_n 0, 1) := by decide +kernel
theorem dX1_isBehindStage_13 : decode cX1_isBehindStage 13 = .ok (.getfield 9, 3) := by decide +kernel
theorem dX1_isBehindStage_16 : decode cX1_isBehindStage 16 = .ok (.iload_n 1, 1) := by decide +kernel
theorem dX1_isBehindStage_17 : decode cX1_isBehindStage 17 = .ok (.iconst 1, 1) := by decide +kernel
theorem dX1_isBehindStage_18 : decode cX1_isBehindStage 18 = .ok (.isub, 1) := by decide +kernel
theorem dX1_isBehindStage_19 : decode cX1_isBehindStage 19 = .ok (.iaload, 1) := by decide +kernel
theorem dX1_isBehindStage_20 : decode cX1_isBehindStage 20 = .ok (.iconst 2, 1) := by decide +kernel
theorem dX1_isBehindStage_21 : decode cX1_isBehindStage 21 = .ok (.if_icmp .ne 7, 3) := by decide +kernel
theorem dX1_isBehindStage_24 : decode cX1_isBehindStage 24 = .ok (.iconst 1, 1) := by decide +kernel
theorem dX1_isBehindStage_25 : decode cX1_isBehindStage 25 = .ok (.goto 4, 3) := by decide +kernel
theorem dX1_isBehindStage_28 : decode cX1_isBehindStage 28 = .ok (.iconst 0, 1) := by decide +kernel
theorem dX1_isBehindStage_29 : decode cX1_isBehindStage 29 = .ok (.ireturn, 1) := by decide +kernel
theorem dX1_controlAhead_0 : decode cX1_controlAhead 0 = .ok (.aload_n 0, 1) := by decide +kernel
theorem dX1_controlAhead_1 : decode cX1_controlAhead 1 = .ok (.iload_n 1, 1) := by decide +kernel
theorem dX1_controlAhead_2 : decode cX1_controlAhead 2 = .ok (.invokevirtual 36, 3) := by decide +kernel
theorem dX1_controlAhead_5 : decode cX1_controlAhead 5 = .ok (.ifCond .eq 9, 3) := by decide +kernel
theorem dX1_controlAhead_8 : decode cX1_controlAhead 8 = .ok (.iload_n 1, 1) := by decide +kernel
theorem dX1_controlAhead_9 : decode cX1_controlAhead 9 = .ok (.iconst 2, 1) := by decide +kernel
theorem dX1_controlAhead_10 : decode cX1_controlAhead 10 = .ok (.isub, 1) := by decide +kernel
theorem dX1_controlAhead_11 : decode cX1_controlAhead 11 = .ok (.goto 6, 3) := by decide +kernel
theorem dX1_controlAhead_14 : decode cX1_controlAhead 14 = .ok (.iload_n 1, 1) := by decide +kernel
theorem dX1_controlAhead_15 : decode cX1_controlAhead 15 = .ok (.iconst 1, 1) := by decide +kernel
theorem dX1_controlAhead_16 : decode cX1_controlAhead 16 = .ok (.isub, 1) := by decide +kernel
theorem dX1_controlAhead_17 : decode cX1_controlAhead 17 = .ok (.ireturn, 1) := by decide +kernel
theorem dX1_legOf_0 : decode cX1_legOf 0 = .ok (.aload_n 0, 1) := by decide +kernel
theorem dX1_legOf_1 : decode cX1_legOf 1 = .ok (.iload_n 1, 1) := by decide +kernel
theorem dX1_legOf_2 : decode cX1_legOf 2 = .ok (.invokevirtual 25, 3) := by decide +kernel
theorem dX1_legOf_5 : decode cX1_legOf 5 = .ok (.ifCond .eq 12, 3) := by decide +kernel
theorem dX1_legOf_8 : decode cX1_legOf 8 = .ok (.aload_n 0, 1) := by decide +kernel
theorem dX1_legOf_9 : decode cX1_legOf 9 = .ok (.getfield 18, 3) := by decide +kernel
theorem dX1_legOf_12 : decode cX1_legOf 12 = .ok (.iload_n 1, 1) := by decide +kernel
theorem dX1_legOf_13 : decode cX1_legOf 13 = .ok (.iaload, 1) := by decide +kernel
theorem dX1_legOf_14 : decode cX1_legOf 14 = .ok (.goto 4, 3) := by decide +kernel
theorem dX1_legOf_17 : decode cX1_legOf 17 = .ok (.iconst 0, 1) := by decide +kernel
theorem dX1_legOf_18 : decode cX1_legOf 18 = .ok (.ireturn, 1) := by decide +kernel
theorem dX2_init_0 : decode cX2_init 0 = .ok (.aload_n 0, 1) := by decide +kernel
theorem dX2_init_1 : decode cX2_init 1 = .ok (.invokespecial 3, 3) := by decide +kernel
theorem dX2_init_4 : decode cX2_init 4 = .ok (.aload_n 0, 1) := by decide +kernel
theorem dX2_init_5 : decode cX2_init 5 = .ok (.sipush 200, 3) := by decide +kernel
theorem dX2_init_8 : decode cX2_init 8 = .ok (.newarray .int, 2) := by decide +kernel
theorem dX2_init_10 : decode cX2_init 10 = .ok (.putfield 9, 3) := by decide +kernel
theorem dX2_init_13 : decode cX2_init 13 = .ok (.aload_n 0, 1) := by decide +kernel
theorem dX2_init_14 : decode cX2_init 14 = .ok (.bipush 20, 2) := by decide +kernel
theorem dX2_init_16 : decode cX2_init 16 = .ok (.newarray .int, 2) := by decide +kernel
theorem dX2_init_18 : decode cX2_init 18 = .ok (.putfield 15, 3) := by decide +kernel
theorem dX2_init_21 : decode cX2_init 21 = .ok (.aload_n 0, 1) := by decide +kernel
theorem dX2_init_22 : decode cX2_init 22 = .ok (.getfield 15, 3) := by decide +kernel
theorem dX2_init_25 : decode cX2_init 25 = .ok (.iconst (-1), 1) := by decide +kernel
theorem dX2_init_26 : decode cX2_init 26 = .ok (.invokestatic 18, 3) := by decide +kernel
theorem dX2_init_29 : decode cX2_init 29 = .ok (.return_, 1) := by decide +kernel
theorem dX2_isOpen_0 : decode cX2_isOpen 0 = .ok (.aload_n 0, 1) := by decide +kernel
theorem dX2_isOpen_1 : decode cX2_isOpen 1 = .ok (.getfield 15, 3) := by decide +kernel
theorem dX2_isOpen_4 : decode cX2_isOpen 4 = .ok (.iload_n 1, 1) := by decide +kernel
theorem dX2_isOpen_5 : decode cX2_isOpen 5 = .ok (.iaload, 1) := by decide +kernel
theorem dX2_isOpen_6 : decode cX2_isOpen 6 = .ok (.iconst (-1), 1) := by decide +kernel
theorem dX2_isOpen_7 : decode cX2_isOpen 7 = .ok (.if_icmp .eq 7, 3) := by decide +kernel
theorem dX2_isOpen_10 : decode cX2_isOpen 10 = .ok (.iconst 1, 1) := by decide +kernel
theorem dX2_isOpen_11 : decode cX2_isOpen 11 = .ok (.goto 4, 3) := by decide +kernel
theorem dX2_isOpen_14 : decode cX2_isOpen 14 = .ok (.iconst 0, 1) := by decide +kernel
theorem dX2_isOpen_15 : decode cX2_isOpen 15 = .ok (.ireturn, 1) := by decide +kernel
theorem dX2_sizeOf_0 : decode cX2_sizeOf 0 = .ok (.aload_n 0, 1) := by decide +kernel
theorem dX2_sizeOf_1 : decode cX2_sizeOf 1 = .ok (.getfield 15, 3) := by decide +kernel
theorem dX2_sizeOf_4 : decode cX2_sizeOf 4 = .ok (.iload_n 1, 1) := by decide +kernel
theorem dX2_sizeOf_5 : decode cX2_sizeOf 5 = .ok (.iaload, 1) := by decide +kernel
theorem dX2_sizeOf_6 : decode cX2_sizeOf 6 = .ok (.ireturn, 1) := by decide +kernel
theorem dX2_begin_0 : decode cX2_begin 0 = .ok (.aload_n 0, 1) := by decide +kernel
theorem dX2_begin_1 : decode cX2_begin 1 = .ok (.getfield 15, 3) := by decide +kernel
theorem dX2_begin_4 : decode cX2_begin 4 = .ok (.iload_n 1, 1) := by decide +kernel
theorem dX2_begin_5 : decode cX2_begin 5 = .ok (.iconst 0, 1) := by decide +kernel
theorem dX2_begin_6 : decode cX2_begin 6 = .ok (.iastore, 1) := by decide +kernel
theorem dX2_begin_7 : decode cX2_begin 7 = .ok (.return_, 1) := by decide +kernel
theorem dX2_add_0 : decode cX2_add 0 = .ok (.iload_n 2, 1) := by decide +kernel
theorem dX2_add_1 : decode cX2_add 1 = .ok (.iconst (-1), 1) := by decide +kernel
theorem dX2_add_2 : decode cX2_add 2 = .ok (.if_icmp .eq 50, 3) := by decide +kernel
theorem dX2_add_5 : decode cX2_add 5 = .ok (.aload_n 0, 1) := by decide +kernel
theorem dX2_add_6 : decode cX2_add 6 = .ok (.getfield 15, 3) := by decide +kernel
theorem dX2_add_9 : decode cX2_add 9 = .ok (.iload_n 1, 1) := by decide +kernel
theorem dX2_add_10 : decode cX2_add 10 = .ok (.iaload, 1) := by decide +kernel
theorem dX2_add_11 : decode cX2_add 11 = .ok (.ifCond .lt 41, 3) := by decide +kernel
theorem dX2_add_14 : decode cX2_add 14 = .ok (.aload_n 0, 1) := by decide +kernel
theorem dX2_add_15 : decode cX2_add 15 = .ok (.getfield 15, 3) := by decide +kernel
theorem dX2_add_18 : decode cX2_add 18 = .ok (.iload_n 1, 1) := by decide +kernel
theorem dX2_add_19 : decode cX2_add 19 = .ok (.iaload, 1) := by decide +kernel
theorem dX2_add_20 : decode cX2_add 20 = .ok (.bipush 10, 2) := by decide +kernel
theorem dX2_add_22 : decode cX2_add 22 = .ok (.if_icmp .ge 30, 3) := by decide +kernel
theorem dX2_add_25 : decode cX2_add 25 = .ok (.aload_n 0, 1) := by decide +kernel
theorem dX2_add_26 : decode cX2_add 26 = .ok (.getfield 9, 3) := by decide +kernel
theorem dX2_add_29 : decode cX2_add 29 = .ok (.iload_n 1, 1) := by decide +kernel
theorem dX2_add_30 : decode cX2_add 30 = .ok (.bipush 10, 2) := by decide +kernel
theorem dX2_add_32 : decode cX2_add 32 = .ok (.imul, 1) := by decide +kernel
theorem dX2_add_33 : decode cX2_add 33 = .ok (.aload_n 0, 1) := by decide +kernel
theorem dX2_add_34 : decode cX2_add 34 = .ok (.getfield 15, 3) := by decide +kernel
theorem dX2_add_37 : decode cX2_add 37 = .ok (.iload_n 1, 1) := by decide +kernel
theorem dX2_add_38 : decode cX2_add 38 = .ok (.iaload, 1) := by decide +kernel
theorem dX2_add_39 : decode cX2_add 39 = .ok (.iadd, 1) := by decide +kernel
theorem dX2_add_40 : decode cX2_add 40 = .ok (.iload_n 2, 1) := by decide +kernel
theorem dX2_add_41 : decode cX2_add 41 = .ok (.iastore, 1) := by decide +kernel
theorem dX2_add_42 : decode cX2_add 42 = .ok (.aload_n 0, 1) := by decide +kernel
theorem dX2_add_43 : decode cX2_add 43 = .ok (.getfield 15, 3) := by decide +kernel
theorem dX2_add_46 : decode cX2_add 46 = .ok (.iload_n 1, 1) := by decide +kernel
theorem dX2_add_47 : decode cX2_add 47 = .ok (.dup2, 1) := by decide +kernel
theorem dX2_add_48 : decode cX2_add 48 = .ok (.iaload, 1) := by decide +kernel
theorem dX2_add_49 : decode cX2_add 49 = .ok (.iconst 1, 1) := by decide +kernel
theorem dX2_add_50 : decode cX2_add 50 = .ok (.iadd, 1) := by decide +kernel
theorem dX2_add_51 : decode cX2_add 51 = .ok (.iastore, 1) := by decide +kernel
theorem dX2_add_52 : decode cX2_add 52 = .ok (.return_, 1) := by decide +kernel
theorem dX2_carAt_0 : decode cX2_carAt 0 = .ok (.iload_n 2, 1) := by decide +kernel
theorem dX2_carAt_1 : decode cX2_carAt 1 = .ok (.ifCond .lt 27, 3) := by decide +kernel
theorem dX2_carAt_4 : decode cX2_carAt 4 = .ok (.iload_n 2, 1) := by decide +kernel
theorem dX2_carAt_5 : decode cX2_carAt 5 = .ok (.aload_n 0, 1) := by decide +kernel
theorem dX2_carAt_6 : decode cX2_carAt 6 = .ok (.getfield 15, 3) := by decide +kernel
theorem dX2_carAt_9 : decode cX2_carAt 9 = .ok (.iload_n 1, 1) := by decide +kernel
theorem dX2_carAt_10 : decode cX2_carAt 10 = .ok (.iaload, 1) := by decide +kernel
theorem dX2_carAt_11 : decode cX2_carAt 11 = .ok (.if_icmp .ge 17, 3) := by decide +kernel
theorem dX2_carAt_14 : decode cX2_carAt 14 = .ok (.aload_n 0, 1) := by decide +kernel
theorem dX2_carAt_15 : decode cX2_carAt 15 = .ok (.getfield 9, 3) := by decide +kernel
theorem dX2_carAt_18 : decode cX2_carAt 18 = .ok (.iload_n 1, 1) := by decide +kernel
theorem dX2_carAt_19 : decode cX2_carAt 19 = .ok (.bipush 10, 2) := by decide +kernel
theorem dX2_carAt_21 : decode cX2_carAt 21 = .ok (.imul, 1) := by decide +kernel
theorem dX2_carAt_22 : decode cX2_carAt 22 = .ok (.iload_n 2, 1) := by decide +kernel
theorem dX2_carAt_23 : decode cX2_carAt 23 = .ok (.iadd, 1) := by decide +kernel
theorem dX2_carAt_24 : decode cX2_carAt 24 = .ok (.iaload, 1) := by decide +kernel
theorem dX2_carAt_25 : decode cX2_carAt 25 = .ok (.goto 4, 3) := by decide +kernel
theorem dX2_carAt_28 : decode cX2_carAt 28 = .ok (.iconst (-1), 1) := by decide +kernel
theorem dX2_carAt_29 : decode cX2_carAt 29 = .ok (.ireturn, 1) := by decide +kernel
theorem dX2_placeOf_0 : decode cX2_placeOf 0 = .ok (.iconst 0, 1) := by decide +kernel
theorem dX2_placeOf_1 : decode cX2_placeOf 1 = .ok (.istore_n 3, 1) := by decide +kernel
theorem dX2_placeOf_2 : decode cX2_placeOf 2 = .ok (.iload_n 3, 1) := by decide +kernel
theorem dX2_placeOf_3 : decode cX2_placeOf 3 = .ok (.bipush 10, 2) := by decide +kernel
theorem dX2_placeOf_5 : decode cX2_placeOf 5 = .ok (.if_icmp .ge 21, 3) := by decide +kernel
theorem dX2_placeOf_8 : decode cX2_placeOf 8 = .ok (.aload_n 0, 1) := by decide +kernel
theorem dX2_placeOf_9 : decode cX2_placeOf 9 = .ok (.iload_n 1, 1) := by decide +kernel
theorem dX2_placeOf_10 : decode cX2_placeOf 10 = .ok (.iload_n 3, 1) := by decide +kernel
theorem dX2_placeOf_11 : decode cX2_placeOf 11 = .ok (.invokevirtual 24, 3) := by decide +kernel
theorem dX2_placeOf_14 : decode cX2_placeOf 14 = .ok (.iload_n 2, 1) := by decide +kernel
theorem dX2_placeOf_15 : decode cX2_placeOf 15 = .ok (.if_icmp .ne 5, 3) := by decide +kernel
theorem dX2_placeOf_18 : decode cX2_placeOf 18 = .ok (.iload_n 3, 1) := by decide +kernel
theorem dX2_placeOf_19 : decode cX2_placeOf 19 = .ok (.ireturn, 1) := by decide +kernel
theorem dX2_placeOf_20 : decode cX2_placeOf 20 = .ok (.iinc 3 1, 3) := by decide +kernel
theorem dX2_placeOf_23 : decode cX2_placeOf 23 = .ok (.goto (-21), 3) := by decide +kernel
theorem dX2_placeOf_26 : decode cX2_placeOf 26 = .ok (.iconst (-1), 1) := by decide +kernel
theorem dX2_placeOf_27 : decode cX2_placeOf 27 = .ok (.ireturn, 1) := by decide +kernel
theorem dX3_init_0 : decode cX3_init 0 = .ok (.aload_n 0, 1) := by decide +kernel
theorem dX3_init_1 : decode cX3_init 1 = .ok (.invokespecial 3, 3) := by decide +kernel
theorem dX3_init_4 : decode cX3_init 4 = .ok (.aload_n 0, 1) := by decide +kernel
theorem dX3_init_5 : decode cX3_init 5 = .ok (.aload_n 1, 1) := by decide +kernel
theorem dX3_init_6 : decode cX3_init 6 = .ok (.putfield 9, 3) := by decide +kernel
theorem dX3_init_9 : decode cX3_init 9 = .ok (.aload_n 0, 1) := by decide +kernel
theorem dX3_init_10 : decode cX3_init 10 = .ok (.aload_n 2, 1) := by decide +kernel
theorem dX3_init_11 : decode cX3_init 11 = .ok (.putfield 15, 3) := by decide +kernel
theorem dX3_init_14 : decode cX3_init 14 = .ok (.aload_n 0, 1) := by decide +kernel
theorem dX3_init_15 : decode cX3_init 15 = .ok (.aload_n 3, 1) := by decide +kernel
theorem dX3_init_16 : decode cX3_init 16 = .ok (.putfield 19, 3) := by decide +kernel
theorem dX3_init_19 : decode cX3_init 19 = .ok (.aload_n 0, 1) := by decide +kernel
theorem dX3_init_20 : decode cX3_init 20 = .ok (.aload 4, 2) := by decide +kernel
theorem dX3_init_22 : decode cX3_init 22 = .ok (.putfield 23, 3) := by decide +kernel
theorem dX3_init_25 : decode cX3_init 25 = .ok (.aload_n 0, 1) := by decide +kernel
theorem dX3_init_26 : decode cX3_init 26 = .ok (.aload 5, 2) := by decide +kernel
theorem dX3_init_28 : decode cX3_init 28 = .ok (.putfield 27, 3) := by decide +kernel
theorem dX3_init_31 : decode cX3_init 31 = .ok (.aload_n 0, 1) := by decide +kernel
theorem dX3_init_32 : decode cX3_init 32 = .ok (.aload 6, 2) := by decide +kernel
theorem dX3_init_34 : decode cX3_init 34 = .ok (.putfield 31, 3) := by decide +kernel
theorem dX3_init_37 : decode cX3_init 37 = .ok (.return_, 1) := by decide +kernel
theorem dX3_begin_0 : decode cX3_begin 0 = .ok (.new 35, 3) := by decide +kernel
theorem dX3_begin_3 : decode cX3_begin 3 = .ok (.dup, 1) := by decide +kernel
theorem dX3_begin_4 : decode cX3_begin 4 = .ok (.invokespecial 37, 3) := by decide +kernel
theorem dX3_begin_7 : decode cX3_begin 7 = .ok (.astore_n 0, 1) := by decide +kernel
theorem dX3_begin_8 : decode cX3_begin 8 = .ok (.new 38, 3) := by decide +kernel
theorem dX3_begin_11 : decode cX3_begin 11 = .ok (.dup, 1) := by decide +kernel
theorem dX3_begin_12 : decode cX3_begin 12 = .ok (.invokespecial 40, 3) := by decide +kernel
theorem dX3_begin_15 : decode cX3_begin 15 = .ok (.astore_n 1, 1) := by decide +kernel
theorem dX3_begin_16 : decode cX3_begin 16 = .ok (.new 41, 3) := by decide +kernel
theorem dX3_begin_19 : decode cX3_begin 19 = .ok (.dup, 1) := by decide +kernel
theorem dX3_begin_20 : decode cX3_begin 20 = .ok (.aload_n 0, 1) := by decide +kernel
theorem dX3_begin_21 : decode cX3_begin 21 = .ok (.aload_n 1, 1) := by decide +kernel
theorem dX3_begin_22 : decode cX3_begin 22 = .ok (.invokespecial 43, 3) := by decide +kernel
theorem dX3_begin_25 : decode cX3_begin 25 = .ok (.astore_n 2, 1) := by decide +kernel
theorem dX3_begin_26 : decode cX3_begin 26 = .ok (.new 46, 3) := by decide +kernel
theorem dX3_begin_29 : decode cX3_begin 29 = .ok (.dup, 1) := by decide +kernel
theorem dX3_begin_30 : decode cX3_begin 30 = .ok (.aload_n 0, 1) := by decide +kernel
theorem dX3_begin_31 : decode cX3_begin 31 = .ok (.aload_n 1, 1) := by decide +kernel
theorem dX3_begin_32 : decode cX3_begin 32 = .ok (.aload_n 2, 1) := by decide +kernel
theorem dX3_begin_33 : decode cX3_begin 33 = .ok (.invokespecial 48, 3) := by decide +kernel
theorem dX3_begin_36 : decode cX3_begin 36 = .ok (.astore_n 3, 1) := by decide +kernel
theorem dX3_begin_37 : decode cX3_begin 37 = .ok (.new 51, 3) := by decide +kernel
theorem dX3_begin_40 : decode cX3_begin 40 = .ok (.dup, 1) := by decide +kernel
theorem dX3_begin_41 : decode cX3_begin 41 = .ok (.invokespecial 53, 3) := by decide +kernel
theorem dX3_begin_44 : decode cX3_begin 44 = .ok (.astore 4, 2) := by decide +kernel
theorem dX3_begin_46 : decode cX3_begin 46 = .ok (.new 10, 3) := by decide +kernel
theorem dX3_begin_49 : decode cX3_begin 49 = .ok (.dup, 1) := by decide +kernel
theorem dX3_begin_50 : decode cX3_begin 50 = .ok (.aload_n 0, 1) := by decide +kernel
theorem dX3_begin_51 : decode cX3_begin 51 = .ok (.aload_n 1, 1) := by decide +kernel
theorem dX3_begin_52 : decode cX3_begin 52 = .ok (.aload_n 2, 1) := by decide +kernel
theorem dX3_begin_53 : decode cX3_begin 53 = .ok (.aload_n 3, 1) := by decide +kernel
theorem dX3_begin_54 : decode cX3_begin 54 = .ok (.aload 4, 2) := by decide +kernel
theorem dX3_begin_56 : decode cX3_begin 56 = .ok (.new 54, 3) := by decide +kernel
theorem dX3_begin_59 : decode cX3_begin 59 = .ok (.dup, 1) := by decide +kernel
theorem dX3_begin_60 : decode cX3_begin 60 = .ok (.aload_n 2, 1) := by decide +kernel
theorem dX3_begin_61 : decode cX3_begin 61 = .ok (.aload_n 3, 1) := by decide +kernel
theorem dX3_begin_62 : decode cX3_begin 62 = .ok (.aload 4, 2) := by decide +kernel
theorem dX3_begin_64 : decode cX3_begin 64 = .ok (.invokespecial 56, 3) := by decide +kernel
theorem dX3_begin_67 : decode cX3_begin 67 = .ok (.invokespecial 59, 3) := by decide +kernel
theorem dX3_begin_70 : decode cX3_begin 70 = .ok (.areturn, 1) := by decide +kernel
theorem dX3_isBegun_0 : decode cX3_isBegun 0 = .ok (.aload_n 0, 1) := by decide +kernel
theorem dX3_isBegun_1 : decode cX3_isBegun 1 = .ok (.getfield 15, 3) := by decide +kernel
theorem dX3_isBegun_4 : decode cX3_isBegun 4 = .ok (.iconst 0, 1) := by decide +kernel
theorem dX3_isBegun_5 : decode cX3_isBegun 5 = .ok (.invokevirtual 62, 3) := by decide +kernel
theorem dX3_isBegun_8 : decode cX3_isBegun 8 = .ok (.ireturn, 1) := by decide +kernel
theorem dX3_isNextLeg_0 : decode cX3_isNextLeg 0 = .ok (.iconst 0, 1) := by decide +kernel
theorem dX3_isNextLeg_1 : decode cX3_isNextLeg 1 = .ok (.istore_n 2, 1) := by decide +kernel
theorem dX3_isNextLeg_2 : decode cX3_isNextLeg 2 = .ok (.iload_n 2, 1) := by decide +kernel
theorem dX3_isNextLeg_3 : decode cX3_isNextLeg 3 = .ok (.iload_n 1, 1) := by decide +kernel
theorem dX3_isNextLeg_4 : decode cX3_isNextLeg 4 = .ok (.if_icmp .ge 33, 3) := by decide +kernel
theorem dX3_isNextLeg_7 : decode cX3_isNextLeg 7 = .ok (.aload_n 0, 1) := by decide +kernel
theorem dX3_isNextLeg_8 : decode cX3_isNextLeg 8 = .ok (.getfield 9, 3) := by decide +kernel
theorem dX3_isNextLeg_11 : decode cX3_isNextLeg 11 = .ok (.iload_n 2, 1) := by decide +kernel
theorem dX3_isNextLeg_12 : decode cX3_isNextLeg 12 = .ok (.invokevirtual 66, 3) := by decide +kernel
theorem dX3_isNextLeg_15 : decode cX3_isNextLeg 15 = .ok (.ifCond .ne 16, 3) := by decide +kernel
theorem dX3_isNextLeg_18 : decode cX3_isNextLeg 18 = .ok (.aload_n 0, 1) := by decide +kernel
theorem dX3_isNextLeg_19 : decode cX3_isNextLeg 19 = .ok (.getfield 15, 3) := by decide +kernel
theorem dX3_isNextLeg_22 : decode cX3_isNextLeg 22 = .ok (.iload_n 2, 1) := by decide +kernel
theorem dX3_isNextLeg_23 : decode cX3_isNextLeg 23 = .ok (.invokevirtual 62, 3) := by decide +kernel
theorem dX3_isNextLeg_26 : decode cX3_isNextLeg 26 = .ok (.ifCond .ne 5, 3) := by decide +kernel
theorem dX3_isNextLeg_29 : decode cX3_isNextLeg 29 = .ok (.iconst 0, 1) := by decide +kernel
theorem dX3_isNextLeg_30 : decode cX3_isNextLeg 30 = .ok (.ireturn, 1) := by decide +kernel
theorem dX3_isNextLeg_31 : decode cX3_isNextLeg 31 = .ok (.iinc 2 1, 3) := by decide +kernel
theorem dX3_isNextLeg_34 : decode cX3_isNextLeg 34 = .ok (.goto (-32), 3) := by decide +kernel
theorem dX3_isNextLeg_37 : decode cX3_isNextLeg 37 = .ok (.aload_n 0, 1) := by decide +kernel
theorem dX3_isNextLeg_38 : decode cX3_isNextLeg 38 = .ok (.getfield 15, 3) := by decide +kernel
theorem dX3_isNextLeg_41 : decode cX3_isNextLeg 41 = .ok (.iload_n 1, 1) := by decide +kernel
theorem dX3_isNextLeg_42 : decode cX3_isNextLeg 42 = .ok (.invokevirtual 62, 3) := by decide +kernel
theorem dX3_isNextLeg_45 : decode cX3_isNextLeg 45 = .ok (.ifCond .ne 7, 3) := by decide +kernel
theorem dX3_isNextLeg_48 : decode cX3_isNextLeg 48 = .ok (.iconst 1, 1) := by decide +kernel
theorem dX3_isNextLeg_49 : decode cX3_isNextLeg 49 = .ok (.goto 4, 3) := by decide +kernel
theorem dX3_isNextLeg_52 : decode cX3_isNextLeg 52 = .ok (.iconst 0, 1) := by decide +kernel
theorem dX3_isNextLeg_53 : decode cX3_isNextLeg 53 = .ok (.ireturn, 1) := by decide +kernel
theorem dX3_makeOrder_0 : decode cX3_makeOrder 0 = .ok (.aload_n 0, 1) := by decide +kernel
theorem dX3_makeOrder_1 : decode cX3_makeOrder 1 = .ok (.getfield 31, 3) := by decide +kernel
theorem dX3_makeOrder_4 : decode cX3_makeOrder 4 = .ok (.iload_n 1, 1) := by decide +kernel
theorem dX3_makeOrder_5 : decode cX3_makeOrder 5 = .ok (.ifCond .ne 7, 3) := by decide +kernel
theorem dX3_makeOrder_8 : decode cX3_makeOrder 8 = .ok (.iconst 1, 1) := by decide +kernel
theorem dX3_makeOrder_9 : decode cX3_makeOrder 9 = .ok (.goto 4, 3) := by decide +kernel
theorem dX3_makeOrder_12 : decode cX3_makeOrder 12 = .ok (.iconst 0, 1) := by decide +kernel
theorem dX3_makeOrder_13 : decode cX3_makeOrder 13 = .ok (.invokevirtual 70, 3) := by decide +kernel
theorem dX3_makeOrder_16 : decode cX3_makeOrder 16 = .ok (.aload_n 0, 1) := by decide +kernel
theorem dX3_makeOrder_17 : decode cX3_makeOrder 17 = .ok (.getfield 15, 3) := by decide +kernel
theorem dX3_makeOrder_20 : decode cX3_makeOrder 20 = .ok (.iload_n 1, 1) := by decide +kernel
theorem dX3_makeOrder_21 : decode cX3_makeOrder 21 = .ok (.invokevirtual 74, 3) := by decide +kernel
theorem dX3_makeOrder_24 : decode cX3_makeOrder 24 = .ok (.iload_n 2, 1) := by decide +kernel
theorem dX3_makeOrder_25 : decode cX3_makeOrder 25 = .ok (.ifCond .ne 11, 3) := by decide +kernel
theorem dX3_makeOrder_28 : decode cX3_makeOrder 28 = .ok (.aload_n 0, 1) := by decide +kernel
theorem dX3_makeOrder_29 : decode cX3_makeOrder 29 = .ok (.iload_n 1, 1) := by decide +kernel
theorem dX3_makeOrder_30 : decode cX3_makeOrder 30 = .ok (.invokevirtual 78, 3) := by decide +kernel
theorem dX3_makeOrder_33 : decode cX3_makeOrder 33 = .ok (.goto 18, 3) := by decide +kernel
theorem dX3_makeOrder_36 : decode cX3_makeOrder 36 = .ok (.aload_n 0, 1) := by decide +kernel
theorem dX3_makeOrder_37 : decode cX3_makeOrder 37 = .ok (.iload_n 1, 1) := by decide +kernel
theorem dX3_makeOrder_38 : decode cX3_makeOrder 38 = .ok (.iload_n 2, 1) := by decide +kernel
theorem dX3_makeOrder_39 : decode cX3_makeOrder 39 = .ok (.iconst 2, 1) := by decide +kernel
theorem dX3_makeOrder_40 : decode cX3_makeOrder 40 = .ok (.if_icmp .ne 7, 3) := by decide +kernel
theorem dX3_makeOrder_43 : decode cX3_makeOrder 43 = .ok (.iconst 5, 1) := by decide +kernel
theorem dX3_makeOrder_44 : decode cX3_makeOrder 44 = .ok (.goto 4, 3) := by decide +kernel
theorem dX3_makeOrder_47 : decode cX3_makeOrder 47 = .ok (.iconst 0, 1) := by decide +kernel
theorem dX3_makeOrder_48 : decode cX3_makeOrder 48 = .ok (.invokevirtual 81, 3) := by decide +kernel
theorem dX3_makeOrder_51 : decode cX3_makeOrder 51 = .ok (.iload_n 1, 1) := by decide +kernel
theorem dX3_makeOrder_52 : decode cX3_makeOrder 52 = .ok (.ifCond .le 8, 3) := by decide +kernel
theorem dX3_makeOrder_55 : decode cX3_makeOrder 55 = .ok (.aload_n 0, 1) := by decide +kernel
theorem dX3_makeOrder_56 : decode cX3_makeOrder 56 = .ok (.iload_n 1, 1) := by decide +kernel
theorem dX3_makeOrder_57 : decode cX3_makeOrder 57 = .ok (.invokevirtual 85, 3) := by decide +kernel
theorem dX3_makeOrder_60 : decode cX3_makeOrder 60 = .ok (.aload_n 0, 1) := by decide +kernel
theorem dX3_makeOrder_61 : decode cX3_makeOrder 61 = .ok (.getfield 15, 3) := by decide +kernel
theorem dX3_makeOrder_64 : decode cX3_makeOrder 64 = .ok (.iload_n 1, 1) := by decide +kernel
theorem dX3_makeOrder_65 : decode cX3_makeOrder 65 = .ok (.invokevirtual 88, 3) := by decide +kernel
theorem dX3_makeOrder_68 : decode cX3_makeOrder 68 = .ok (.ireturn, 1) := by decide +kernel
theorem dX3_addByNumbers_0 : decode cX3_addByNumbers 0 = .ok (.iconst 0, 1) := by decide +kernel
theorem dX3_addByNumbers_1 : decode cX3_addByNumbers 1 = .ok (.istore_n 2, 1) := by decide +kernel
theorem dX3_addByNumbers_2 : decode cX3_addByNumbers 2 = .ok (.iload_n 2, 1) := by decide +kernel
theorem dX3_addByNumbers_3 : decode cX3_addByNumbers 3 = .ok (.bipush 10, 2) := by decide +kernel
theorem dX3_addByNumbers_5 : decode cX3_addByNumbers 5 = .ok (.if_icmp .ge 30, 3) := by decide +kernel
theorem dX3_addByNumbers_8 : decode cX3_addByNumbers 8 = .ok (.aload_n 0, 1) := by decide +kernel
theorem dX3_addByNumbers_9 : decode cX3_addByNumbers 9 = .ok (.getfield 31, 3) := by decide +kernel
theorem dX3_addByNumbers_12 : decode cX3_addByNumbers 12 = .ok (.iload_n 2, 1) := by decide +kernel
theorem dX3_addByNumbers_13 : decode cX3_addByNumbers 13 = .ok (.invokevirtual 91, 3) := by decide +kernel
theorem dX3_addByNumbers_16 : decode cX3_addByNumbers 16 = .ok (.iconst (-1), 1) := by decide +kernel
theorem dX3_addByNumbers_17 : decode cX3_addByNumbers 17 = .ok (.if_icmp .eq 12, 3) := by decide +kernel
theorem dX3_addByNumbers_20 : decode cX3_addByNumbers 20 = .ok (.aload_n 0, 1) := by decide +kernel
theorem dX3_addByNumbers_21 : decode cX3_addByNumbers 21 = .ok (.getfield 15, 3) := by decide +kernel
theorem dX3_addByNumbers_24 : decode cX3_addByNumbers 24 = .ok (.iload_n 1, 1) := by decide +kernel
theorem dX3_addByNumbers_25 : decode cX3_addByNumbers 25 = .ok (.iload_n 2, 1) := by decide +kernel
theorem dX3_addByNumbers_26 : decode cX3_addByNumbers 26 = .ok (.invokevirtual 94, 3) := by decide +kernel
theorem dX3_addByNumbers_29 : decode cX3_addByNumbers 29 = .ok (.iinc 2 1, 3) := by decide +kernel
theorem dX3_addByNumbers_32 : decode cX3_addByNumbers 32 = .ok (.goto (-30), 3) := by decide +kernel
theorem dX3_addByNumbers_35 : decode cX3_addByNumbers 35 = .ok (.return_, 1) := by decide +kernel
theorem dX3_addByRank_0 : decode cX3_addByRank 0 = .ok (.iconst 0, 1) := by decide +kernel
theorem dX3_addByRank_1 : decode cX3_addByRank 1 = .ok (.istore_n 3, 1) := by decide +kernel
theorem dX3_addByRank_2 : decode cX3_addByRank 2 = .ok (.iload_n 3, 1) := by decide +kernel
theorem dX3_addByRank_3 : decode cX3_addByRank 3 = .ok (.bipush 10, 2) := by decide +kernel
theorem dX3_addByRank_5 : decode cX3_addByRank 5 = .ok (.if_icmp .ge 42, 3) := by decide +kernel
theorem dX3_addByRank_8 : decode cX3_addByRank 8 = .ok (.iload_n 3, 1) := by decide +kernel
theorem dX3_addByRank_9 : decode cX3_addByRank 9 = .ok (.iload_n 2, 1) := by decide +kernel
theorem dX3_addByRank_10 : decode cX3_addByRank 10 = .ok (.if_icmp .ge 11, 3) := by decide +kernel
theorem dX3_addByRank_13 : decode cX3_addByRank 13 = .ok (.iload_n 2, 1) := by decide +kernel
theorem dX3_addByRank_14 : decode cX3_addByRank 14 = .ok (.iconst 1, 1) := by decide +kernel
theorem dX3_addByRank_15 : decode cX3_addByRank 15 = .ok (.isub, 1) := by decide +kernel
theorem dX3_addByRank_16 : decode cX3_addByRank 16 = .ok (.iload_n 3, 1) := by decide +kernel
theorem dX3_addByRank_17 : decode cX3_addByRank 17 = .ok (.isub, 1) := by decide +kernel
theorem dX3_addByRank_18 : decode cX3_addByRank 18 = .ok (.goto 4, 3) := by decide +kernel
theorem dX3_addByRank_21 : decode cX3_addByRank 21 = .ok (.iload_n 3, 1) := by decide +kernel
theorem dX3_addByRank_22 : decode cX3_addByRank 22 = .ok (.istore 4, 2) := by decide +kernel
theorem dX3_addByRank_24 : decode cX3_addByRank 24 = .ok (.aload_n 0, 1) := by decide +kernel
theorem dX3_addByRank_25 : decode cX3_addByRank 25 = .ok (.getfield 15, 3) := by decide +kernel
theorem dX3_addByRank_28 : decode cX3_addByRank 28 = .ok (.iload_n 1, 1) := by decide +kernel
theorem dX3_addByRank_29 : decode cX3_addByRank 29 = .ok (.aload_n 0, 1) := by decide +kernel
theorem dX3_addByRank_30 : decode cX3_addByRank 30 = .ok (.getfield 31, 3) := by decide +kernel
theorem dX3_addByRank_33 : decode cX3_addByRank 33 = .ok (.iload 4, 2) := by decide +kernel
theorem dX3_addByRank_35 : decode cX3_addByRank 35 = .ok (.invokevirtual 97, 3) := by decide +kernel
theorem dX3_addByRank_38 : decode cX3_addByRank 38 = .ok (.invokevirtual 94, 3) := by decide +kernel
theorem dX3_addByRank_41 : decode cX3_addByRank 41 = .ok (.iinc 3 1, 3) := by decide +kernel
theorem dX3_addByRank_44 : decode cX3_addByRank 44 = .ok (.goto (-42), 3) := by decide +kernel
theorem dX3_addByRank_47 : decode cX3_addByRank 47 = .ok (.return_, 1) := by decide +kernel
theorem dX3_addReturning_0 : decode cX3_addReturning 0 = .ok (.iconst 0, 1) := by decide +kernel
theorem dX3_addReturning_1 : decode cX3_addReturning 1 = .ok (.istore_n 2, 1) := by decide +kernel
theorem dX3_addReturning_2 : decode cX3_addReturning 2 = .ok (.iload_n 2, 1) := by decide +kernel
theorem dX3_addReturning_3 : decode cX3_addReturning 3 = .ok (.bipush 10, 2) := by decide +kernel
theorem dX3_addReturning_5 : decode cX3_addReturning 5 = .ok (.if_icmp .ge 37, 3) := by decide +kernel
theorem dX3_addReturning_8 : decode cX3_addReturning 8 = .ok (.aload_n 0, 1) := by decide +kernel
theorem dX3_addReturning_9 : decode cX3_addReturning 9 = .ok (.getfield 19, 3) := by decide +kernel
theorem dX3_addReturning_12 : decode cX3_addReturning 12 = .ok (.iload_n 2, 1) := by decide +kernel
theorem dX3_addReturning_13 : decode cX3_addReturning 13 = .ok (.invokevirtual 100, 3) := by decide +kernel
theorem dX3_addReturning_16 : decode cX3_addReturning 16 = .ok (.ifCond .eq 20, 3) := by decide +kernel
theorem dX3_addReturning_19 : decode cX3_addReturning 19 = .ok (.aload_n 0, 1) := by decide +kernel
theorem dX3_addReturning_20 : decode cX3_addReturning 20 = .ok (.getfield 19, 3) := by decide +kernel
theorem dX3_addReturning_23 : decode cX3_addReturning 23 = .ok (.iload_n 2, 1) := by decide +kernel
theorem dX3_addReturning_24 : decode cX3_addReturning 24 = .ok (.invokevirtual 103, 3) := by decide +kernel
theorem dX3_addReturning_27 : decode cX3_addReturning 27 = .ok (.aload_n 0, 1) := by decide +kernel
theorem dX3_addReturning_28 : decode cX3_addReturning 28 = .ok (.getfield 15, 3) := by decide +kernel
theorem dX3_addReturning_31 : decode cX3_addReturning 31 = .ok (.iload_n 1, 1) := by decide +kernel
theorem dX3_addReturning_32 : decode cX3_addReturning 32 = .ok (.iload_n 2, 1) := by decide +kernel
theorem dX3_addReturning_33 : decode cX3_addReturning 33 = .ok (.invokevirtual 94, 3) := by decide +kernel
theorem dX3_addReturning_36 : decode cX3_addReturning 36 = .ok (.iinc 2 1, 3) := by decide +kernel
theorem dX3_addReturning_39 : decode cX3_addReturning 39 = .ok (.goto (-37), 3) := by decide +kernel
theorem dX3_addReturning_42 : decode cX3_addReturning 42 = .ok (.return_, 1) := by decide +kernel
theorem dX4_init_0 : decode cX4_init 0 = .ok (.aload_n 0, 1) := by decide +kernel
theorem dX4_init_1 : decode cX4_init 1 = .ok (.invokespecial 3, 3) := by decide +kernel
theorem dX4_init_4 : decode cX4_init 4 = .ok (.aload_n 0, 1) := by decide +kernel
theorem dX4_init_5 : decode cX4_init 5 = .ok (.bipush 10, 2) := by decide +kernel
theorem dX4_init_7 : decode cX4_init 7 = .ok (.newarray .int, 2) := by decide +kernel
theorem dX4_init_9 : decode cX4_init 9 = .ok (.putfield 9, 3) := by decide +kernel
theorem dX4_init_12 : decode cX4_init 12 = .ok (.aload_n 0, 1) := by decide +kernel
theorem dX4_init_13 : decode cX4_init 13 = .ok (.bipush 10, 2) := by decide +kernel
theorem dX4_init_15 : decode cX4_init 15 = .ok (.newarray .boolean, 2) := by decide +kernel
theorem dX4_init_17 : decode cX4_init 17 = .ok (.putfield 15, 3) := by decide +kernel
theorem dX4_init_20 : decode cX4_init 20 = .ok (.aload_n 0, 1) := by decide +kernel
theorem dX4_init_21 : decode cX4_init 21 = .ok (.bipush 10, 2) := by decide +kernel
theorem dX4_init_23 : decode cX4_init 23 = .ok (.newarray .int, 2) := by decide +kernel
theorem dX4_init_25 : decode cX4_init 25 = .ok (.putfield 19, 3) := by decide +kernel
theorem dX4_init_28 : decode cX4_init 28 = .ok (.aload_n 0, 1) := by decide +kernel
theorem dX4_init_29 : decode cX4_init 29 = .ok (.aload_n 1, 1) := by decide +kernel
theorem dX4_init_30 : decode cX4_init 30 = .ok (.putfield 22, 3) := by decide +kernel
theorem dX4_init_33 : decode cX4_init 33 = .ok (.aload_n 0, 1) := by decide +kernel
theorem dX4_init_34 : decode cX4_init 34 = .ok (.aload_n 2, 1) := by decide +kernel
theorem dX4_init_35 : decode cX4_init 35 = .ok (.putfield 26, 3) := by decide +kernel
theorem dX4_init_38 : decode cX4_init 38 = .ok (.aload_n 0, 1) := by decide +kernel
theorem dX4_init_39 : decode cX4_init 39 = .ok (.aload_n 3, 1) := by decide +kernel
theorem dX4_init_40 : decode cX4_init 40 = .ok (.putfield 30, 3) := by decide +kernel
theorem dX4_init_43 : decode cX4_init 43 = .ok (.return_, 1) := by decide +kernel
theorem dX4_penaltiesOf_0 : decode cX4_penaltiesOf 0 = .ok (.aload_n 0, 1) := by decide +kernel
theorem dX4_penaltiesOf_1 : decode cX4_penaltiesOf 1 = .ok (.getfield 22, 3) := by decide +kernel
theorem dX4_penaltiesOf_4 : decode cX4_penaltiesOf 4 = .ok (.iload_n 1, 1) := by decide +kernel
theorem dX4_penaltiesOf_5 : decode cX4_penaltiesOf 5 = .ok (.invokevirtual 34, 3) := by decide +kernel
theorem dX4_penaltiesOf_8 : decode cX4_penaltiesOf 8 = .ok (.aload_n 0, 1) := by decide +kernel
theorem dX4_penaltiesOf_9 : decode cX4_penaltiesOf 9 = .ok (.getfield 30, 3) := by decide +kernel
theorem dX4_penaltiesOf_12 : decode cX4_penaltiesOf 12 = .ok (.iload_n 1, 1) := by decide +kernel
theorem dX4_penaltiesOf_13 : decode cX4_penaltiesOf 13 = .ok (.invokevirtual 40, 3) := by decide +kernel
theorem dX4_penaltiesOf_16 : decode cX4_penaltiesOf 16 = .ok (.iadd, 1) := by decide +kernel
theorem dX4_penaltiesOf_17 : decode cX4_penaltiesOf 17 = .ok (.ireturn, 1) := by decide +kernel
theorem dX4_totalOf_0 : decode cX4_totalOf 0 = .ok (.aload_n 0, 1) := by decide +kernel
theorem dX4_totalOf_1 : decode cX4_totalOf 1 = .ok (.getfield 26, 3) := by decide +kernel
theorem dX4_totalOf_4 : decode cX4_totalOf 4 = .ok (.iload_n 1, 1) := by decide +kernel
theorem dX4_totalOf_5 : decode cX4_totalOf 5 = .ok (.invokevirtual 43, 3) := by decide +kernel
theorem dX4_totalOf_8 : decode cX4_totalOf 8 = .ok (.aload_n 0, 1) := by decide +kernel
theorem dX4_totalOf_9 : decode cX4_totalOf 9 = .ok (.iload_n 1, 1) := by decide +kernel
theorem dX4_totalOf_10 : decode cX4_totalOf 10 = .ok (.invokevirtual 48, 3) := by decide +kernel
theorem dX4_totalOf_13 : decode cX4_totalOf 13 = .ok (.iadd, 1) := by decide +kernel
theorem dX4_totalOf_14 : decode cX4_totalOf 14 = .ok (.ireturn, 1) := by decide +kernel
theorem dX4_totalFromCard_0 : decode cX4_totalFromCard 0 = .ok (.aload_n 0, 1) := by decide +kernel
theorem dX4_totalFromCard_1 : decode cX4_totalFromCard 1 = .ok (.getfield 26, 3) := by decide +kernel
theorem dX4_totalFromCard_4 : decode cX4_totalFromCard 4 = .ok (.iload_n 1, 1) := by decide +kernel
theorem dX4_totalFromCard_5 : decode cX4_totalFromCard 5 = .ok (.invokevirtual 43, 3) := by decide +kernel
theorem dX4_totalFromCard_8 : decode cX4_totalFromCard 8 = .ok (.aload_n 0, 1) := by decide +kernel
theorem dX4_totalFromCard_9 : decode cX4_totalFromCard 9 = .ok (.getfield 22, 3) := by decide +kernel
theorem dX4_totalFromCard_12 : decode cX4_totalFromCard 12 = .ok (.iload_n 1, 1) := by decide +kernel
theorem dX4_totalFromCard_13 : decode cX4_totalFromCard 13 = .ok (.invokevirtual 49, 3) := by decide +kernel
theorem dX4_totalFromCard_16 : decode cX4_totalFromCard 16 = .ok (.iadd, 1) := by decide +kernel
theorem dX4_totalFromCard_17 : decode cX4_totalFromCard 17 = .ok (.aload_n 0, 1) := by decide +kernel
theorem dX4_totalFromCard_18 : decode cX4_totalFromCard 18 = .ok (.getfield 30, 3) := by decide +kernel
theorem dX4_totalFromCard_21 : decode cX4_totalFromCard 21 = .ok (.iload_n 1, 1) := by decide +kernel
theorem dX4_totalFromCard_22 : decode cX4_totalFromCard 22 = .ok (.invokevirtual 52, 3) := by decide +kernel
theorem dX4_totalFromCard_25 : decode cX4_totalFromCard 25 = .ok (.iadd, 1) := by decide +kernel
theorem dX4_totalFromCard_26 : decode cX4_totalFromCard 26 = .ok (.ireturn, 1) := by decide +kernel
theorem dX4_reckon_0 : decode cX4_reckon 0 = .ok (.iconst 0, 1) := by decide +kernel
theorem dX4_reckon_1 : decode cX4_reckon 1 = .ok (.istore_n 2, 1) := by decide +kernel
theorem dX4_reckon_2 : decode cX4_reckon 2 = .ok (.iload_n 2, 1) := by decide +kernel
theorem dX4_reckon_3 : decode cX4_reckon 3 = .ok (.bipush 10, 2) := by decide +kernel
theorem dX4_reckon_5 : decode cX4_reckon 5 = .ok (.if_icmp .ge 57, 3) := by decide +kernel
theorem dX4_reckon_8 : decode cX4_reckon 8 = .ok (.aload_n 0, 1) := by decide +kernel
theorem dX4_reckon_9 : decode cX4_reckon 9 = .ok (.getfield 15, 3) := by decide +kernel
theorem dX4_reckon_12 : decode cX4_reckon 12 = .ok (.iload_n 2, 1) := by decide +kernel
theorem dX4_reckon_13 : decode cX4_reckon 13 = .ok (.iload_n 1, 1) := by decide +kernel
theorem dX4_reckon_14 : decode cX4_reckon 14 = .ok (.ifCond .ne 25, 3) := by decide +kernel
theorem dX4_reckon_17 : decode cX4_reckon 17 = .ok (.aload_n 0, 1) := by decide +kernel
theorem dX4_reckon_18 : decode cX4_reckon 18 = .ok (.getfield 22, 3) := by decide +kernel
theorem dX4_reckon_21 : decode cX4_reckon 21 = .ok (.iload_n 2, 1) := by decide +kernel
theorem dX4_reckon_22 : decode cX4_reckon 22 = .ok (.invokevirtual 55, 3) := by decide +kernel
theorem dX4_reckon_25 : decode cX4_reckon 25 = .ok (.ifCond .eq 18, 3) := by decide +kernel
theorem dX4_reckon_28 : decode cX4_reckon 28 = .ok (.aload_n 0, 1) := by decide +kernel
theorem dX4_reckon_29 : decode cX4_reckon 29 = .ok (.getfield 22, 3) := by decide +kernel
theorem dX4_reckon_32 : decode cX4_reckon 32 = .ok (.iload_n 2, 1) := by decide +kernel
theorem dX4_reckon_33 : decode cX4_reckon 33 = .ok (.invokevirtual 59, 3) := by decide +kernel
theorem dX4_reckon_36 : decode cX4_reckon 36 = .ok (.ifCond .eq 7, 3) := by decide +kernel
theorem dX4_reckon_39 : decode cX4_reckon 39 = .ok (.iconst 1, 1) := by decide +kernel
theorem dX4_reckon_40 : decode cX4_reckon 40 = .ok (.goto 4, 3) := by decide +kernel
theorem dX4_reckon_43 : decode cX4_reckon 43 = .ok (.iconst 0, 1) := by decide +kernel
theorem dX4_reckon_44 : decode cX4_reckon 44 = .ok (.bastore, 1) := by decide +kernel
theorem dX4_reckon_45 : decode cX4_reckon 45 = .ok (.aload_n 0, 1) := by decide +kernel
theorem dX4_reckon_46 : decode cX4_reckon 46 = .ok (.getfield 9, 3) := by decide +kernel
theorem dX4_reckon_49 : decode cX4_reckon 49 = .ok (.iload_n 2, 1) := by decide +kernel
theorem dX4_reckon_50 : decode cX4_reckon 50 = .ok (.aload_n 0, 1) := by decide +kernel
theorem dX4_reckon_51 : decode cX4_reckon 51 = .ok (.iload_n 2, 1) := by decide +kernel
theorem dX4_reckon_52 : decode cX4_reckon 52 = .ok (.invokevirtual 62, 3) := by decide +kernel
theorem dX4_reckon_55 : decode cX4_reckon 55 = .ok (.iastore, 1) := by decide +kernel
theorem dX4_reckon_56 : decode cX4_reckon 56 = .ok (.iinc 2 1, 3) := by decide +kernel
theorem dX4_reckon_59 : decode cX4_reckon 59 = .ok (.goto (-57), 3) := by decide +kernel
theorem dX4_reckon_62 : decode cX4_reckon 62 = .ok (.iconst 0, 1) := by decide +kernel
theorem dX4_reckon_63 : decode cX4_reckon 63 = .ok (.istore_n 2, 1) := by decide +kernel
theorem dX4_reckon_64 : decode cX4_reckon 64 = .ok (.iload_n 2, 1) := by decide +kernel
theorem dX4_reckon_65 : decode cX4_reckon 65 = .ok (.bipush 10, 2) := by decide +kernel
theorem dX4_reckon_67 : decode cX4_reckon 67 = .ok (.if_icmp .ge 83, 3) := by decide +kernel
theorem dX4_reckon_70 : decode cX4_reckon 70 = .ok (.aload_n 0, 1) := by decide +kernel
theorem dX4_reckon_71 : decode cX4_reckon 71 = .ok (.getfield 19, 3) := by decide +kernel
theorem dX4_reckon_74 : decode cX4_reckon 74 = .ok (.iload_n 2, 1) := by decide +kernel
theorem dX4_reckon_75 : decode cX4_reckon 75 = .ok (.aload_n 0, 1) := by decide +kernel
theorem dX4_reckon_76 : decode cX4_reckon 76 = .ok (.getfield 15, 3) := by decide +kernel
theorem dX4_reckon_79 : decode cX4_reckon 79 = .ok (.iload_n 2, 1) := by decide +kernel
theorem dX4_reckon_80 : decode cX4_reckon 80 = .ok (.baload, 1) := by decide +kernel
theorem dX4_reckon_81 : decode cX4_reckon 81 = .ok (.ifCond .eq 7, 3) := by decide +kernel
theorem dX4_reckon_84 : decode cX4_reckon 84 = .ok (.iconst 0, 1) := by decide +kernel
theorem dX4_reckon_85 : decode cX4_reckon 85 = .ok (.goto 4, 3) := by decide +kernel
theorem dX4_reckon_88 : decode cX4_reckon 88 = .ok (.iconst (-1), 1) := by decide +kernel
theorem dX4_reckon_89 : decode cX4_reckon 89 = .ok (.iastore, 1) := by decide +kernel
theorem dX4_reckon_90 : decode cX4_reckon 90 = .ok (.iconst 0, 1) := by decide +kernel
theorem dX4_reckon_91 : decode cX4_reckon 91 = .ok (.istore_n 3, 1) := by decide +kernel
theorem dX4_reckon_92 : decode cX4_reckon 92 = .ok (.iload_n 3, 1) := by decide +kernel
theorem dX4_reckon_93 : decode cX4_reckon 93 = .ok (.iload_n 2, 1) := by decide +kernel
theorem dX4_reckon_94 : decode cX4_reckon 94 = .ok (.if_icmp .ge 50, 3) := by decide +kernel
theorem dX4_reckon_97 : decode cX4_reckon 97 = .ok (.aload_n 0, 1) := by decide +kernel
theorem dX4_reckon_98 : decode cX4_reckon 98 = .ok (.getfield 15, 3) := by decide +kernel
theorem dX4_reckon_101 : decode cX4_reckon 101 = .ok (.iload_n 2, 1) := by decide +kernel
theorem dX4_reckon_102 : decode cX4_reckon 102 = .ok (.baload, 1) := by decide +kernel
theorem dX4_reckon_103 : decode cX4_reckon 103 = .ok (.ifCond .eq 35, 3) := by decide +kernel
theorem dX4_reckon_106 : decode cX4_reckon 106 = .ok (.aload_n 0, 1) := by decide +kernel
theorem dX4_reckon_107 : decode cX4_reckon 107 = .ok (.getfield 15, 3) := by decide +kernel
theorem dX4_reckon_110 : decode cX4_reckon 110 = .ok (.iload_n 3, 1) := by decide +kernel
theorem dX4_reckon_111 : decode cX4_reckon 111 = .ok (.baload, 1) := by decide +kernel
theorem dX4_reckon_112 : decode cX4_reckon 112 = .ok (.ifCond .eq 26, 3) := by decide +kernel
theorem dX4_reckon_115 : decode cX4_reckon 115 = .ok (.aload_n 0, 1) := by decide +kernel
theorem dX4_reckon_116 : decode cX4_reckon 116 = .ok (.getfield 19, 3) := by decide +kernel
theorem dX4_reckon_119 : decode cX4_reckon 119 = .ok (.aload_n 0, 1) := by decide +kernel
theorem dX4_reckon_120 : decode cX4_reckon 120 = .ok (.iload_n 3, 1) := by decide +kernel
theorem dX4_reckon_121 : decode cX4_reckon 121 = .ok (.iload_n 2, 1) := by decide +kernel
theorem dX4_reckon_122 : decode cX4_reckon 122 = .ok (.invokevirtual 65, 3) := by decide +kernel
theorem dX4_reckon_125 : decode cX4_reckon 125 = .ok (.ifCond .eq 7, 3) := by decide +kernel
theorem dX4_reckon_128 : decode cX4_reckon 128 = .ok (.iload_n 2, 1) := by decide +kernel
theorem dX4_reckon_129 : decode cX4_reckon 129 = .ok (.goto 4, 3) := by decide +kernel
theorem dX4_reckon_132 : decode cX4_reckon 132 = .ok (.iload_n 3, 1) := by decide +kernel
theorem dX4_reckon_133 : decode cX4_reckon 133 = .ok (.dup2, 1) := by decide +kernel
theorem dX4_reckon_134 : decode cX4_reckon 134 = .ok (.iaload, 1) := by decide +kernel
theorem dX4_reckon_135 : decode cX4_reckon 135 = .ok (.iconst 1, 1) := by decide +kernel
theorem dX4_reckon_136 : decode cX4_reckon 136 = .ok (.iadd, 1) := by decide +kernel
theorem dX4_reckon_137 : decode cX4_reckon 137 = .ok (.iastore, 1) := by decide +kernel
theorem dX4_reckon_138 : decode cX4_reckon 138 = .ok (.iinc 3 1, 3) := by decide +kernel
theorem dX4_reckon_141 : decode cX4_reckon 141 = .ok (.goto (-49), 3) := by decide +kernel
theorem dX4_reckon_144 : decode cX4_reckon 144 = .ok (.iinc 2 1, 3) := by decide +kernel
theorem dX4_reckon_147 : decode cX4_reckon 147 = .ok (.goto (-83), 3) := by decide +kernel
theorem dX4_reckon_150 : decode cX4_reckon 150 = .ok (.return_, 1) := by decide +kernel
theorem dX4_placeOf_0 : decode cX4_placeOf 0 = .ok (.aload_n 0, 1) := by decide +kernel
theorem dX4_placeOf_1 : decode cX4_placeOf 1 = .ok (.getfield 19, 3) := by decide +kernel
theorem dX4_placeOf_4 : decode cX4_placeOf 4 = .ok (.iload_n 1, 1) := by decide +kernel
theorem dX4_placeOf_5 : decode cX4_placeOf 5 = .ok (.iaload, 1) := by decide +kernel
theorem dX4_placeOf_6 : decode cX4_placeOf 6 = .ok (.ireturn, 1) := by decide +kernel
theorem dX4_carAt_0 : decode cX4_carAt 0 = .ok (.iconst 0, 1) := by decide +kernel
theorem dX4_carAt_1 : decode cX4_carAt 1 = .ok (.istore_n 2, 1) := by decide +kernel
theorem dX4_carAt_2 : decode cX4_carAt 2 = .ok (.iload_n 2, 1) := by decide +kernel
theorem dX4_carAt_3 : decode cX4_carAt 3 = .ok (.bipush 10, 2) := by decide +kernel
theorem dX4_carAt_5 : decode cX4_carAt 5 = .ok (.if_icmp .ge 21, 3) := by decide +kernel
theorem dX4_carAt_8 : decode cX4_carAt 8 = .ok (.aload_n 0, 1) := by decide +kernel
theorem dX4_carAt_9 : decode cX4_carAt 9 = .ok (.getfield 19, 3) := by decide +kernel
theorem dX4_carAt_12 : decode cX4_carAt 12 = .ok (.iload_n 2, 1) := by decide +kernel
theorem dX4_carAt_13 : decode cX4_carAt 13 = .ok (.iaload, 1) := by decide +kernel
theorem dX4_carAt_14 : decode cX4_carAt 14 = .ok (.iload_n 1, 1) := by decide +kernel
theorem dX4_carAt_15 : decode cX4_carAt 15 = .ok (.if_icmp .ne 5, 3) := by decide +kernel
theorem dX4_carAt_18 : decode cX4_carAt 18 = .ok (.iload_n 2, 1) := by decide +kernel
theorem dX4_carAt_19 : decode cX4_carAt 19 = .ok (.ireturn, 1) := by decide +kernel
theorem dX4_carAt_20 : decode cX4_carAt 20 = .ok (.iinc 2 1, 3) := by decide +kernel
theorem dX4_carAt_23 : decode cX4_carAt 23 = .ok (.goto (-21), 3) := by decide +kernel
theorem dX4_carAt_26 : decode cX4_carAt 26 = .ok (.iconst (-1), 1) := by decide +kernel
theorem dX4_carAt_27 : decode cX4_carAt 27 = .ok (.ireturn, 1) := by decide +kernel
theorem dX4_isAhead_0 : decode cX4_isAhead 0 = .ok (.aload_n 0, 1) := by decide +kernel
theorem dX4_isAhead_1 : decode cX4_isAhead 1 = .ok (.getfield 9, 3) := by decide +kernel
theorem dX4_isAhead_4 : decode cX4_isAhead 4 = .ok (.iload_n 1, 1) := by decide +kernel
theorem dX4_isAhead_5 : decode cX4_isAhead 5 = .ok (.iaload, 1) := by decide +kernel
theorem dX4_isAhead_6 : decode cX4_isAhead 6 = .ok (.aload_n 0, 1) := by decide +kernel
theorem dX4_isAhead_7 : decode cX4_isAhead 7 = .ok (.getfield 9, 3) := by decide +kernel
theorem dX4_isAhead_10 : decode cX4_isAhead 10 = .ok (.iload_n 2, 1) := by decide +kernel
theorem dX4_isAhead_11 : decode cX4_isAhead 11 = .ok (.iaload, 1) := by decide +kernel
theorem dX4_isAhead_12 : decode cX4_isAhead 12 = .ok (.if_icmp .eq 24, 3) := by decide +kernel
theorem dX4_isAhead_15 : decode cX4_isAhead 15 = .ok (.aload_n 0, 1) := by decide +kernel
theorem dX4_isAhead_16 : decode cX4_isAhead 16 = .ok (.getfield 9, 3) := by decide +kernel
theorem dX4_isAhead_19 : decode cX4_isAhead 19 = .ok (.iload_n 1, 1) := by decide +kernel
theorem dX4_isAhead_20 : decode cX4_isAhead 20 = .ok (.iaload, 1) := by decide +kernel
theorem dX4_isAhead_21 : decode cX4_isAhead 21 = .ok (.aload_n 0, 1) := by decide +kernel
theorem dX4_isAhead_22 : decode cX4_isAhead 22 = .ok (.getfield 9, 3) := by decide +kernel
theorem dX4_isAhead_25 : decode cX4_isAhead 25 = .ok (.iload_n 2, 1) := by decide +kernel
theorem dX4_isAhead_26 : decode cX4_isAhead 26 = .ok (.iaload, 1) := by decide +kernel
theorem dX4_isAhead_27 : decode cX4_isAhead 27 = .ok (.if_icmp .ge 7, 3) := by decide +kernel
theorem dX4_isAhead_30 : decode cX4_isAhead 30 = .ok (.iconst 1, 1) := by decide +kernel
theorem dX4_isAhead_31 : decode cX4_isAhead 31 = .ok (.goto 4, 3) := by decide +kernel
theorem dX4_isAhead_34 : decode cX4_isAhead 34 = .ok (.iconst 0, 1) := by decide +kernel
theorem dX4_isAhead_35 : decode cX4_isAhead 35 = .ok (.ireturn, 1) := by decide +kernel
theorem dX4_isAhead_36 : decode cX4_isAhead 36 = .ok (.aload_n 0, 1) := by decide +kernel
theorem dX4_isAhead_37 : decode cX4_isAhead 37 = .ok (.getfield 26, 3) := by decide +kernel
theorem dX4_isAhead_40 : decode cX4_isAhead 40 = .ok (.iload_n 1, 1) := by decide +kernel
theorem dX4_isAhead_41 : decode cX4_isAhead 41 = .ok (.iload_n 2, 1) := by decide +kernel
theorem dX4_isAhead_42 : decode cX4_isAhead 42 = .ok (.invokevirtual 69, 3) := by decide +kernel
theorem dX4_isAhead_45 : decode cX4_isAhead 45 = .ok (.istore_n 3, 1) := by decide +kernel
theorem dX4_isAhead_46 : decode cX4_isAhead 46 = .ok (.iload_n 3, 1) := by decide +kernel
theorem dX4_isAhead_47 : decode cX4_isAhead 47 = .ok (.ifCond .eq 15, 3) := by decide +kernel
theorem dX4_isAhead_50 : decode cX4_isAhead 50 = .ok (.iload_n 3, 1) := by decide +kernel
theorem dX4_isAhead_51 : decode cX4_isAhead 51 = .ok (.ifCond .ge 7, 3) := by decide +kernel
theorem dX4_isAhead_54 : decode cX4_isAhead 54 = .ok (.iconst 1, 1) := by decide +kernel
theorem dX4_isAhead_55 : decode cX4_isAhead 55 = .ok (.goto 17, 3) := by decide +kernel
theorem dX4_isAhead_58 : decode cX4_isAhead 58 = .ok (.iconst 0, 1) := by decide +kernel
theorem dX4_isAhead_59 : decode cX4_isAhead 59 = .ok (.goto 13, 3) := by decide +kernel
theorem dX4_isAhead_62 : decode cX4_isAhead 62 = .ok (.iload_n 1, 1) := by decide +kernel
theorem dX4_isAhead_63 : decode cX4_isAhead 63 = .ok (.iload_n 2, 1) := by decide +kernel
theorem dX4_isAhead_64 : decode cX4_isAhead 64 = .ok (.if_icmp .ge 7, 3) := by decide +kernel
theorem dX4_isAhead_67 : decode cX4_isAhead 67 = .ok (.iconst 1, 1) := by decide +kernel
theorem dX4_isAhead_68 : decode cX4_isAhead 68 = .ok (.goto 4, 3) := by decide +kernel
theorem dX4_isAhead_71 : decode cX4_isAhead 71 = .ok (.iconst 0, 1) := by decide +kernel
theorem dX4_isAhead_72 : decode cX4_isAhead 72 = .ok (.ireturn, 1) := by decide +kernel
theorem dX5_init_0 : decode cX5_init 0 = .ok (.aload_n 0, 1) := by decide +kernel
theorem dX5_init_1 : decode cX5_init 1 = .ok (.invokespecial 3, 3) := by decide +kernel
theorem dX5_init_4 : decode cX5_init 4 = .ok (.aload_n 0, 1) := by decide +kernel
theorem dX5_init_5 : decode cX5_init 5 = .ok (.bipush 60, 2) := by decide +kernel
theorem dX5_init_7 : decode cX5_init 7 = .ok (.newarray .int, 2) := by decide +kernel
theorem dX5_init_9 : decode cX5_init 9 = .ok (.putfield 9, 3) := by decide +kernel
theorem dX5_init_12 : decode cX5_init 12 = .ok (.return_, 1) := by decide +kernel
theorem dX5_isFull_0 : decode cX5_isFull 0 = .ok (.aload_n 0, 1) := by decide +kernel
theorem dX5_isFull_1 : decode cX5_isFull 1 = .ok (.getfield 15, 3) := by decide +kernel
theorem dX5_isFull_4 : decode cX5_isFull 4 = .ok (.bipush 6, 2) := by decide +kernel
theorem dX5_isFull_6 : decode cX5_isFull 6 = .ok (.if_icmp .lt 7, 3) := by decide +kernel
theorem dX5_isFull_9 : decode cX5_isFull 9 = .ok (.iconst 1, 1) := by decide +kernel
theorem dX5_isFull_10 : decode cX5_isFull 10 = .ok (.goto 4, 3) := by decide +kernel
theorem dX5_isFull_13 : decode cX5_isFull 13 = .ok (.iconst 0, 1) := by decide +kernel
theorem dX5_isFull_14 : decode cX5_isFull 14 = .ok (.ireturn, 1) := by decide +kernel
theorem dX5_note_0 : decode cX5_note 0 = .ok (.aload_n 0, 1) := by decide +kernel
theorem dX5_note_1 : decode cX5_note 1 = .ok (.invokevirtual 19, 3) := by decide +kernel
theorem dX5_note_4 : decode cX5_note 4 = .ok (.ifCond .eq 4, 3) := by decide +kernel
theorem dX5_note_7 : decode cX5_note 7 = .ok (.return_, 1) := by decide +kernel
theorem dX5_note_8 : decode cX5_note 8 = .ok (.iload_n 1, 1) := by decide +kernel
theorem dX5_note_9 : decode cX5_note 9 = .ok (.bipush 6, 2) := by decide +kernel
theorem dX5_note_11 : decode cX5_note 11 = .ok (.imul, 1) := by decide +kernel
theorem dX5_note_12 : decode cX5_note 12 = .ok (.istore_n 3, 1) := by decide +kernel
theorem dX5_note_13 : decode cX5_note 13 = .ok (.iload_n 2, 1) := by decide +kernel
theorem dX5_note_14 : decode cX5_note 14 = .ok (.iconst (-1), 1) := by decide +kernel
theorem dX5_note_15 : decode cX5_note 15 = .ok (.if_icmp .ne 8, 3) := by decide +kernel
theorem dX5_note_18 : decode cX5_note 18 = .ok (.bipush 10, 2) := by decide +kernel
theorem dX5_note_20 : decode cX5_note 20 = .ok (.goto 4, 3) := by decide +kernel
theorem dX5_note_23 : decode cX5_note 23 = .ok (.iload_n 2, 1) := by decide +kernel
theorem dX5_note_24 : decode cX5_note 24 = .ok (.istore 4, 2) := by decide +kernel
theorem dX5_note_26 : decode cX5_note 26 = .ok (.iload_n 3, 1) := by decide +kernel
theorem dX5_note_27 : decode cX5_note 27 = .ok (.aload_n 0, 1) := by decide +kernel
theorem dX5_note_28 : decode cX5_note 28 = .ok (.getfield 15, 3) := by decide +kernel
theorem dX5_note_31 : decode cX5_note 31 = .ok (.iadd, 1) := by decide +kernel
theorem dX5_note_32 : decode cX5_note 32 = .ok (.istore 5, 2) := by decide +kernel
theorem dX5_note_34 : decode cX5_note 34 = .ok (.iload 5, 2) := by decide +kernel
theorem dX5_note_36 : decode cX5_note 36 = .ok (.iload_n 3, 1) := by decide +kernel
theorem dX5_note_37 : decode cX5_note 37 = .ok (.if_icmp .le 39, 3) := by decide +kernel
theorem dX5_note_40 : decode cX5_note 40 = .ok (.aload_n 0, 1) := by decide +kernel
theorem dX5_note_41 : decode cX5_note 41 = .ok (.getfield 9, 3) := by decide +kernel
theorem dX5_note_44 : decode cX5_note 44 = .ok (.iload 5, 2) := by decide +kernel
theorem dX5_note_46 : decode cX5_note 46 = .ok (.iconst 1, 1) := by decide +kernel
theorem dX5_note_47 : decode cX5_note 47 = .ok (.isub, 1) := by decide +kernel
theorem dX5_note_48 : decode cX5_note 48 = .ok (.iaload, 1) := by decide +kernel
theorem dX5_note_49 : decode cX5_note 49 = .ok (.iload 4, 2) := by decide +kernel
theorem dX5_note_51 : decode cX5_note 51 = .ok (.if_icmp .le 25, 3) := by decide +kernel
theorem dX5_note_54 : decode cX5_note 54 = .ok (.aload_n 0, 1) := by decide +kernel
theorem dX5_note_55 : decode cX5_note 55 = .ok (.getfield 9, 3) := by decide +kernel
theorem dX5_note_58 : decode cX5_note 58 = .ok (.iload 5, 2) := by decide +kernel
theorem dX5_note_60 : decode cX5_note 60 = .ok (.aload_n 0, 1) := by decide +kernel
theorem dX5_note_61 : decode cX5_note 61 = .ok (.getfield 9, 3) := by decide +kernel
theorem dX5_note_64 : decode cX5_note 64 = .ok (.iload 5, 2) := by decide +kernel
theorem dX5_note_66 : decode cX5_note 66 = .ok (.iconst 1, 1) := by decide +kernel
theorem dX5_note_67 : decode cX5_note 67 = .ok (.isub, 1) := by decide +kernel
theorem dX5_note_68 : decode cX5_note 68 = .ok (.iaload, 1) := by decide +kernel
theorem dX5_note_69 : decode cX5_note 69 = .ok (.iastore, 1) := by decide +kernel
theorem dX5_note_70 : decode cX5_note 70 = .ok (.iinc 5 (-1), 3) := by decide +kernel
theorem dX5_note_73 : decode cX5_note 73 = .ok (.goto (-39), 3) := by decide +kernel
theorem dX5_note_76 : decode cX5_note 76 = .ok (.aload_n 0, 1) := by decide +kernel
theorem dX5_note_77 : decode cX5_note 77 = .ok (.getfield 9, 3) := by decide +kernel
theorem dX5_note_80 : decode cX5_note 80 = .ok (.iload 5, 2) := by decide +kernel
theorem dX5_note_82 : decode cX5_note 82 = .ok (.iload 4, 2) := by decide +kernel
theorem dX5_note_84 : decode cX5_note 84 = .ok (.iastore, 1) := by decide +kernel
theorem dX5_note_85 : decode cX5_note 85 = .ok (.return_, 1) := by decide +kernel
theorem dX5_end_0 : decode cX5_end 0 = .ok (.aload_n 0, 1) := by decide +kernel
theorem dX5_end_1 : decode cX5_end 1 = .ok (.dup, 1) := by decide +kernel
theorem dX5_end_2 : decode cX5_end 2 = .ok (.getfield 15, 3) := by decide +kernel
theorem dX5_end_5 : decode cX5_end 5 = .ok (.iconst 1, 1) := by decide +kernel
theorem dX5_end_6 : decode cX5_end 6 = .ok (.iadd, 1) := by decide +kernel
theorem dX5_end_7 : decode cX5_end 7 = .ok (.putfield 15, 3) := by decide +kernel
theorem dX5_end_10 : decode cX5_end 10 = .ok (.aload_n 0, 1) := by decide +kernel
theorem dX5_end_11 : decode cX5_end 11 = .ok (.getfield 15, 3) := by decide +kernel
theorem dX5_end_14 : decode cX5_end 14 = .ok (.ireturn, 1) := by decide +kernel
theorem dX5_sumOf_0 : decode cX5_sumOf 0 = .ok (.aload_n 0, 1) := by decide +kernel
theorem dX5_sumOf_1 : decode cX5_sumOf 1 = .ok (.getfield 15, 3) := by decide +kernel
theorem dX5_sumOf_4 : decode cX5_sumOf 4 = .ok (.iconst 3, 1) := by decide +kernel
theorem dX5_sumOf_5 : decode cX5_sumOf 5 = .ok (.if_icmp .lt 12, 3) := by decide +kernel
theorem dX5_sumOf_8 : decode cX5_sumOf 8 = .ok (.aload_n 0, 1) := by decide +kernel
theorem dX5_sumOf_9 : decode cX5_sumOf 9 = .ok (.getfield 15, 3) := by decide +kernel
theorem dX5_sumOf_12 : decode cX5_sumOf 12 = .ok (.iconst 1, 1) := by decide +kernel
theorem dX5_sumOf_13 : decode cX5_sumOf 13 = .ok (.isub, 1) := by decide +kernel
theorem dX5_sumOf_14 : decode cX5_sumOf 14 = .ok (.goto 7, 3) := by decide +kernel
theorem dX5_sumOf_17 : decode cX5_sumOf 17 = .ok (.aload_n 0, 1) := by decide +kernel
theorem dX5_sumOf_18 : decode cX5_sumOf 18 = .ok (.getfield 15, 3) := by decide +kernel
theorem dX5_sumOf_21 : decode cX5_sumOf 21 = .ok (.istore_n 2, 1) := by decide +kernel
theorem dX5_sumOf_22 : decode cX5_sumOf 22 = .ok (.iconst 0, 1) := by decide +kernel
theorem dX5_sumOf_23 : decode cX5_sumOf 23 = .ok (.istore_n 3, 1) := by decide +kernel
theorem dX5_sumOf_24 : decode cX5_sumOf 24 = .ok (.iconst 0, 1) := by decide +kernel
theorem dX5_sumOf_25 : decode cX5_sumOf 25 = .ok (.istore 4, 2) := by decide +kernel
theorem dX5_sumOf_27 : decode cX5_sumOf 27 = .ok (.iload 4, 2) := by decide +kernel
theorem dX5_sumOf_29 : decode cX5_sumOf 29 = .ok (.iload_n 2, 1) := by decide +kernel
theorem dX5_sumOf_30 : decode cX5_sumOf 30 = .ok (.if_icmp .ge 50, 3) := by decide +kernel
theorem dX5_sumOf_33 : decode cX5_sumOf 33 = .ok (.aload_n 0, 1) := by decide +kernel
theorem dX5_sumOf_34 : decode cX5_sumOf 34 = .ok (.getfield 9, 3) := by decide +kernel
theorem dX5_sumOf_37 : decode cX5_sumOf 37 = .ok (.iload_n 1, 1) := by decide +kernel
theorem dX5_sumOf_38 : decode cX5_sumOf 38 = .ok (.bipush 6, 2) := by decide +kernel
theorem dX5_sumOf_40 : decode cX5_sumOf 40 = .ok (.imul, 1) := by decide +kernel
theorem dX5_sumOf_41 : decode cX5_sumOf 41 = .ok (.iload 4, 2) := by decide +kernel
theorem dX5_sumOf_43 : decode cX5_sumOf 43 = .ok (.iadd, 1) := by decide +kernel
theorem dX5_sumOf_44 : decode cX5_sumOf 44 = .ok (.iaload, 1) := by decide +kernel
theorem dX5_sumOf_45 : decode cX5_sumOf 45 = .ok (.istore 5, 2) := by decide +kernel
theorem dX5_sumOf_47 : decode cX5_sumOf 47 = .ok (.iload_n 3, 1) := by decide +kernel
theorem dX5_sumOf_48 : decode cX5_sumOf 48 = .ok (.iload 5, 2) := by decide +kernel
theorem dX5_sumOf_50 : decode cX5_sumOf 50 = .ok (.ifCond .lt 21, 3) := by decide +kernel
theorem dX5_sumOf_53 : decode cX5_sumOf 53 = .ok (.iload 5, 2) := by decide +kernel
theorem dX5_sumOf_55 : decode cX5_sumOf 55 = .ok (.getstatic 23, 3) := by decide +kernel
theorem dX5_sumOf_58 : decode cX5_sumOf 58 = .ok (.arraylength, 1) := by decide +kernel
theorem dX5_sumOf_59 : decode cX5_sumOf 59 = .ok (.if_icmp .ge 12, 3) := by decide +kernel
theorem dX5_sumOf_62 : decode cX5_sumOf 62 = .ok (.getstatic 23, 3) := by decide +kernel
theorem dX5_sumOf_65 : decode cX5_sumOf 65 = .ok (.iload 5, 2) := by decide +kernel
theorem dX5_sumOf_67 : decode cX5_sumOf 67 = .ok (.iaload, 1) := by decide +kernel
theorem dX5_sumOf_68 : decode cX5_sumOf 68 = .ok (.goto 4, 3) := by decide +kernel
theorem dX5_sumOf_71 : decode cX5_sumOf 71 = .ok (.iconst 0, 1) := by decide +kernel
theorem dX5_sumOf_72 : decode cX5_sumOf 72 = .ok (.iadd, 1) := by decide +kernel
theorem dX5_sumOf_73 : decode cX5_sumOf 73 = .ok (.istore_n 3, 1) := by decide +kernel
theorem dX5_sumOf_74 : decode cX5_sumOf 74 = .ok (.iinc 4 1, 3) := by decide +kernel
theorem dX5_sumOf_77 : decode cX5_sumOf 77 = .ok (.goto (-50), 3) := by decide +kernel
theorem dX5_sumOf_80 : decode cX5_sumOf 80 = .ok (.iload_n 3, 1) := by decide +kernel
theorem dX5_sumOf_81 : decode cX5_sumOf 81 = .ok (.ireturn, 1) := by decide +kernel
theorem dX5_carAt_0 : decode cX5_carAt 0 = .ok (.iconst 0, 1) := by decide +kernel
theorem dX5_carAt_1 : decode cX5_carAt 1 = .ok (.istore_n 2, 1) := by decide +kernel
theorem dX5_carAt_2 : decode cX5_carAt 2 = .ok (.iload_n 2, 1) := by decide +kernel
theorem dX5_carAt_3 : decode cX5_carAt 3 = .ok (.bipush 10, 2) := by decide +kernel
theorem dX5_carAt_5 : decode cX5_carAt 5 = .ok (.if_icmp .ge 20, 3) := by decide +kernel
theorem dX5_carAt_8 : decode cX5_carAt 8 = .ok (.aload_n 0, 1) := by decide +kernel
theorem dX5_carAt_9 : decode cX5_carAt 9 = .ok (.iload_n 2, 1) := by decide +kernel
theorem dX5_carAt_10 : decode cX5_carAt 10 = .ok (.invokevirtual 26, 3) := by decide +kernel
theorem dX5_carAt_13 : decode cX5_carAt 13 = .ok (.iload_n 1, 1) := by decide +kernel
theorem dX5_carAt_14 : decode cX5_carAt 14 = .ok (.if_icmp .ne 5, 3) := by decide +kernel
theorem dX5_carAt_17 : decode cX5_carAt 17 = .ok (.iload_n 2, 1) := by decide +kernel
theorem dX5_carAt_18 : decode cX5_carAt 18 = .ok (.ireturn, 1) := by decide +kernel
theorem dX5_carAt_19 : decode cX5_carAt 19 = .ok (.iinc 2 1, 3) := by decide +kernel
theorem dX5_carAt_22 : decode cX5_carAt 22 = .ok (.goto (-20), 3) := by decide +kernel
theorem dX5_carAt_25 : decode cX5_carAt 25 = .ok (.iconst (-1), 1) := by decide +kernel
theorem dX5_carAt_26 : decode cX5_carAt 26 = .ok (.ireturn, 1) := by decide +kernel
theorem dX5_countAhead_0 : decode cX5_countAhead 0 = .ok (.iconst 0, 1) := by decide +kernel
theorem dX5_countAhead_1 : decode cX5_countAhead 1 = .ok (.istore_n 2, 1) := by decide +kernel
theorem dX5_countAhead_2 : decode cX5_countAhead 2 = .ok (.iconst 0, 1) := by decide +kernel
theorem dX5_countAhead_3 : decode cX5_countAhead 3 = .ok (.istore_n 3, 1) := by decide +kernel
theorem dX5_countAhead_4 : decode cX5_countAhead 4 = .ok (.iload_n 3, 1) := by decide +kernel
theorem dX5_countAhead_5 : decode cX5_countAhead 5 = .ok (.bipush 10, 2) := by decide +kernel
theorem dX5_countAhead_7 : decode cX5_countAhead 7 = .ok (.if_icmp .ge 21, 3) := by decide +kernel
theorem dX5_countAhead_10 : decode cX5_countAhead 10 = .ok (.aload_n 0, 1) := by decide +kernel
theorem dX5_countAhead_11 : decode cX5_countAhead 11 = .ok (.iload_n 3, 1) := by decide +kernel
theorem dX5_countAhead_12 : decode cX5_countAhead 12 = .ok (.iload_n 1, 1) := by decide +kernel
theorem dX5_countAhead_13 : decode cX5_countAhead 13 = .ok (.invokevirtual 30, 3) := by decide +kernel
theorem dX5_countAhead_16 : decode cX5_countAhead 16 = .ok (.ifCond .eq 6, 3) := by decide +kernel
theorem dX5_countAhead_19 : decode cX5_countAhead 19 = .ok (.iinc 2 1, 3) := by decide +kernel
theorem dX5_countAhead_22 : decode cX5_countAhead 22 = .ok (.iinc 3 1, 3) := by decide +kernel
theorem dX5_countAhead_25 : decode cX5_countAhead 25 = .ok (.goto (-21), 3) := by decide +kernel
theorem dX5_countAhead_28 : decode cX5_countAhead 28 = .ok (.iload_n 2, 1) := by decide +kernel
theorem dX5_countAhead_29 : decode cX5_countAhead 29 = .ok (.ireturn, 1) := by decide +kernel
theorem dX5_isAhead_0 : decode cX5_isAhead 0 = .ok (.aload_n 0, 1) := by decide +kernel
theorem dX5_isAhead_1 : decode cX5_isAhead 1 = .ok (.iload_n 1, 1) := by decide +kernel
theorem dX5_isAhead_2 : decode cX5_isAhead 2 = .ok (.invokevirtual 34, 3) := by decide +kernel
theorem dX5_isAhead_5 : decode cX5_isAhead 5 = .ok (.istore_n 3, 1) := by decide +kernel
theorem dX5_isAhead_6 : decode cX5_isAhead 6 = .ok (.aload_n 0, 1) := by decide +kernel
theorem dX5_isAhead_7 : decode cX5_isAhead 7 = .ok (.iload_n 2, 1) := by decide +kernel
theorem dX5_isAhead_8 : decode cX5_isAhead 8 = .ok (.invokevirtual 34, 3) := by decide +kernel
theorem dX5_isAhead_11 : decode cX5_isAhead 11 = .ok (.istore 4, 2) := by decide +kernel
theorem dX5_isAhead_13 : decode cX5_isAhead 13 = .ok (.iload_n 3, 1) := by decide +kernel
theorem dX5_isAhead_14 : decode cX5_isAhead 14 = .ok (.iload 4, 2) := by decide +kernel
theorem dX5_isAhead_16 : decode cX5_isAhead 16 = .ok (.if_icmp .eq 15, 3) := by decide +kernel
theorem dX5_isAhead_19 : decode cX5_isAhead 19 = .ok (.iload_n 3, 1) := by decide +kernel
theorem dX5_isAhead_20 : decode cX5_isAhead 20 = .ok (.iload 4, 2) := by decide +kernel
theorem dX5_isAhead_22 : decode cX5_isAhead 22 = .ok (.if_icmp .le 7, 3) := by decide +kernel
theorem dX5_isAhead_25 : decode cX5_isAhead 25 = .ok (.iconst 1, 1) := by decide +kernel
theorem dX5_isAhead_26 : decode cX5_isAhead 26 = .ok (.goto 4, 3) := by decide +kernel
theorem dX5_isAhead_29 : decode cX5_isAhead 29 = .ok (.iconst 0, 1) := by decide +kernel
theorem dX5_isAhead_30 : decode cX5_isAhead 30 = .ok (.ireturn, 1) := by decide +kernel
theorem dX5_isAhead_31 : decode cX5_isAhead 31 = .ok (.iconst 0, 1) := by decide +kernel
theorem dX5_isAhead_32 : decode cX5_isAhead 32 = .ok (.istore 5, 2) := by decide +kernel
theorem dX5_isAhead_34 : decode cX5_isAhead 34 = .ok (.iload 5, 2) := by decide +kernel
theorem dX5_isAhead_36 : decode cX5_isAhead 36 = .ok (.aload_n 0, 1) := by decide +kernel
theorem dX5_isAhead_37 : decode cX5_isAhead 37 = .ok (.getfield 15, 3) := by decide +kernel
theorem dX5_isAhead_40 : decode cX5_isAhead 40 = .ok (.if_icmp .ge 57, 3) := by decide +kernel
theorem dX5_isAhead_43 : decode cX5_isAhead 43 = .ok (.aload_n 0, 1) := by decide +kernel
theorem dX5_isAhead_44 : decode cX5_isAhead 44 = .ok (.getfield 9, 3) := by decide +kernel
theorem dX5_isAhead_47 : decode cX5_isAhead 47 = .ok (.iload_n 1, 1) := by decide +kernel
theorem dX5_isAhead_48 : decode cX5_isAhead 48 = .ok (.bipush 6, 2) := by decide +kernel
theorem dX5_isAhead_50 : decode cX5_isAhead 50 = .ok (.imul, 1) := by decide +kernel
theorem dX5_isAhead_51 : decode cX5_isAhead 51 = .ok (.iload 5, 2) := by decide +kernel
theorem dX5_isAhead_53 : decode cX5_isAhead 53 = .ok (.iadd, 1) := by decide +kernel
theorem dX5_isAhead_54 : decode cX5_isAhead 54 = .ok (.iaload, 1) := by decide +kernel
theorem dX5_isAhead_55 : decode cX5_isAhead 55 = .ok (.istore 6, 2) := by decide +kernel
theorem dX5_isAhead_57 : decode cX5_isAhead 57 = .ok (.aload_n 0, 1) := by decide +kernel
theorem dX5_isAhead_58 : decode cX5_isAhead 58 = .ok (.getfield 9, 3) := by decide +kernel
theorem dX5_isAhead_61 : decode cX5_isAhead 61 = .ok (.iload_n 2, 1) := by decide +kernel
theorem dX5_isAhead_62 : decode cX5_isAhead 62 = .ok (.bipush 6, 2) := by decide +kernel
theorem dX5_isAhead_64 : decode cX5_isAhead 64 = .ok (.imul, 1) := by decide +kernel
theorem dX5_isAhead_65 : decode cX5_isAhead 65 = .ok (.iload 5, 2) := by decide +kernel
theorem dX5_isAhead_67 : decode cX5_isAhead 67 = .ok (.iadd, 1) := by decide +kernel
theorem dX5_isAhead_68 : decode cX5_isAhead 68 = .ok (.iaload, 1) := by decide +kernel
theorem dX5_isAhead_69 : decode cX5_isAhead 69 = .ok (.istore 7, 2) := by decide +kernel
theorem dX5_isAhead_71 : decode cX5_isAhead 71 = .ok (.iload 6, 2) := by decide +kernel
theorem dX5_isAhead_73 : decode cX5_isAhead 73 = .ok (.iload 7, 2) := by decide +kernel
theorem dX5_isAhead_75 : decode cX5_isAhead 75 = .ok (.if_icmp .eq 16, 3) := by decide +kernel
theorem dX5_isAhead_78 : decode cX5_isAhead 78 = .ok (.iload 6, 2) := by decide +kernel
theorem dX5_isAhead_80 : decode cX5_isAhead 80 = .ok (.iload 7, 2) := by decide +kernel
theorem dX5_isAhead_82 : decode cX5_isAhead 82 = .ok (.if_icmp .ge 7, 3) := by decide +kernel
theorem dX5_isAhead_85 : decode cX5_isAhead 85 = .ok (.iconst 1, 1) := by decide +kernel
theorem dX5_isAhead_86 : decode cX5_isAhead 86 = .ok (.goto 4, 3) := by decide +kernel
theorem dX5_isAhead_89 : decode cX5_isAhead 89 = .ok (.iconst 0, 1) := by decide +kernel
theorem dX5_isAhead_90 : decode cX5_isAhead 90 = .ok (.ireturn, 1) := by decide +kernel
theorem dX5_isAhead_91 : decode cX5_isAhead 91 = .ok (.iinc 5 1, 3) := by decide +kernel
theorem dX5_isAhead_94 : decode cX5_isAhead 94 = .ok (.goto (-60), 3) := by decide +kernel
theorem dX5_isAhead_97 : decode cX5_isAhead 97 = .ok (.iload_n 1, 1) := by decide +kernel
theorem dX5_isAhead_98 : decode cX5_isAhead 98 = .ok (.iload_n 2, 1) := by decide +kernel
theorem dX5_isAhead_99 : decode cX5_isAhead 99 = .ok (.if_icmp .ge 7, 3) := by decide +kernel
theorem dX5_isAhead_102 : decode cX5_isAhead 102 = .ok (.iconst 1, 1) := by decide +kernel
theorem dX5_isAhead_103 : decode cX5_isAhead 103 = .ok (.goto 4, 3) := by decide +kernel
theorem dX5_isAhead_106 : decode cX5_isAhead 106 = .ok (.iconst 0, 1) := by decide +kernel
theorem dX5_isAhead_107 : decode cX5_isAhead 107 = .ok (.ireturn, 1) := by decide +kernel
theorem dX6_init_0 : decode cX6_init 0 = .ok (.aload_n 0, 1) := by decide +kernel
theorem dX6_init_1 : decode cX6_init 1 = .ok (.invokespecial 3, 3) := by decide +kernel
theorem dX6_init_4 : decode cX6_init 4 = .ok (.aload_n 0, 1) := by decide +kernel
theorem dX6_init_5 : decode cX6_init 5 = .ok (.sipush 200, 3) := by decide +kernel
theorem dX6_init_8 : decode cX6_init 8 = .ok (.newarray .int, 2) := by decide +kernel
theorem dX6_init_10 : decode cX6_init 10 = .ok (.putfield 9, 3) := by decide +kernel
theorem dX6_init_13 : decode cX6_init 13 = .ok (.aload_n 0, 1) := by decide +kernel
theorem dX6_init_14 : decode cX6_init 14 = .ok (.sipush 200, 3) := by decide +kernel
theorem dX6_init_17 : decode cX6_init 17 = .ok (.newarray .int, 2) := by decide +kernel
theorem dX6_init_19 : decode cX6_init 19 = .ok (.putfield 15, 3) := by decide +kernel
theorem dX6_init_22 : decode cX6_init 22 = .ok (.aload_n 0, 1) := by decide +kernel
theorem dX6_init_23 : decode cX6_init 23 = .ok (.sipush 200, 3) := by decide +kernel
theorem dX6_init_26 : decode cX6_init 26 = .ok (.newarray .int, 2) := by decide +kernel
theorem dX6_init_28 : decode cX6_init 28 = .ok (.putfield 18, 3) := by decide +kernel
theorem dX6_init_31 : decode cX6_init 31 = .ok (.aload_n 0, 1) := by decide +kernel
theorem dX6_init_32 : decode cX6_init 32 = .ok (.sipush 200, 3) := by decide +kernel
theorem dX6_init_35 : decode cX6_init 35 = .ok (.newarray .boolean, 2) := by decide +kernel
theorem dX6_init_37 : decode cX6_init 37 = .ok (.putfield 21, 3) := by decide +kernel
theorem dX6_init_40 : decode cX6_init 40 = .ok (.aload_n 0, 1) := by decide +kernel
theorem dX6_init_41 : decode cX6_init 41 = .ok (.sipush 200, 3) := by decide +kernel
theorem dX6_init_44 : decode cX6_init 44 = .ok (.newarray .int, 2) := by decide +kernel
theorem dX6_init_46 : decode cX6_init 46 = .ok (.putfield 25, 3) := by decide +kernel
theorem dX6_init_49 : decode cX6_init 49 = .ok (.aload_n 0, 1) := by decide +kernel
theorem dX6_init_50 : decode cX6_init 50 = .ok (.sipush 200, 3) := by decide +kernel
theorem dX6_init_53 : decode cX6_init 53 = .ok (.newarray .int, 2) := by decide +kernel
theorem dX6_init_55 : decode cX6_init 55 = .ok (.putfield 28, 3) := by decide +kernel
theorem dX6_init_58 : decode cX6_init 58 = .ok (.aload_n 0, 1) := by decide +kernel
theorem dX6_init_59 : decode cX6_init 59 = .ok (.bipush 20, 2) := by decide +kernel
theorem dX6_init_61 : decode cX6_init 61 = .ok (.newarray .int, 2) := by decide +kernel
theorem dX6_init_63 : decode cX6_init 63 = .ok (.putfield 31, 3) := by decide +kernel
theorem dX6_init_66 : decode cX6_init 66 = .ok (.aload_n 0, 1) := by decide +kernel
theorem dX6_init_67 : decode cX6_init 67 = .ok (.aload_n 1, 1) := by decide +kernel
theorem dX6_init_68 : decode cX6_init 68 = .ok (.putfield 34, 3) := by decide +kernel
theorem dX6_init_71 : decode cX6_init 71 = .ok (.aload_n 0, 1) := by decide +kernel
theorem dX6_init_72 : decode cX6_init 72 = .ok (.aload_n 2, 1) := by decide +kernel
theorem dX6_init_73 : decode cX6_init 73 = .ok (.putfield 38, 3) := by decide +kernel
theorem dX6_init_76 : decode cX6_init 76 = .ok (.aload_n 0, 1) := by decide +kernel
theorem dX6_init_77 : decode cX6_init 77 = .ok (.aload_n 3, 1) := by decide +kernel
theorem dX6_init_78 : decode cX6_init 78 = .ok (.putfield 42, 3) := by decide +kernel
theorem dX6_init_81 : decode cX6_init 81 = .ok (.aload_n 0, 1) := by decide +kernel
theorem dX6_init_82 : decode cX6_init 82 = .ok (.getfield 9, 3) := by decide +kernel
theorem dX6_init_85 : decode cX6_init 85 = .ok (.iconst (-1), 1) := by decide +kernel
theorem dX6_init_86 : decode cX6_init 86 = .ok (.invokestatic 46, 3) := by decide +kernel
theorem dX6_init_89 : decode cX6_init 89 = .ok (.aload_n 0, 1) := by decide +kernel
theorem dX6_init_90 : decode cX6_init 90 = .ok (.getfield 15, 3) := by decide +kernel
theorem dX6_init_93 : decode cX6_init 93 = .ok (.iconst (-1), 1) := by decide +kernel
theorem dX6_init_94 : decode cX6_init 94 = .ok (.invokestatic 46, 3) := by decide +kernel
theorem dX6_init_97 : decode cX6_init 97 = .ok (.aload_n 0, 1) := by decide +kernel
theorem dX6_init_98 : decode cX6_init 98 = .ok (.getfield 18, 3) := by decide +kernel
theorem dX6_init_101 : decode cX6_init 101 = .ok (.iconst (-1), 1) := by decide +kernel
theorem dX6_init_102 : decode cX6_init 102 = .ok (.invokestatic 46, 3) := by decide +kernel
theorem dX6_init_105 : decode cX6_init 105 = .ok (.aload_n 0, 1) := by decide +kernel
theorem dX6_init_106 : decode cX6_init 106 = .ok (.getfield 25, 3) := by decide +kernel
theorem dX6_init_109 : decode cX6_init 109 = .ok (.iconst (-1), 1) := by decide +kernel
theorem dX6_init_110 : decode cX6_init 110 = .ok (.invokestatic 46, 3) := by decide +kernel
theorem dX6_init_113 : decode cX6_init 113 = .ok (.aload_n 0, 1) := by decide +kernel
theorem dX6_init_114 : decode cX6_init 114 = .ok (.getfield 28, 3) := by decide +kernel
theorem dX6_init_117 : decode cX6_init 117 = .ok (.iconst (-1), 1) := by decide +kernel
theorem dX6_init_118 : decode cX6_init 118 = .ok (.invokestatic 46, 3) := by decide +kernel
theorem dX6_init_121 : decode cX6_init 121 = .ok (.aload_n 0, 1) := by decide +kernel
theorem dX6_init_122 : decode cX6_init 122 = .ok (.getfield 31, 3) := by decide +kernel
theorem dX6_init_125 : decode cX6_init 125 = .ok (.iconst (-1), 1) := by decide +kernel
theorem dX6_init_126 : decode cX6_init 126 = .ok (.invokestatic 46, 3) := by decide +kernel
theorem dX6_init_129 : decode cX6_init 129 = .ok (.return_, 1) := by decide +kernel
theorem dX6_tell_0 : decode cX6_tell 0 = .ok (.iload_n 3, 1) := by decide +kernel
theorem dX6_tell_1 : decode cX6_tell 1 = .ok (.ifCond .eq 19, 3) := by decide +kernel
theorem dX6_tell_4 : decode cX6_tell 4 = .ok (.aload_n 0, 1) := by decide +kernel
theorem dX6_tell_5 : decode cX6_tell 5 = .ok (.getfield 9, 3) := by decide +kernel
theorem dX6_tell_8 : decode cX6_tell 8 = .ok (.iload_n 2, 1) := by decide +kernel
theorem dX6_tell_9 : decode cX6_tell 9 = .ok (.bipush 10, 2) := by decide +kernel
theorem dX6_tell_11 : decode cX6_tell 11 = .ok (.imul, 1) := by decide +kernel
theorem dX6_tell_12 : decode cX6_tell 12 = .ok (.iload_n 1, 1) := by decide +kernel
theorem dX6_tell_13 : decode cX6_tell 13 = .ok (.iadd, 1) := by decide +kernel
theorem dX6_tell_14 : decode cX6_tell 14 = .ok (.iload 4, 2) := by decide +kernel
theorem dX6_tell_16 : decode cX6_tell 16 = .ok (.iastore, 1) := by decide +kernel
theorem dX6_tell_17 : decode cX6_tell 17 = .ok (.goto 16, 3) := by decide +kernel
theorem dX6_tell_20 : decode cX6_tell 20 = .ok (.aload_n 0, 1) := by decide +kernel
theorem dX6_tell_21 : decode cX6_tell 21 = .ok (.getfield 15, 3) := by decide +kernel
theorem dX6_tell_24 : decode cX6_tell 24 = .ok (.iload_n 2, 1) := by decide +kernel
theorem dX6_tell_25 : decode cX6_tell 25 = .ok (.bipush 10, 2) := by decide +kernel
theorem dX6_tell_27 : decode cX6_tell 27 = .ok (.imul, 1) := by decide +kernel
theorem dX6_tell_28 : decode cX6_tell 28 = .ok (.iload_n 1, 1) := by decide +kernel
theorem dX6_tell_29 : decode cX6_tell 29 = .ok (.iadd, 1) := by decide +kernel
theorem dX6_tell_30 : decode cX6_tell 30 = .ok (.iload 4, 2) := by decide +kernel
theorem dX6_tell_32 : decode cX6_tell 32 = .ok (.iastore, 1) := by decide +kernel
theorem dX6_tell_33 : decode cX6_tell 33 = .ok (.aload_n 0, 1) := by decide +kernel
theorem dX6_tell_34 : decode cX6_tell 34 = .ok (.iload_n 2, 1) := by decide +kernel
theorem dX6_tell_35 : decode cX6_tell 35 = .ok (.invokevirtual 52, 3) := by decide +kernel
theorem dX6_tell_38 : decode cX6_tell 38 = .ok (.return_, 1) := by decide +kernel
theorem dX6_hold_0 : decode cX6_hold 0 = .ok (.aload_n 0, 1) := by decide +kernel
theorem dX6_hold_1 : decode cX6_hold 1 = .ok (.getfield 21, 3) := by decide +kernel
theorem dX6_hold_4 : decode cX6_hold 4 = .ok (.iload_n 2, 1) := by decide +kernel
theorem dX6_hold_5 : decode cX6_hold 5 = .ok (.bipush 10, 2) := by decide +kernel
theorem dX6_hold_7 : decode cX6_hold 7 = .ok (.imul, 1) := by decide +kernel
theorem dX6_hold_8 : decode cX6_hold 8 = .ok (.iload_n 1, 1) := by decide +kernel
theorem dX6_hold_9 : decode cX6_hold 9 = .ok (.iadd, 1) := by decide +kernel
theorem dX6_hold_10 : decode cX6_hold 10 = .ok (.iload_n 3, 1) := by decide +kernel
theorem dX6_hold_11 : decode cX6_hold 11 = .ok (.bastore, 1) := by decide +kernel
theorem dX6_hold_12 : decode cX6_hold 12 = .ok (.aload_n 0, 1) := by decide +kernel
theorem dX6_hold_13 : decode cX6_hold 13 = .ok (.iload_n 2, 1) := by decide +kernel
theorem dX6_hold_14 : decode cX6_hold 14 = .ok (.invokevirtual 52, 3) := by decide +kernel
theorem dX6_hold_17 : decode cX6_hold 17 = .ok (.aload_n 0, 1) := by decide +kernel
theorem dX6_hold_18 : decode cX6_hold 18 = .ok (.iload_n 1, 1) := by decide +kernel
theorem dX6_hold_19 : decode cX6_hold 19 = .ok (.iload_n 2, 1) := by decide +kernel
theorem dX6_hold_20 : decode cX6_hold 20 = .ok (.invokevirtual 56, 3) := by decide +kernel
theorem dX6_hold_23 : decode cX6_hold 23 = .ok (.ireturn, 1) := by decide +kernel
theorem dX6_grant_0 : decode cX6_grant 0 = .ok (.aload_n 0, 1) := by decide +kernel
theorem dX6_grant_1 : decode cX6_grant 1 = .ok (.getfield 18, 3) := by decide +kernel
theorem dX6_grant_4 : decode cX6_grant 4 = .ok (.iload_n 2, 1) := by decide +kernel
theorem dX6_grant_5 : decode cX6_grant 5 = .ok (.bipush 10, 2) := by decide +kernel
theorem dX6_grant_7 : decode cX6_grant 7 = .ok (.imul, 1) := by decide +kernel
theorem dX6_grant_8 : decode cX6_grant 8 = .ok (.iload_n 1, 1) := by decide +kernel
theorem dX6_grant_9 : decode cX6_grant 9 = .ok (.iadd, 1) := by decide +kernel
theorem dX6_grant_10 : decode cX6_grant 10 = .ok (.iload_n 3, 1) := by decide +kernel
theorem dX6_grant_11 : decode cX6_grant 11 = .ok (.iastore, 1) := by decide +kernel
theorem dX6_grant_12 : decode cX6_grant 12 = .ok (.aload_n 0, 1) := by decide +kernel
theorem dX6_grant_13 : decode cX6_grant 13 = .ok (.iload_n 2, 1) := by decide +kernel
theorem dX6_grant_14 : decode cX6_grant 14 = .ok (.invokevirtual 52, 3) := by decide +kernel
theorem dX6_grant_17 : decode cX6_grant 17 = .ok (.aload_n 0, 1) := by decide +kernel
theorem dX6_grant_18 : decode cX6_grant 18 = .ok (.iload_n 1, 1) := by decide +kernel
theorem dX6_grant_19 : decode cX6_grant 19 = .ok (.iload_n 2, 1) := by decide +kernel
theorem dX6_grant_20 : decode cX6_grant 20 = .ok (.invokevirtual 56, 3) := by decide +kernel
theorem dX6_grant_23 : decode cX6_grant 23 = .ok (.ireturn, 1) := by decide +kernel
theorem dX6_timeOf_0 : decode cX6_timeOf 0 = .ok (.aload_n 0, 1) := by decide +kernel
theorem dX6_timeOf_1 : decode cX6_timeOf 1 = .ok (.getfield 28, 3) := by decide +kernel
theorem dX6_timeOf_4 : decode cX6_timeOf 4 = .ok (.iload_n 2, 1) := by decide +kernel
theorem dX6_timeOf_5 : decode cX6_timeOf 5 = .ok (.bipush 10, 2) := by decide +kernel
theorem dX6_timeOf_7 : decode cX6_timeOf 7 = .ok (.imul, 1) := by decide +kernel
theorem dX6_timeOf_8 : decode cX6_timeOf 8 = .ok (.iload_n 1, 1) := by decide +kernel
theorem dX6_timeOf_9 : decode cX6_timeOf 9 = .ok (.iadd, 1) := by decide +kernel
theorem dX6_timeOf_10 : decode cX6_timeOf 10 = .ok (.iaload, 1) := by decide +kernel
theorem dX6_timeOf_11 : decode cX6_timeOf 11 = .ok (.ireturn, 1) := by decide +kernel
theorem dX6_sumOf_0 : decode cX6_sumOf 0 = .ok (.iconst 0, 1) := by decide +kernel
theorem dX6_sumOf_1 : decode cX6_sumOf 1 = .ok (.istore_n 2, 1) := by decide +kernel
theorem dX6_sumOf_2 : decode cX6_sumOf 2 = .ok (.iconst 0, 1) := by decide +kernel
theorem dX6_sumOf_3 : decode cX6_sumOf 3 = .ok (.istore_n 3, 1) := by decide +kernel
theorem dX6_sumOf_4 : decode cX6_sumOf 4 = .ok (.iload_n 3, 1) := by decide +kernel
theorem dX6_sumOf_5 : decode cX6_sumOf 5 = .ok (.aload_n 0, 1) := by decide +kernel
theorem dX6_sumOf_6 : decode cX6_sumOf 6 = .ok (.getfield 34, 3) := by decide +kernel
theorem dX6_sumOf_9 : decode cX6_sumOf 9 = .ok (.invokevirtual 60, 3) := by decide +kernel
theorem dX6_sumOf_12 : decode cX6_sumOf 12 = .ok (.if_icmp .ge 54, 3) := by decide +kernel
theorem dX6_sumOf_15 : decode cX6_sumOf 15 = .ok (.aload_n 0, 1) := by decide +kernel
theorem dX6_sumOf_16 : decode cX6_sumOf 16 = .ok (.iload_n 1, 1) := by decide +kernel
theorem dX6_sumOf_17 : decode cX6_sumOf 17 = .ok (.iload_n 3, 1) := by decide +kernel
theorem dX6_sumOf_18 : decode cX6_sumOf 18 = .ok (.invokevirtual 56, 3) := by decide +kernel
theorem dX6_sumOf_21 : decode cX6_sumOf 21 = .ok (.iconst (-1), 1) := by decide +kernel
theorem dX6_sumOf_22 : decode cX6_sumOf 22 = .ok (.if_icmp .eq 15, 3) := by decide +kernel
theorem dX6_sumOf_25 : decode cX6_sumOf 25 = .ok (.iload_n 2, 1) := by decide +kernel
theorem dX6_sumOf_26 : decode cX6_sumOf 26 = .ok (.aload_n 0, 1) := by decide +kernel
theorem dX6_sumOf_27 : decode cX6_sumOf 27 = .ok (.iload_n 1, 1) := by decide +kernel
theorem dX6_sumOf_28 : decode cX6_sumOf 28 = .ok (.iload_n 3, 1) := by decide +kernel
theorem dX6_sumOf_29 : decode cX6_sumOf 29 = .ok (.invokevirtual 56, 3) := by decide +kernel
theorem dX6_sumOf_32 : decode cX6_sumOf 32 = .ok (.iadd, 1) := by decide +kernel
theorem dX6_sumOf_33 : decode cX6_sumOf 33 = .ok (.istore_n 2, 1) := by decide +kernel
theorem dX6_sumOf_34 : decode cX6_sumOf 34 = .ok (.goto 26, 3) := by decide +kernel
theorem dX6_sumOf_37 : decode cX6_sumOf 37 = .ok (.aload_n 0, 1) := by decide +kernel
theorem dX6_sumOf_38 : decode cX6_sumOf 38 = .ok (.getfield 31, 3) := by decide +kernel
theorem dX6_sumOf_41 : decode cX6_sumOf 41 = .ok (.iload_n 3, 1) := by decide +kernel
theorem dX6_sumOf_42 : decode cX6_sumOf 42 = .ok (.iaload, 1) := by decide +kernel
theorem dX6_sumOf_43 : decode cX6_sumOf 43 = .ok (.iconst (-1), 1) := by decide +kernel
theorem dX6_sumOf_44 : decode cX6_sumOf 44 = .ok (.if_icmp .eq 16, 3) := by decide +kernel
theorem dX6_sumOf_47 : decode cX6_sumOf 47 = .ok (.iload_n 2, 1) := by decide +kernel
theorem dX6_sumOf_48 : decode cX6_sumOf 48 = .ok (.aload_n 0, 1) := by decide +kernel
theorem dX6_sumOf_49 : decode cX6_sumOf 49 = .ok (.getfield 31, 3) := by decide +kernel
theorem dX6_sumOf_52 : decode cX6_sumOf 52 = .ok (.iload_n 3, 1) := by decide +kernel
theorem dX6_sumOf_53 : decode cX6_sumOf 53 = .ok (.iaload, 1) := by decide +kernel
theorem dX6_sumOf_54 : decode cX6_sumOf 54 = .ok (.sipush 6000, 3) := by decide +kernel
theorem dX6_sumOf_57 : decode cX6_sumOf 57 = .ok (.iadd, 1) := by decide +kernel
theorem dX6_sumOf_58 : decode cX6_sumOf 58 = .ok (.iadd, 1) := by decide +kernel
theorem dX6_sumOf_59 : decode cX6_sumOf 59 = .ok (.istore_n 2, 1) := by decide +kernel
theorem dX6_sumOf_60 : decode cX6_sumOf 60 = .ok (.iinc 3 1, 3) := by decide +kernel
theorem dX6_sumOf_63 : decode cX6_sumOf 63 = .ok (.goto (-59), 3) := by decide +kernel
theorem dX6_sumOf_66 : decode cX6_sumOf 66 = .ok (.iload_n 2, 1) := by decide +kernel
theorem dX6_sumOf_67 : decode cX6_sumOf 67 = .ok (.ireturn, 1) := by decide +kernel
theorem dX6_compareTimes_0 : decode cX6_compareTimes 0 = .ok (.iconst 0, 1) := by decide +kernel
theorem dX6_compareTimes_1 : decode cX6_compareTimes 1 = .ok (.istore_n 3, 1) := by decide +kernel
theorem dX6_compareTimes_2 : decode cX6_compareTimes 2 = .ok (.iload_n 3, 1) := by decide +kernel
theorem dX6_compareTimes_3 : decode cX6_compareTimes 3 = .ok (.aload_n 0, 1) := by decide +kernel
theorem dX6_compareTimes_4 : decode cX6_compareTimes 4 = .ok (.getfield 34, 3) := by decide +kernel
theorem dX6_compareTimes_7 : decode cX6_compareTimes 7 = .ok (.invokevirtual 60, 3) := by decide +kernel
theorem dX6_compareTimes_10 : decode cX6_compareTimes 10 = .ok (.if_icmp .ge 57, 3) := by decide +kernel
theorem dX6_compareTimes_13 : decode cX6_compareTimes 13 = .ok (.aload_n 0, 1) := by decide +kernel
theorem dX6_compareTimes_14 : decode cX6_compareTimes 14 = .ok (.iload_n 1, 1) := by decide +kernel
theorem dX6_compareTimes_15 : decode cX6_compareTimes 15 = .ok (.iload_n 3, 1) := by decide +kernel
theorem dX6_compareTimes_16 : decode cX6_compareTimes 16 = .ok (.invokevirtual 56, 3) := by decide +kernel
theorem dX6_compareTimes_19 : decode cX6_compareTimes 19 = .ok (.istore 4, 2) := by decide +kernel
theorem dX6_compareTimes_21 : decode cX6_compareTimes 21 = .ok (.aload_n 0, 1) := by decide +kernel
theorem dX6_compareTimes_22 : decode cX6_compareTimes 22 = .ok (.iload_n 2, 1) := by decide +kernel
theorem dX6_compareTimes_23 : decode cX6_compareTimes 23 = .ok (.iload_n 3, 1) := by decide +kernel
theorem dX6_compareTimes_24 : decode cX6_compareTimes 24 = .ok (.invokevirtual 56, 3) := by decide +kernel
theorem dX6_compareTimes_27 : decode cX6_compareTimes 27 = .ok (.istore 5, 2) := by decide +kernel
theorem dX6_compareTimes_29 : decode cX6_compareTimes 29 = .ok (.iload 4, 2) := by decide +kernel
theorem dX6_compareTimes_31 : decode cX6_compareTimes 31 = .ok (.iload 5, 2) := by decide +kernel
theorem dX6_compareTimes_33 : decode cX6_compareTimes 33 = .ok (.if_icmp .eq 28, 3) := by decide +kernel
theorem dX6_compareTimes_36 : decode cX6_compareTimes 36 = .ok (.iload 5, 2) := by decide +kernel
theorem dX6_compareTimes_38 : decode cX6_compareTimes 38 = .ok (.iconst (-1), 1) := by decide +kernel
theorem dX6_compareTimes_39 : decode cX6_compareTimes 39 = .ok (.if_icmp .eq 16, 3) := by decide +kernel
theorem dX6_compareTimes_42 : decode cX6_compareTimes 42 = .ok (.iload 4, 2) := by decide +kernel
theorem dX6_compareTimes_44 : decode cX6_compareTimes 44 = .ok (.iconst (-1), 1) := by decide +kernel
theorem dX6_compareTimes_45 : decode cX6_compareTimes 45 = .ok (.if_icmp .eq 14, 3) := by decide +kernel
theorem dX6_compareTimes_48 : decode cX6_compareTimes 48 = .ok (.iload 4, 2) := by decide +kernel
theorem dX6_compareTimes_50 : decode cX6_compareTimes 50 = .ok (.iload 5, 2) := by decide +kernel
theorem dX6_compareTimes_52 : decode cX6_compareTimes 52 = .ok (.if_icmp .ge 7, 3) := by decide +kernel
theorem dX6_compareTimes_55 : decode cX6_compareTimes 55 = .ok (.iconst (-1), 1) := by decide +kernel
theorem dX6_compareTimes_56 : decode cX6_compareTimes 56 = .ok (.goto 4, 3) := by decide +kernel
theorem dX6_compareTimes_59 : decode cX6_compareTimes 59 = .ok (.iconst 1, 1) := by decide +kernel
theorem dX6_compareTimes_60 : decode cX6_compareTimes 60 = .ok (.ireturn, 1) := by decide +kernel
theorem dX6_compareTimes_61 : decode cX6_compareTimes 61 = .ok (.iinc 3 1, 3) := by decide +kernel
theorem dX6_compareTimes_64 : decode cX6_compareTimes 64 = .ok (.goto (-62), 3) := by decide +kernel
theorem dX6_compareTimes_67 : decode cX6_compareTimes 67 = .ok (.iconst 0, 1) := by decide +kernel
theorem dX6_compareTimes_68 : decode cX6_compareTimes 68 = .ok (.ireturn, 1) := by decide +kernel
theorem dX6_reckonAll_0 : decode cX6_reckonAll 0 = .ok (.iconst 0, 1) := by decide +kernel
theorem dX6_reckonAll_1 : decode cX6_reckonAll 1 = .ok (.istore_n 1, 1) := by decide +kernel
theorem dX6_reckonAll_2 : decode cX6_reckonAll 2 = .ok (.iload_n 1, 1) := by decide +kernel
theorem dX6_reckonAll_3 : decode cX6_reckonAll 3 = .ok (.aload_n 0, 1) := by decide +kernel
theorem dX6_reckonAll_4 : decode cX6_reckonAll 4 = .ok (.getfield 34, 3) := by decide +kernel
theorem dX6_reckonAll_7 : decode cX6_reckonAll 7 = .ok (.invokevirtual 60, 3) := by decide +kernel
theorem dX6_reckonAll_10 : decode cX6_reckonAll 10 = .ok (.if_icmp .ge 26, 3) := by decide +kernel
theorem dX6_reckonAll_13 : decode cX6_reckonAll 13 = .ok (.aload_n 0, 1) := by decide +kernel
theorem dX6_reckonAll_14 : decode cX6_reckonAll 14 = .ok (.getfield 34, 3) := by decide +kernel
theorem dX6_reckonAll_17 : decode cX6_reckonAll 17 = .ok (.iload_n 1, 1) := by decide +kernel
theorem dX6_reckonAll_18 : decode cX6_reckonAll 18 = .ok (.invokevirtual 66, 3) := by decide +kernel
theorem dX6_reckonAll_21 : decode cX6_reckonAll 21 = .ok (.iconst 2, 1) := by decide +kernel
theorem dX6_reckonAll_22 : decode cX6_reckonAll 22 = .ok (.if_icmp .ne 8, 3) := by decide +kernel
theorem dX6_reckonAll_25 : decode cX6_reckonAll 25 = .ok (.aload_n 0, 1) := by decide +kernel
theorem dX6_reckonAll_26 : decode cX6_reckonAll 26 = .ok (.iload_n 1, 1) := by decide +kernel
theorem dX6_reckonAll_27 : decode cX6_reckonAll 27 = .ok (.invokevirtual 52, 3) := by decide +kernel
theorem dX6_reckonAll_30 : decode cX6_reckonAll 30 = .ok (.iinc 1 1, 3) := by decide +kernel
theorem dX6_reckonAll_33 : decode cX6_reckonAll 33 = .ok (.goto (-31), 3) := by decide +kernel
theorem dX6_reckonAll_36 : decode cX6_reckonAll 36 = .ok (.return_, 1) := by decide +kernel
theorem dX6_reckon_0 : decode cX6_reckon 0 = .ok (.aload_n 0, 1) := by decide +kernel
theorem dX6_reckon_1 : decode cX6_reckon 1 = .ok (.iload_n 1, 1) := by decide +kernel
theorem dX6_reckon_2 : decode cX6_reckon 2 = .ok (.invokevirtual 70, 3) := by decide +kernel
theorem dX6_reckon_5 : decode cX6_reckon 5 = .ok (.iconst (-1), 1) := by decide +kernel
theorem dX6_reckon_6 : decode cX6_reckon 6 = .ok (.istore_n 2, 1) := by decide +kernel
theorem dX6_reckon_7 : decode cX6_reckon 7 = .ok (.iconst 0, 1) := by decide +kernel
theorem dX6_reckon_8 : decode cX6_reckon 8 = .ok (.istore_n 3, 1) := by decide +kernel
theorem dX6_reckon_9 : decode cX6_reckon 9 = .ok (.iload_n 3, 1) := by decide +kernel
theorem dX6_reckon_10 : decode cX6_reckon 10 = .ok (.bipush 10, 2) := by decide +kernel
theorem dX6_reckon_12 : decode cX6_reckon 12 = .ok (.if_icmp .ge 50, 3) := by decide +kernel
theorem dX6_reckon_15 : decode cX6_reckon 15 = .ok (.aload_n 0, 1) := by decide +kernel
theorem dX6_reckon_16 : decode cX6_reckon 16 = .ok (.iload_n 3, 1) := by decide +kernel
theorem dX6_reckon_17 : decode cX6_reckon 17 = .ok (.iload_n 1, 1) := by decide +kernel
theorem dX6_reckon_18 : decode cX6_reckon 18 = .ok (.invokevirtual 73, 3) := by decide +kernel
theorem dX6_reckon_21 : decode cX6_reckon 21 = .ok (.istore 4, 2) := by decide +kernel
theorem dX6_reckon_23 : decode cX6_reckon 23 = .ok (.aload_n 0, 1) := by decide +kernel
