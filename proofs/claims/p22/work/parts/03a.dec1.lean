theorem dX6_reckon_24 : decode cX6_reckon 24 = .ok (.getfield 28, 3) := by decide +kernel
theorem dX6_reckon_27 : decode cX6_reckon 27 = .ok (.iload_n 1, 1) := by decide +kernel
theorem dX6_reckon_28 : decode cX6_reckon 28 = .ok (.bipush 10, 2) := by decide +kernel
theorem dX6_reckon_30 : decode cX6_reckon 30 = .ok (.imul, 1) := by decide +kernel
theorem dX6_reckon_31 : decode cX6_reckon 31 = .ok (.iload_n 3, 1) := by decide +kernel
theorem dX6_reckon_32 : decode cX6_reckon 32 = .ok (.iadd, 1) := by decide +kernel
theorem dX6_reckon_33 : decode cX6_reckon 33 = .ok (.iload 4, 2) := by decide +kernel
theorem dX6_reckon_35 : decode cX6_reckon 35 = .ok (.iastore, 1) := by decide +kernel
theorem dX6_reckon_36 : decode cX6_reckon 36 = .ok (.iload 4, 2) := by decide +kernel
theorem dX6_reckon_38 : decode cX6_reckon 38 = .ok (.iconst (-1), 1) := by decide +kernel
theorem dX6_reckon_39 : decode cX6_reckon 39 = .ok (.if_icmp .eq 17, 3) := by decide +kernel
theorem dX6_reckon_42 : decode cX6_reckon 42 = .ok (.iload_n 2, 1) := by decide +kernel
theorem dX6_reckon_43 : decode cX6_reckon 43 = .ok (.iconst (-1), 1) := by decide +kernel
theorem dX6_reckon_44 : decode cX6_reckon 44 = .ok (.if_icmp .eq 9, 3) := by decide +kernel
theorem dX6_reckon_47 : decode cX6_reckon 47 = .ok (.iload 4, 2) := by decide +kernel
theorem dX6_reckon_49 : decode cX6_reckon 49 = .ok (.iload_n 2, 1) := by decide +kernel
theorem dX6_reckon_50 : decode cX6_reckon 50 = .ok (.if_icmp .ge 6, 3) := by decide +kernel
theorem dX6_reckon_53 : decode cX6_reckon 53 = .ok (.iload 4, 2) := by decide +kernel
theorem dX6_reckon_55 : decode cX6_reckon 55 = .ok (.istore_n 2, 1) := by decide +kernel
theorem dX6_reckon_56 : decode cX6_reckon 56 = .ok (.iinc 3 1, 3) := by decide +kernel
theorem dX6_reckon_59 : decode cX6_reckon 59 = .ok (.goto (-50), 3) := by decide +kernel
theorem dX6_reckon_62 : decode cX6_reckon 62 = .ok (.aload_n 0, 1) := by decide +kernel
theorem dX6_reckon_63 : decode cX6_reckon 63 = .ok (.getfield 31, 3) := by decide +kernel
theorem dX6_reckon_66 : decode cX6_reckon 66 = .ok (.iload_n 1, 1) := by decide +kernel
theorem dX6_reckon_67 : decode cX6_reckon 67 = .ok (.iload_n 2, 1) := by decide +kernel
theorem dX6_reckon_68 : decode cX6_reckon 68 = .ok (.iastore, 1) := by decide +kernel
theorem dX6_reckon_69 : decode cX6_reckon 69 = .ok (.return_, 1) := by decide +kernel
theorem dX6_reckonTime_0 : decode cX6_reckonTime 0 = .ok (.iload_n 2, 1) := by decide +kernel
theorem dX6_reckonTime_1 : decode cX6_reckonTime 1 = .ok (.bipush 10, 2) := by decide +kernel
theorem dX6_reckonTime_3 : decode cX6_reckonTime 3 = .ok (.imul, 1) := by decide +kernel
theorem dX6_reckonTime_4 : decode cX6_reckonTime 4 = .ok (.iload_n 1, 1) := by decide +kernel
theorem dX6_reckonTime_5 : decode cX6_reckonTime 5 = .ok (.iadd, 1) := by decide +kernel
theorem dX6_reckonTime_6 : decode cX6_reckonTime 6 = .ok (.istore_n 3, 1) := by decide +kernel
theorem dX6_reckonTime_7 : decode cX6_reckonTime 7 = .ok (.aload_n 0, 1) := by decide +kernel
theorem dX6_reckonTime_8 : decode cX6_reckonTime 8 = .ok (.getfield 18, 3) := by decide +kernel
theorem dX6_reckonTime_11 : decode cX6_reckonTime 11 = .ok (.iload_n 3, 1) := by decide +kernel
theorem dX6_reckonTime_12 : decode cX6_reckonTime 12 = .ok (.iaload, 1) := by decide +kernel
theorem dX6_reckonTime_13 : decode cX6_reckonTime 13 = .ok (.iconst (-1), 1) := by decide +kernel
theorem dX6_reckonTime_14 : decode cX6_reckonTime 14 = .ok (.if_icmp .eq 10, 3) := by decide +kernel
theorem dX6_reckonTime_17 : decode cX6_reckonTime 17 = .ok (.aload_n 0, 1) := by decide +kernel
theorem dX6_reckonTime_18 : decode cX6_reckonTime 18 = .ok (.getfield 18, 3) := by decide +kernel
theorem dX6_reckonTime_21 : decode cX6_reckonTime 21 = .ok (.iload_n 3, 1) := by decide +kernel
theorem dX6_reckonTime_22 : decode cX6_reckonTime 22 = .ok (.iaload, 1) := by decide +kernel
theorem dX6_reckonTime_23 : decode cX6_reckonTime 23 = .ok (.ireturn, 1) := by decide +kernel
theorem dX6_reckonTime_24 : decode cX6_reckonTime 24 = .ok (.aload_n 0, 1) := by decide +kernel
theorem dX6_reckonTime_25 : decode cX6_reckonTime 25 = .ok (.getfield 21, 3) := by decide +kernel
theorem dX6_reckonTime_28 : decode cX6_reckonTime 28 = .ok (.iload_n 3, 1) := by decide +kernel
theorem dX6_reckonTime_29 : decode cX6_reckonTime 29 = .ok (.baload, 1) := by decide +kernel
theorem dX6_reckonTime_30 : decode cX6_reckonTime 30 = .ok (.ifCond .eq 12, 3) := by decide +kernel
theorem dX6_reckonTime_33 : decode cX6_reckonTime 33 = .ok (.aload_n 0, 1) := by decide +kernel
theorem dX6_reckonTime_34 : decode cX6_reckonTime 34 = .ok (.iload_n 1, 1) := by decide +kernel
theorem dX6_reckonTime_35 : decode cX6_reckonTime 35 = .ok (.iload_n 2, 1) := by decide +kernel
theorem dX6_reckonTime_36 : decode cX6_reckonTime 36 = .ok (.invokevirtual 76, 3) := by decide +kernel
theorem dX6_reckonTime_39 : decode cX6_reckonTime 39 = .ok (.goto 9, 3) := by decide +kernel
theorem dX6_reckonTime_42 : decode cX6_reckonTime 42 = .ok (.aload_n 0, 1) := by decide +kernel
theorem dX6_reckonTime_43 : decode cX6_reckonTime 43 = .ok (.getfield 25, 3) := by decide +kernel
theorem dX6_reckonTime_46 : decode cX6_reckonTime 46 = .ok (.iload_n 3, 1) := by decide +kernel
theorem dX6_reckonTime_47 : decode cX6_reckonTime 47 = .ok (.iaload, 1) := by decide +kernel
theorem dX6_reckonTime_48 : decode cX6_reckonTime 48 = .ok (.ireturn, 1) := by decide +kernel
theorem dX6_reckonOwnTimes_0 : decode cX6_reckonOwnTimes 0 = .ok (.aload_n 0, 1) := by decide +kernel
theorem dX6_reckonOwnTimes_1 : decode cX6_reckonOwnTimes 1 = .ok (.iload_n 1, 1) := by decide +kernel
theorem dX6_reckonOwnTimes_2 : decode cX6_reckonOwnTimes 2 = .ok (.invokevirtual 79, 3) := by decide +kernel
theorem dX6_reckonOwnTimes_5 : decode cX6_reckonOwnTimes 5 = .ok (.istore_n 2, 1) := by decide +kernel
theorem dX6_reckonOwnTimes_6 : decode cX6_reckonOwnTimes 6 = .ok (.iconst 0, 1) := by decide +kernel
theorem dX6_reckonOwnTimes_7 : decode cX6_reckonOwnTimes 7 = .ok (.istore_n 3, 1) := by decide +kernel
theorem dX6_reckonOwnTimes_8 : decode cX6_reckonOwnTimes 8 = .ok (.iload_n 3, 1) := by decide +kernel
theorem dX6_reckonOwnTimes_9 : decode cX6_reckonOwnTimes 9 = .ok (.bipush 10, 2) := by decide +kernel
theorem dX6_reckonOwnTimes_11 : decode cX6_reckonOwnTimes 11 = .ok (.if_icmp .ge 94, 3) := by decide +kernel
theorem dX6_reckonOwnTimes_14 : decode cX6_reckonOwnTimes 14 = .ok (.iload_n 1, 1) := by decide +kernel
theorem dX6_reckonOwnTimes_15 : decode cX6_reckonOwnTimes 15 = .ok (.bipush 10, 2) := by decide +kernel
theorem dX6_reckonOwnTimes_17 : decode cX6_reckonOwnTimes 17 = .ok (.imul, 1) := by decide +kernel
theorem dX6_reckonOwnTimes_18 : decode cX6_reckonOwnTimes 18 = .ok (.iload_n 3, 1) := by decide +kernel
theorem dX6_reckonOwnTimes_19 : decode cX6_reckonOwnTimes 19 = .ok (.iadd, 1) := by decide +kernel
theorem dX6_reckonOwnTimes_20 : decode cX6_reckonOwnTimes 20 = .ok (.istore 4, 2) := by decide +kernel
theorem dX6_reckonOwnTimes_22 : decode cX6_reckonOwnTimes 22 = .ok (.aload_n 0, 1) := by decide +kernel
theorem dX6_reckonOwnTimes_23 : decode cX6_reckonOwnTimes 23 = .ok (.getfield 9, 3) := by decide +kernel
theorem dX6_reckonOwnTimes_26 : decode cX6_reckonOwnTimes 26 = .ok (.iload 4, 2) := by decide +kernel
theorem dX6_reckonOwnTimes_28 : decode cX6_reckonOwnTimes 28 = .ok (.iaload, 1) := by decide +kernel
theorem dX6_reckonOwnTimes_29 : decode cX6_reckonOwnTimes 29 = .ok (.iconst (-1), 1) := by decide +kernel
theorem dX6_reckonOwnTimes_30 : decode cX6_reckonOwnTimes 30 = .ok (.if_icmp .ne 14, 3) := by decide +kernel
theorem dX6_reckonOwnTimes_33 : decode cX6_reckonOwnTimes 33 = .ok (.aload_n 0, 1) := by decide +kernel
theorem dX6_reckonOwnTimes_34 : decode cX6_reckonOwnTimes 34 = .ok (.getfield 15, 3) := by decide +kernel
theorem dX6_reckonOwnTimes_37 : decode cX6_reckonOwnTimes 37 = .ok (.iload 4, 2) := by decide +kernel
theorem dX6_reckonOwnTimes_39 : decode cX6_reckonOwnTimes 39 = .ok (.iaload, 1) := by decide +kernel
theorem dX6_reckonOwnTimes_40 : decode cX6_reckonOwnTimes 40 = .ok (.iconst (-1), 1) := by decide +kernel
theorem dX6_reckonOwnTimes_41 : decode cX6_reckonOwnTimes 41 = .ok (.if_icmp .eq 58, 3) := by decide +kernel
theorem dX6_reckonOwnTimes_44 : decode cX6_reckonOwnTimes 44 = .ok (.aload_n 0, 1) := by decide +kernel
theorem dX6_reckonOwnTimes_45 : decode cX6_reckonOwnTimes 45 = .ok (.getfield 9, 3) := by decide +kernel
theorem dX6_reckonOwnTimes_48 : decode cX6_reckonOwnTimes 48 = .ok (.iload 4, 2) := by decide +kernel
theorem dX6_reckonOwnTimes_50 : decode cX6_reckonOwnTimes 50 = .ok (.iaload, 1) := by decide +kernel
theorem dX6_reckonOwnTimes_51 : decode cX6_reckonOwnTimes 51 = .ok (.iconst (-1), 1) := by decide +kernel
theorem dX6_reckonOwnTimes_52 : decode cX6_reckonOwnTimes 52 = .ok (.if_icmp .eq 13, 3) := by decide +kernel
theorem dX6_reckonOwnTimes_55 : decode cX6_reckonOwnTimes 55 = .ok (.aload_n 0, 1) := by decide +kernel
theorem dX6_reckonOwnTimes_56 : decode cX6_reckonOwnTimes 56 = .ok (.getfield 9, 3) := by decide +kernel
theorem dX6_reckonOwnTimes_59 : decode cX6_reckonOwnTimes 59 = .ok (.iload 4, 2) := by decide +kernel
theorem dX6_reckonOwnTimes_61 : decode cX6_reckonOwnTimes 61 = .ok (.iaload, 1) := by decide +kernel
theorem dX6_reckonOwnTimes_62 : decode cX6_reckonOwnTimes 62 = .ok (.goto 12, 3) := by decide +kernel
theorem dX6_reckonOwnTimes_65 : decode cX6_reckonOwnTimes 65 = .ok (.aload_n 0, 1) := by decide +kernel
theorem dX6_reckonOwnTimes_66 : decode cX6_reckonOwnTimes 66 = .ok (.getfield 15, 3) := by decide +kernel
theorem dX6_reckonOwnTimes_69 : decode cX6_reckonOwnTimes 69 = .ok (.iload 4, 2) := by decide +kernel
theorem dX6_reckonOwnTimes_71 : decode cX6_reckonOwnTimes 71 = .ok (.iaload, 1) := by decide +kernel
theorem dX6_reckonOwnTimes_72 : decode cX6_reckonOwnTimes 72 = .ok (.iload_n 2, 1) := by decide +kernel
theorem dX6_reckonOwnTimes_73 : decode cX6_reckonOwnTimes 73 = .ok (.iadd, 1) := by decide +kernel
theorem dX6_reckonOwnTimes_74 : decode cX6_reckonOwnTimes 74 = .ok (.istore 5, 2) := by decide +kernel
theorem dX6_reckonOwnTimes_76 : decode cX6_reckonOwnTimes 76 = .ok (.aload_n 0, 1) := by decide +kernel
theorem dX6_reckonOwnTimes_77 : decode cX6_reckonOwnTimes 77 = .ok (.getfield 25, 3) := by decide +kernel
theorem dX6_reckonOwnTimes_80 : decode cX6_reckonOwnTimes 80 = .ok (.iload 4, 2) := by decide +kernel
theorem dX6_reckonOwnTimes_82 : decode cX6_reckonOwnTimes 82 = .ok (.iconst 0, 1) := by decide +kernel
theorem dX6_reckonOwnTimes_83 : decode cX6_reckonOwnTimes 83 = .ok (.iload 5, 2) := by decide +kernel
theorem dX6_reckonOwnTimes_85 : decode cX6_reckonOwnTimes 85 = .ok (.aload_n 0, 1) := by decide +kernel
theorem dX6_reckonOwnTimes_86 : decode cX6_reckonOwnTimes 86 = .ok (.getfield 42, 3) := by decide +kernel
theorem dX6_reckonOwnTimes_89 : decode cX6_reckonOwnTimes 89 = .ok (.iload_n 3, 1) := by decide +kernel
theorem dX6_reckonOwnTimes_90 : decode cX6_reckonOwnTimes 90 = .ok (.iload_n 1, 1) := by decide +kernel
theorem dX6_reckonOwnTimes_91 : decode cX6_reckonOwnTimes 91 = .ok (.invokevirtual 82, 3) := by decide +kernel
theorem dX6_reckonOwnTimes_94 : decode cX6_reckonOwnTimes 94 = .ok (.isub, 1) := by decide +kernel
theorem dX6_reckonOwnTimes_95 : decode cX6_reckonOwnTimes 95 = .ok (.invokestatic 87, 3) := by decide +kernel
theorem dX6_reckonOwnTimes_98 : decode cX6_reckonOwnTimes 98 = .ok (.iastore, 1) := by decide +kernel
theorem dX6_reckonOwnTimes_99 : decode cX6_reckonOwnTimes 99 = .ok (.iinc 3 1, 3) := by decide +kernel
theorem dX6_reckonOwnTimes_102 : decode cX6_reckonOwnTimes 102 = .ok (.goto (-94), 3) := by decide +kernel
theorem dX6_reckonOwnTimes_105 : decode cX6_reckonOwnTimes 105 = .ok (.return_, 1) := by decide +kernel
theorem dX6_beamLead_0 : decode cX6_beamLead 0 = .ok (.iconst 0, 1) := by decide +kernel
theorem dX6_beamLead_1 : decode cX6_beamLead 1 = .ok (.istore_n 2, 1) := by decide +kernel
theorem dX6_beamLead_2 : decode cX6_beamLead 2 = .ok (.iconst 0, 1) := by decide +kernel
theorem dX6_beamLead_3 : decode cX6_beamLead 3 = .ok (.istore_n 3, 1) := by decide +kernel
theorem dX6_beamLead_4 : decode cX6_beamLead 4 = .ok (.iconst 0, 1) := by decide +kernel
theorem dX6_beamLead_5 : decode cX6_beamLead 5 = .ok (.istore 4, 2) := by decide +kernel
theorem dX6_beamLead_7 : decode cX6_beamLead 7 = .ok (.iload 4, 2) := by decide +kernel
theorem dX6_beamLead_9 : decode cX6_beamLead 9 = .ok (.bipush 10, 2) := by decide +kernel
theorem dX6_beamLead_11 : decode cX6_beamLead 11 = .ok (.if_icmp .ge 61, 3) := by decide +kernel
theorem dX6_beamLead_14 : decode cX6_beamLead 14 = .ok (.iload_n 1, 1) := by decide +kernel
theorem dX6_beamLead_15 : decode cX6_beamLead 15 = .ok (.bipush 10, 2) := by decide +kernel
theorem dX6_beamLead_17 : decode cX6_beamLead 17 = .ok (.imul, 1) := by decide +kernel
theorem dX6_beamLead_18 : decode cX6_beamLead 18 = .ok (.iload 4, 2) := by decide +kernel
theorem dX6_beamLead_20 : decode cX6_beamLead 20 = .ok (.iadd, 1) := by decide +kernel
theorem dX6_beamLead_21 : decode cX6_beamLead 21 = .ok (.istore 5, 2) := by decide +kernel
theorem dX6_beamLead_23 : decode cX6_beamLead 23 = .ok (.aload_n 0, 1) := by decide +kernel
theorem dX6_beamLead_24 : decode cX6_beamLead 24 = .ok (.getfield 9, 3) := by decide +kernel
theorem dX6_beamLead_27 : decode cX6_beamLead 27 = .ok (.iload 5, 2) := by decide +kernel
theorem dX6_beamLead_29 : decode cX6_beamLead 29 = .ok (.iaload, 1) := by decide +kernel
theorem dX6_beamLead_30 : decode cX6_beamLead 30 = .ok (.iconst (-1), 1) := by decide +kernel
theorem dX6_beamLead_31 : decode cX6_beamLead 31 = .ok (.if_icmp .eq 35, 3) := by decide +kernel
theorem dX6_beamLead_34 : decode cX6_beamLead 34 = .ok (.aload_n 0, 1) := by decide +kernel
theorem dX6_beamLead_35 : decode cX6_beamLead 35 = .ok (.getfield 15, 3) := by decide +kernel
theorem dX6_beamLead_38 : decode cX6_beamLead 38 = .ok (.iload 5, 2) := by decide +kernel
theorem dX6_beamLead_40 : decode cX6_beamLead 40 = .ok (.iaload, 1) := by decide +kernel
theorem dX6_beamLead_41 : decode cX6_beamLead 41 = .ok (.iconst (-1), 1) := by decide +kernel
theorem dX6_beamLead_42 : decode cX6_beamLead 42 = .ok (.if_icmp .eq 24, 3) := by decide +kernel
theorem dX6_beamLead_45 : decode cX6_beamLead 45 = .ok (.iload_n 2, 1) := by decide +kernel
theorem dX6_beamLead_46 : decode cX6_beamLead 46 = .ok (.aload_n 0, 1) := by decide +kernel
theorem dX6_beamLead_47 : decode cX6_beamLead 47 = .ok (.getfield 9, 3) := by decide +kernel
theorem dX6_beamLead_50 : decode cX6_beamLead 50 = .ok (.iload 5, 2) := by decide +kernel
theorem dX6_beamLead_52 : decode cX6_beamLead 52 = .ok (.iaload, 1) := by decide +kernel
theorem dX6_beamLead_53 : decode cX6_beamLead 53 = .ok (.aload_n 0, 1) := by decide +kernel
theorem dX6_beamLead_54 : decode cX6_beamLead 54 = .ok (.getfield 15, 3) := by decide +kernel
theorem dX6_beamLead_57 : decode cX6_beamLead 57 = .ok (.iload 5, 2) := by decide +kernel
theorem dX6_beamLead_59 : decode cX6_beamLead 59 = .ok (.iaload, 1) := by decide +kernel
theorem dX6_beamLead_60 : decode cX6_beamLead 60 = .ok (.isub, 1) := by decide +kernel
theorem dX6_beamLead_61 : decode cX6_beamLead 61 = .ok (.iadd, 1) := by decide +kernel
theorem dX6_beamLead_62 : decode cX6_beamLead 62 = .ok (.istore_n 2, 1) := by decide +kernel
theorem dX6_beamLead_63 : decode cX6_beamLead 63 = .ok (.iinc 3 1, 3) := by decide +kernel
theorem dX6_beamLead_66 : decode cX6_beamLead 66 = .ok (.iinc 4 1, 3) := by decide +kernel
theorem dX6_beamLead_69 : decode cX6_beamLead 69 = .ok (.goto (-62), 3) := by decide +kernel
theorem dX6_beamLead_72 : decode cX6_beamLead 72 = .ok (.iload_n 3, 1) := by decide +kernel
theorem dX6_beamLead_73 : decode cX6_beamLead 73 = .ok (.ifCond .ne 7, 3) := by decide +kernel
theorem dX6_beamLead_76 : decode cX6_beamLead 76 = .ok (.iconst 0, 1) := by decide +kernel
theorem dX6_beamLead_77 : decode cX6_beamLead 77 = .ok (.goto 8, 3) := by decide +kernel
theorem dX6_beamLead_80 : decode cX6_beamLead 80 = .ok (.iload_n 2, 1) := by decide +kernel
theorem dX6_beamLead_81 : decode cX6_beamLead 81 = .ok (.iload_n 3, 1) := by decide +kernel
theorem dX6_beamLead_82 : decode cX6_beamLead 82 = .ok (.invokestatic 92, 3) := by decide +kernel
theorem dX6_beamLead_85 : decode cX6_beamLead 85 = .ok (.ireturn, 1) := by decide +kernel
theorem dX6_notionalTime_0 : decode cX6_notionalTime 0 = .ok (.aload_n 0, 1) := by decide +kernel
theorem dX6_notionalTime_1 : decode cX6_notionalTime 1 = .ok (.getfield 34, 3) := by decide +kernel
theorem dX6_notionalTime_4 : decode cX6_notionalTime 4 = .ok (.iload_n 2, 1) := by decide +kernel
theorem dX6_notionalTime_5 : decode cX6_notionalTime 5 = .ok (.invokevirtual 95, 3) := by decide +kernel
theorem dX6_notionalTime_8 : decode cX6_notionalTime 8 = .ok (.istore_n 3, 1) := by decide +kernel
theorem dX6_notionalTime_9 : decode cX6_notionalTime 9 = .ok (.aload_n 0, 1) := by decide +kernel
theorem dX6_notionalTime_10 : decode cX6_notionalTime 10 = .ok (.getfield 38, 3) := by decide +kernel
theorem dX6_notionalTime_13 : decode cX6_notionalTime 13 = .ok (.iload_n 3, 1) := by decide +kernel
theorem dX6_notionalTime_14 : decode cX6_notionalTime 14 = .ok (.iload_n 1, 1) := by decide +kernel
theorem dX6_notionalTime_15 : decode cX6_notionalTime 15 = .ok (.invokevirtual 98, 3) := by decide +kernel
theorem dX6_notionalTime_18 : decode cX6_notionalTime 18 = .ok (.istore 4, 2) := by decide +kernel
theorem dX6_notionalTime_20 : decode cX6_notionalTime 20 = .ok (.iconst (-1), 1) := by decide +kernel
theorem dX6_notionalTime_21 : decode cX6_notionalTime 21 = .ok (.istore 5, 2) := by decide +kernel
theorem dX6_notionalTime_23 : decode cX6_notionalTime 23 = .ok (.iload 4, 2) := by decide +kernel
theorem dX6_notionalTime_25 : decode cX6_notionalTime 25 = .ok (.iconst 1, 1) := by decide +kernel
theorem dX6_notionalTime_26 : decode cX6_notionalTime 26 = .ok (.isub, 1) := by decide +kernel
theorem dX6_notionalTime_27 : decode cX6_notionalTime 27 = .ok (.istore 6, 2) := by decide +kernel
theorem dX6_notionalTime_29 : decode cX6_notionalTime 29 = .ok (.iload 6, 2) := by decide +kernel
theorem dX6_notionalTime_31 : decode cX6_notionalTime 31 = .ok (.ifCond .lt 32, 3) := by decide +kernel
theorem dX6_notionalTime_34 : decode cX6_notionalTime 34 = .ok (.iload 5, 2) := by decide +kernel
theorem dX6_notionalTime_36 : decode cX6_notionalTime 36 = .ok (.iconst (-1), 1) := by decide +kernel
theorem dX6_notionalTime_37 : decode cX6_notionalTime 37 = .ok (.if_icmp .ne 26, 3) := by decide +kernel
theorem dX6_notionalTime_40 : decode cX6_notionalTime 40 = .ok (.aload_n 0, 1) := by decide +kernel
theorem dX6_notionalTime_41 : decode cX6_notionalTime 41 = .ok (.aload_n 0, 1) := by decide +kernel
theorem dX6_notionalTime_42 : decode cX6_notionalTime 42 = .ok (.getfield 38, 3) := by decide +kernel
theorem dX6_notionalTime_45 : decode cX6_notionalTime 45 = .ok (.iload_n 3, 1) := by decide +kernel
theorem dX6_notionalTime_46 : decode cX6_notionalTime 46 = .ok (.iload 6, 2) := by decide +kernel
theorem dX6_notionalTime_48 : decode cX6_notionalTime 48 = .ok (.invokevirtual 103, 3) := by decide +kernel
theorem dX6_notionalTime_51 : decode cX6_notionalTime 51 = .ok (.iload_n 2, 1) := by decide +kernel
theorem dX6_notionalTime_52 : decode cX6_notionalTime 52 = .ok (.invokevirtual 106, 3) := by decide +kernel
theorem dX6_notionalTime_55 : decode cX6_notionalTime 55 = .ok (.istore 5, 2) := by decide +kernel
theorem dX6_notionalTime_57 : decode cX6_notionalTime 57 = .ok (.iinc 6 (-1), 3) := by decide +kernel
theorem dX6_notionalTime_60 : decode cX6_notionalTime 60 = .ok (.goto (-31), 3) := by decide +kernel
theorem dX6_notionalTime_63 : decode cX6_notionalTime 63 = .ok (.iconst (-1), 1) := by decide +kernel
theorem dX6_notionalTime_64 : decode cX6_notionalTime 64 = .ok (.istore 6, 2) := by decide +kernel
theorem dX6_notionalTime_66 : decode cX6_notionalTime 66 = .ok (.iload 4, 2) := by decide +kernel
theorem dX6_notionalTime_68 : decode cX6_notionalTime 68 = .ok (.iconst 1, 1) := by decide +kernel
theorem dX6_notionalTime_69 : decode cX6_notionalTime 69 = .ok (.iadd, 1) := by decide +kernel
theorem dX6_notionalTime_70 : decode cX6_notionalTime 70 = .ok (.istore 7, 2) := by decide +kernel
theorem dX6_notionalTime_72 : decode cX6_notionalTime 72 = .ok (.iload 7, 2) := by decide +kernel
theorem dX6_notionalTime_74 : decode cX6_notionalTime 74 = .ok (.bipush 10, 2) := by decide +kernel
theorem dX6_notionalTime_76 : decode cX6_notionalTime 76 = .ok (.if_icmp .ge 32, 3) := by decide +kernel
theorem dX6_notionalTime_79 : decode cX6_notionalTime 79 = .ok (.iload 6, 2) := by decide +kernel
theorem dX6_notionalTime_81 : decode cX6_notionalTime 81 = .ok (.iconst (-1), 1) := by decide +kernel
theorem dX6_notionalTime_82 : decode cX6_notionalTime 82 = .ok (.if_icmp .ne 26, 3) := by decide +kernel
theorem dX6_notionalTime_85 : decode cX6_notionalTime 85 = .ok (.aload_n 0, 1) := by decide +kernel
theorem dX6_notionalTime_86 : decode cX6_notionalTime 86 = .ok (.aload_n 0, 1) := by decide +kernel
theorem dX6_notionalTime_87 : decode cX6_notionalTime 87 = .ok (.getfield 38, 3) := by decide +kernel
theorem dX6_notionalTime_90 : decode cX6_notionalTime 90 = .ok (.iload_n 3, 1) := by decide +kernel
theorem dX6_notionalTime_91 : decode cX6_notionalTime 91 = .ok (.iload 7, 2) := by decide +kernel
theorem dX6_notionalTime_93 : decode cX6_notionalTime 93 = .ok (.invokevirtual 103, 3) := by decide +kernel
theorem dX6_notionalTime_96 : decode cX6_notionalTime 96 = .ok (.iload_n 2, 1) := by decide +kernel
theorem dX6_notionalTime_97 : decode cX6_notionalTime 97 = .ok (.invokevirtual 106, 3) := by decide +kernel
theorem dX6_notionalTime_100 : decode cX6_notionalTime 100 = .ok (.istore 6, 2) := by decide +kernel
theorem dX6_notionalTime_102 : decode cX6_notionalTime 102 = .ok (.iinc 7 1, 3) := by decide +kernel
theorem dX6_notionalTime_105 : decode cX6_notionalTime 105 = .ok (.goto (-33), 3) := by decide +kernel
theorem dX6_notionalTime_108 : decode cX6_notionalTime 108 = .ok (.iload 5, 2) := by decide +kernel
theorem dX6_notionalTime_110 : decode cX6_notionalTime 110 = .ok (.iconst (-1), 1) := by decide +kernel
theorem dX6_notionalTime_111 : decode cX6_notionalTime 111 = .ok (.if_icmp .ne 6, 3) := by decide +kernel
theorem dX6_notionalTime_114 : decode cX6_notionalTime 114 = .ok (.iload 6, 2) := by decide +kernel
theorem dX6_notionalTime_116 : decode cX6_notionalTime 116 = .ok (.ireturn, 1) := by decide +kernel
theorem dX6_notionalTime_117 : decode cX6_notionalTime 117 = .ok (.iload 6, 2) := by decide +kernel
theorem dX6_notionalTime_119 : decode cX6_notionalTime 119 = .ok (.iconst (-1), 1) := by decide +kernel
theorem dX6_notionalTime_120 : decode cX6_notionalTime 120 = .ok (.if_icmp .ne 8, 3) := by decide +kernel
theorem dX6_notionalTime_123 : decode cX6_notionalTime 123 = .ok (.iload 5, 2) := by decide +kernel
theorem dX6_notionalTime_125 : decode cX6_notionalTime 125 = .ok (.goto 10, 3) := by decide +kernel
theorem dX6_notionalTime_128 : decode cX6_notionalTime 128 = .ok (.iload 5, 2) := by decide +kernel
theorem dX6_notionalTime_130 : decode cX6_notionalTime 130 = .ok (.iload 6, 2) := by decide +kernel
theorem dX6_notionalTime_132 : decode cX6_notionalTime 132 = .ok (.iadd, 1) := by decide +kernel
theorem dX6_notionalTime_133 : decode cX6_notionalTime 133 = .ok (.iconst 2, 1) := by decide +kernel
theorem dX6_notionalTime_134 : decode cX6_notionalTime 134 = .ok (.idiv, 1) := by decide +kernel
theorem dX6_notionalTime_135 : decode cX6_notionalTime 135 = .ok (.ireturn, 1) := by decide +kernel
theorem dX6_freeTime_0 : decode cX6_freeTime 0 = .ok (.iload_n 1, 1) := by decide +kernel
theorem dX6_freeTime_1 : decode cX6_freeTime 1 = .ok (.iconst (-1), 1) := by decide +kernel
theorem dX6_freeTime_2 : decode cX6_freeTime 2 = .ok (.if_icmp .eq 17, 3) := by decide +kernel
theorem dX6_freeTime_5 : decode cX6_freeTime 5 = .ok (.aload_n 0, 1) := by decide +kernel
theorem dX6_freeTime_6 : decode cX6_freeTime 6 = .ok (.getfield 21, 3) := by decide +kernel
theorem dX6_freeTime_9 : decode cX6_freeTime 9 = .ok (.iload_n 2, 1) := by decide +kernel
theorem dX6_freeTime_10 : decode cX6_freeTime 10 = .ok (.bipush 10, 2) := by decide +kernel
theorem dX6_freeTime_12 : decode cX6_freeTime 12 = .ok (.imul, 1) := by decide +kernel
theorem dX6_freeTime_13 : decode cX6_freeTime 13 = .ok (.iload_n 1, 1) := by decide +kernel
theorem dX6_freeTime_14 : decode cX6_freeTime 14 = .ok (.iadd, 1) := by decide +kernel
theorem dX6_freeTime_15 : decode cX6_freeTime 15 = .ok (.baload, 1) := by decide +kernel
theorem dX6_freeTime_16 : decode cX6_freeTime 16 = .ok (.ifCond .eq 5, 3) := by decide +kernel
theorem dX6_freeTime_19 : decode cX6_freeTime 19 = .ok (.iconst (-1), 1) := by decide +kernel
theorem dX6_freeTime_20 : decode cX6_freeTime 20 = .ok (.ireturn, 1) := by decide +kernel
theorem dX6_freeTime_21 : decode cX6_freeTime 21 = .ok (.aload_n 0, 1) := by decide +kernel
theorem dX6_freeTime_22 : decode cX6_freeTime 22 = .ok (.getfield 25, 3) := by decide +kernel
theorem dX6_freeTime_25 : decode cX6_freeTime 25 = .ok (.iload_n 2, 1) := by decide +kernel
theorem dX6_freeTime_26 : decode cX6_freeTime 26 = .ok (.bipush 10, 2) := by decide +kernel
theorem dX6_freeTime_28 : decode cX6_freeTime 28 = .ok (.imul, 1) := by decide +kernel
theorem dX6_freeTime_29 : decode cX6_freeTime 29 = .ok (.iload_n 1, 1) := by decide +kernel
theorem dX6_freeTime_30 : decode cX6_freeTime 30 = .ok (.iadd, 1) := by decide +kernel
theorem dX6_freeTime_31 : decode cX6_freeTime 31 = .ok (.iaload, 1) := by decide +kernel
theorem dX6_freeTime_32 : decode cX6_freeTime 32 = .ok (.ireturn, 1) := by decide +kernel
theorem dX7_init_0 : decode cX7_init 0 = .ok (.aload_n 0, 1) := by decide +kernel
theorem dX7_init_1 : decode cX7_init 1 = .ok (.invokespecial 3, 3) := by decide +kernel
theorem dX7_init_4 : decode cX7_init 4 = .ok (.aload_n 0, 1) := by decide +kernel
theorem dX7_init_5 : decode cX7_init 5 = .ok (.sipush 1000, 3) := by decide +kernel
theorem dX7_init_8 : decode cX7_init 8 = .ok (.newarray .boolean, 2) := by decide +kernel
theorem dX7_init_10 : decode cX7_init 10 = .ok (.putfield 9, 3) := by decide +kernel
theorem dX7_init_13 : decode cX7_init 13 = .ok (.aload_n 0, 1) := by decide +kernel
theorem dX7_init_14 : decode cX7_init 14 = .ok (.sipush 1000, 3) := by decide +kernel
theorem dX7_init_17 : decode cX7_init 17 = .ok (.newarray .boolean, 2) := by decide +kernel
theorem dX7_init_19 : decode cX7_init 19 = .ok (.putfield 15, 3) := by decide +kernel
theorem dX7_init_22 : decode cX7_init 22 = .ok (.aload_n 0, 1) := by decide +kernel
theorem dX7_init_23 : decode cX7_init 23 = .ok (.bipush 10, 2) := by decide +kernel
theorem dX7_init_25 : decode cX7_init 25 = .ok (.newarray .int, 2) := by decide +kernel
theorem dX7_init_27 : decode cX7_init 27 = .ok (.putfield 18, 3) := by decide +kernel
theorem dX7_init_30 : decode cX7_init 30 = .ok (.aload_n 0, 1) := by decide +kernel
theorem dX7_init_31 : decode cX7_init 31 = .ok (.bipush 10, 2) := by decide +kernel
theorem dX7_init_33 : decode cX7_init 33 = .ok (.newarray .int, 2) := by decide +kernel
theorem dX7_init_35 : decode cX7_init 35 = .ok (.putfield 22, 3) := by decide +kernel
theorem dX7_init_38 : decode cX7_init 38 = .ok (.return_, 1) := by decide +kernel
theorem dX7_takes_0 : decode cX7_takes 0 = .ok (.aload_n 0, 1) := by decide +kernel
theorem dX7_takes_1 : decode cX7_takes 1 = .ok (.getfield 18, 3) := by decide +kernel
theorem dX7_takes_4 : decode cX7_takes 4 = .ok (.iload_n 1, 1) := by decide +kernel
theorem dX7_takes_5 : decode cX7_takes 5 = .ok (.iaload, 1) := by decide +kernel
theorem dX7_takes_6 : decode cX7_takes 6 = .ok (.bipush 6, 2) := by decide +kernel
theorem dX7_takes_8 : decode cX7_takes 8 = .ok (.if_icmp .ge 21, 3) := by decide +kernel
theorem dX7_takes_11 : decode cX7_takes 11 = .ok (.aload_n 0, 1) := by decide +kernel
theorem dX7_takes_12 : decode cX7_takes 12 = .ok (.getfield 9, 3) := by decide +kernel
theorem dX7_takes_15 : decode cX7_takes 15 = .ok (.iload_n 1, 1) := by decide +kernel
theorem dX7_takes_16 : decode cX7_takes 16 = .ok (.bipush 100, 2) := by decide +kernel
theorem dX7_takes_18 : decode cX7_takes 18 = .ok (.imul, 1) := by decide +kernel
theorem dX7_takes_19 : decode cX7_takes 19 = .ok (.iload_n 2, 1) := by decide +kernel
theorem dX7_takes_20 : decode cX7_takes 20 = .ok (.iadd, 1) := by decide +kernel
theorem dX7_takes_21 : decode cX7_takes 21 = .ok (.baload, 1) := by decide +kernel
theorem dX7_takes_22 : decode cX7_takes 22 = .ok (.ifCond .ne 7, 3) := by decide +kernel
theorem dX7_takes_25 : decode cX7_takes 25 = .ok (.iconst 1, 1) := by decide +kernel
theorem dX7_takes_26 : decode cX7_takes 26 = .ok (.goto 4, 3) := by decide +kernel
theorem dX7_takes_29 : decode cX7_takes 29 = .ok (.iconst 0, 1) := by decide +kernel
theorem dX7_takes_30 : decode cX7_takes 30 = .ok (.ireturn, 1) := by decide +kernel
theorem dX7_add_0 : decode cX7_add 0 = .ok (.aload_n 0, 1) := by decide +kernel
theorem dX7_add_1 : decode cX7_add 1 = .ok (.getfield 9, 3) := by decide +kernel
theorem dX7_add_4 : decode cX7_add 4 = .ok (.iload_n 1, 1) := by decide +kernel
theorem dX7_add_5 : decode cX7_add 5 = .ok (.bipush 100, 2) := by decide +kernel
theorem dX7_add_7 : decode cX7_add 7 = .ok (.imul, 1) := by decide +kernel
theorem dX7_add_8 : decode cX7_add 8 = .ok (.iload_n 2, 1) := by decide +kernel
theorem dX7_add_9 : decode cX7_add 9 = .ok (.iadd, 1) := by decide +kernel
theorem dX7_add_10 : decode cX7_add 10 = .ok (.iconst 1, 1) := by decide +kernel
theorem dX7_add_11 : decode cX7_add 11 = .ok (.bastore, 1) := by decide +kernel
theorem dX7_add_12 : decode cX7_add 12 = .ok (.aload_n 0, 1) := by decide +kernel
theorem dX7_add_13 : decode cX7_add 13 = .ok (.getfield 18, 3) := by decide +kernel
theorem dX7_add_16 : decode cX7_add 16 = .ok (.iload_n 1, 1) := by decide +kernel
theorem dX7_add_17 : decode cX7_add 17 = .ok (.dup2, 1) := by decide +kernel
theorem dX7_add_18 : decode cX7_add 18 = .ok (.iaload, 1) := by decide +kernel
theorem dX7_add_19 : decode cX7_add 19 = .ok (.iconst 1, 1) := by decide +kernel
theorem dX7_add_20 : decode cX7_add 20 = .ok (.iadd, 1) := by decide +kernel
theorem dX7_add_21 : decode cX7_add 21 = .ok (.iastore, 1) := by decide +kernel
theorem dX7_add_22 : decode cX7_add 22 = .ok (.aload_n 0, 1) := by decide +kernel
theorem dX7_add_23 : decode cX7_add 23 = .ok (.getfield 18, 3) := by decide +kernel
theorem dX7_add_26 : decode cX7_add 26 = .ok (.iload_n 1, 1) := by decide +kernel
theorem dX7_add_27 : decode cX7_add 27 = .ok (.iaload, 1) := by decide +kernel
theorem dX7_add_28 : decode cX7_add 28 = .ok (.ireturn, 1) := by decide +kernel
theorem dX7_check_0 : decode cX7_check 0 = .ok (.iload_n 1, 1) := by decide +kernel
theorem dX7_check_1 : decode cX7_check 1 = .ok (.bipush 100, 2) := by decide +kernel
theorem dX7_check_3 : decode cX7_check 3 = .ok (.imul, 1) := by decide +kernel
theorem dX7_check_4 : decode cX7_check 4 = .ok (.iload_n 2, 1) := by decide +kernel
theorem dX7_check_5 : decode cX7_check 5 = .ok (.iadd, 1) := by decide +kernel
theorem dX7_check_6 : decode cX7_check 6 = .ok (.istore_n 3, 1) := by decide +kernel
theorem dX7_check_7 : decode cX7_check 7 = .ok (.aload_n 0, 1) := by decide +kernel
theorem dX7_check_8 : decode cX7_check 8 = .ok (.getfield 9, 3) := by decide +kernel
theorem dX7_check_11 : decode cX7_check 11 = .ok (.iload_n 3, 1) := by decide +kernel
theorem dX7_check_12 : decode cX7_check 12 = .ok (.baload, 1) := by decide +kernel
theorem dX7_check_13 : decode cX7_check 13 = .ok (.ifCond .ne 12, 3) := by decide +kernel
theorem dX7_check_16 : decode cX7_check 16 = .ok (.aload_n 0, 1) := by decide +kernel
theorem dX7_check_17 : decode cX7_check 17 = .ok (.getfield 15, 3) := by decide +kernel
theorem dX7_check_20 : decode cX7_check 20 = .ok (.iload_n 3, 1) := by decide +kernel
theorem dX7_check_21 : decode cX7_check 21 = .ok (.baload, 1) := by decide +kernel
theorem dX7_check_22 : decode cX7_check 22 = .ok (.ifCond .eq 5, 3) := by decide +kernel
theorem dX7_check_25 : decode cX7_check 25 = .ok (.iconst 0, 1) := by decide +kernel
theorem dX7_check_26 : decode cX7_check 26 = .ok (.ireturn, 1) := by decide +kernel
theorem dX7_check_27 : decode cX7_check 27 = .ok (.aload_n 0, 1) := by decide +kernel
theorem dX7_check_28 : decode cX7_check 28 = .ok (.getfield 15, 3) := by decide +kernel
theorem dX7_check_31 : decode cX7_check 31 = .ok (.iload_n 3, 1) := by decide +kernel
theorem dX7_check_32 : decode cX7_check 32 = .ok (.iconst 1, 1) := by decide +kernel
theorem dX7_check_33 : decode cX7_check 33 = .ok (.bastore, 1) := by decide +kernel
theorem dX7_check_34 : decode cX7_check 34 = .ok (.aload_n 0, 1) := by decide +kernel
theorem dX7_check_35 : decode cX7_check 35 = .ok (.getfield 22, 3) := by decide +kernel
theorem dX7_check_38 : decode cX7_check 38 = .ok (.iload_n 1, 1) := by decide +kernel
theorem dX7_check_39 : decode cX7_check 39 = .ok (.dup2, 1) := by decide +kernel
theorem dX7_check_40 : decode cX7_check 40 = .ok (.iaload, 1) := by decide +kernel
theorem dX7_check_41 : decode cX7_check 41 = .ok (.sipush 600, 3) := by decide +kernel
theorem dX7_check_44 : decode cX7_check 44 = .ok (.iadd, 1) := by decide +kernel
theorem dX7_check_45 : decode cX7_check 45 = .ok (.iastore, 1) := by decide +kernel
theorem dX7_check_46 : decode cX7_check 46 = .ok (.sipush 600, 3) := by decide +kernel
theorem dX7_check_49 : decode cX7_check 49 = .ok (.ireturn, 1) := by decide +kernel
theorem dX7_penaltiesOf_0 : decode cX7_penaltiesOf 0 = .ok (.aload_n 0, 1) := by decide +kernel
theorem dX7_penaltiesOf_1 : decode cX7_penaltiesOf 1 = .ok (.getfield 22, 3) := by decide +kernel
theorem dX7_penaltiesOf_4 : decode cX7_penaltiesOf 4 = .ok (.iload_n 1, 1) := by decide +kernel
theorem dX7_penaltiesOf_5 : decode cX7_penaltiesOf 5 = .ok (.iaload, 1) := by decide +kernel
theorem dX7_penaltiesOf_6 : decode cX7_penaltiesOf 6 = .ok (.ireturn, 1) := by decide +kernel
theorem dX7_penaltiesFromTyres_0 : decode cX7_penaltiesFromTyres 0 = .ok (.iconst 0, 1) := by decide +kernel
theorem dX7_penaltiesFromTyres_1 : decode cX7_penaltiesFromTyres 1 = .ok (.istore_n 2, 1) := by decide +kernel
theorem dX7_penaltiesFromTyres_2 : decode cX7_penaltiesFromTyres 2 = .ok (.iconst 0, 1) := by decide +kernel
theorem dX7_penaltiesFromTyres_3 : decode cX7_penaltiesFromTyres 3 = .ok (.istore_n 3, 1) := by decide +kernel
theorem dX7_penaltiesFromTyres_4 : decode cX7_penaltiesFromTyres 4 = .ok (.iload_n 3, 1) := by decide +kernel
theorem dX7_penaltiesFromTyres_5 : decode cX7_penaltiesFromTyres 5 = .ok (.bipush 100, 2) := by decide +kernel
theorem dX7_penaltiesFromTyres_7 : decode cX7_penaltiesFromTyres 7 = .ok (.if_icmp .ge 29, 3) := by decide +kernel
theorem dX7_penaltiesFromTyres_10 : decode cX7_penaltiesFromTyres 10 = .ok (.aload_n 0, 1) := by decide +kernel
theorem dX7_penaltiesFromTyres_11 : decode cX7_penaltiesFromTyres 11 = .ok (.getfield 15, 3) := by decide +kernel
theorem dX7_penaltiesFromTyres_14 : decode cX7_penaltiesFromTyres 14 = .ok (.iload_n 1, 1) := by decide +kernel
theorem dX7_penaltiesFromTyres_15 : decode cX7_penaltiesFromTyres 15 = .ok (.bipush 100, 2) := by decide +kernel
theorem dX7_penaltiesFromTyres_17 : decode cX7_penaltiesFromTyres 17 = .ok (.imul, 1) := by decide +kernel
theorem dX7_penaltiesFromTyres_18 : decode cX7_penaltiesFromTyres 18 = .ok (.iload_n 3, 1) := by decide +kernel
theorem dX7_penaltiesFromTyres_19 : decode cX7_penaltiesFromTyres 19 = .ok (.iadd, 1) := by decide +kernel
theorem dX7_penaltiesFromTyres_20 : decode cX7_penaltiesFromTyres 20 = .ok (.baload, 1) := by decide +kernel
theorem dX7_penaltiesFromTyres_21 : decode cX7_penaltiesFromTyres 21 = .ok (.ifCond .eq 9, 3) := by decide +kernel
theorem dX7_penaltiesFromTyres_24 : decode cX7_penaltiesFromTyres 24 = .ok (.iinc 2 600, 6) := by decide +kernel
theorem dX7_penaltiesFromTyres_30 : decode cX7_penaltiesFromTyres 30 = .ok (.iinc 3 1, 3) := by decide +kernel
theorem dX7_penaltiesFromTyres_33 : decode cX7_penaltiesFromTyres 33 = .ok (.goto (-29), 3) := by decide +kernel
theorem dX7_penaltiesFromTyres_36 : decode cX7_penaltiesFromTyres 36 = .ok (.iload_n 2, 1) := by decide +kernel
theorem dX7_penaltiesFromTyres_37 : decode cX7_penaltiesFromTyres 37 = .ok (.ireturn, 1) := by decide +kernel
theorem dX8_init_0 : decode cX8_init 0 = .ok (.aload_n 0, 1) := by decide +kernel
theorem dX8_init_1 : decode cX8_init 1 = .ok (.invokespecial 1, 3) := by decide +kernel
theorem dX8_init_4 : decode cX8_init 4 = .ok (.aload_n 0, 1) := by decide +kernel
theorem dX8_init_5 : decode cX8_init 5 = .ok (.new 7, 3) := by decide +kernel
theorem dX8_init_8 : decode cX8_init 8 = .ok (.dup, 1) := by decide +kernel
theorem dX8_init_9 : decode cX8_init 9 = .ok (.invokespecial 9, 3) := by decide +kernel
theorem dX8_init_12 : decode cX8_init 12 = .ok (.putfield 10, 3) := by decide +kernel
theorem dX8_init_15 : decode cX8_init 15 = .ok (.aload_n 0, 1) := by decide +kernel
theorem dX8_init_16 : decode cX8_init 16 = .ok (.invokestatic 16, 3) := by decide +kernel
theorem dX8_init_19 : decode cX8_init 19 = .ok (.putfield 22, 3) := by decide +kernel
theorem dX8_init_22 : decode cX8_init 22 = .ok (.return_, 1) := by decide +kernel
theorem dX8_item_0 : decode cX8_item 0 = .ok (.iload_n 1, 1) := by decide +kernel
theorem dX8_item_1 : decode cX8_item 1 = .ok (.iconst 0, 1) := by decide +kernel
theorem dX8_item_2 : decode cX8_item 2 = .ok (.iconst 2, 1) := by decide +kernel
theorem dX8_item_3 : decode cX8_item 3 = .ok (.invokestatic 26, 3) := by decide +kernel
theorem dX8_item_6 : decode cX8_item 6 = .ok (.iload_n 2, 1) := by decide +kernel
theorem dX8_item_7 : decode cX8_item 7 = .ok (.iconst 0, 1) := by decide +kernel
theorem dX8_item_8 : decode cX8_item 8 = .ok (.iload_n 1, 1) := by decide +kernel
theorem dX8_item_9 : decode cX8_item 9 = .ok (.iconst 2, 1) := by decide +kernel
theorem dX8_item_10 : decode cX8_item 10 = .ok (.if_icmp .ne 7, 3) := by decide +kernel
theorem dX8_item_13 : decode cX8_item 13 = .ok (.iconst 0, 1) := by decide +kernel
theorem dX8_item_14 : decode cX8_item 14 = .ok (.goto 6, 3) := by decide +kernel
theorem dX8_item_17 : decode cX8_item 17 = .ok (.sipush 2000, 3) := by decide +kernel
theorem dX8_item_20 : decode cX8_item 20 = .ok (.invokestatic 26, 3) := by decide +kernel
theorem dX8_item_23 : decode cX8_item 23 = .ok (.aload_n 0, 1) := by decide +kernel
theorem dX8_item_24 : decode cX8_item 24 = .ok (.getfield 22, 3) := by decide +kernel
theorem dX8_item_27 : decode cX8_item 27 = .ok (.invokevirtual 30, 3) := by decide +kernel
theorem dX8_item_30 : decode cX8_item 30 = .ok (.ifCond .ne 17, 3) := by decide +kernel
theorem dX8_item_33 : decode cX8_item 33 = .ok (.aload_n 0, 1) := by decide +kernel
theorem dX8_item_34 : decode cX8_item 34 = .ok (.getfield 22, 3) := by decide +kernel
theorem dX8_item_37 : decode cX8_item 37 = .ok (.getfield 34, 3) := by decide +kernel
theorem dX8_item_40 : decode cX8_item 40 = .ok (.iload_n 1, 1) := by decide +kernel
theorem dX8_item_41 : decode cX8_item 41 = .ok (.invokevirtual 38, 3) := by decide +kernel
theorem dX8_item_44 : decode cX8_item 44 = .ok (.ifCond .ne 13, 3) := by decide +kernel
theorem dX8_item_47 : decode cX8_item 47 = .ok (.new 44, 3) := by decide +kernel
theorem dX8_item_50 : decode cX8_item 50 = .ok (.dup, 1) := by decide +kernel
theorem dX8_item_51 : decode cX8_item 51 = .ok (.ldc 46, 2) := by decide +kernel
theorem dX8_item_53 : decode cX8_item 53 = .ok (.invokespecial 48, 3) := by decide +kernel
theorem dX8_item_56 : decode cX8_item 56 = .ok (.athrow, 1) := by decide +kernel
theorem dX8_item_57 : decode cX8_item 57 = .ok (.aload_n 0, 1) := by decide +kernel
theorem dX8_item_58 : decode cX8_item 58 = .ok (.getfield 22, 3) := by decide +kernel
theorem dX8_item_61 : decode cX8_item 61 = .ok (.getfield 34, 3) := by decide +kernel
theorem dX8_item_64 : decode cX8_item 64 = .ok (.iload_n 1, 1) := by decide +kernel
theorem dX8_item_65 : decode cX8_item 65 = .ok (.iload_n 2, 1) := by decide +kernel
theorem dX8_item_66 : decode cX8_item 66 = .ok (.invokevirtual 51, 3) := by decide +kernel
theorem dX8_item_69 : decode cX8_item 69 = .ok (.ireturn, 1) := by decide +kernel
theorem dX8_open_0 : decode cX8_open 0 = .ok (.aload_n 0, 1) := by decide +kernel
theorem dX8_open_1 : decode cX8_open 1 = .ok (.iload_n 1, 1) := by decide +kernel
theorem dX8_open_2 : decode cX8_open 2 = .ok (.invokevirtual 55, 3) := by decide +kernel
theorem dX8_open_5 : decode cX8_open 5 = .ok (.iload_n 2, 1) := by decide +kernel
theorem dX8_open_6 : decode cX8_open 6 = .ok (.iconst 0, 1) := by decide +kernel
theorem dX8_open_7 : decode cX8_open 7 = .ok (.iconst 2, 1) := by decide +kernel
theorem dX8_open_8 : decode cX8_open 8 = .ok (.invokestatic 26, 3) := by decide +kernel
theorem dX8_open_11 : decode cX8_open 11 = .ok (.aload_n 0, 1) := by decide +kernel
theorem dX8_open_12 : decode cX8_open 12 = .ok (.iload_n 1, 1) := by decide +kernel
theorem dX8_open_13 : decode cX8_open 13 = .ok (.iconst 0, 1) := by decide +kernel
theorem dX8_open_14 : decode cX8_open 14 = .ok (.invokevirtual 59, 3) := by decide +kernel
theorem dX8_open_17 : decode cX8_open 17 = .ok (.aload_n 0, 1) := by decide +kernel
theorem dX8_open_18 : decode cX8_open 18 = .ok (.getfield 22, 3) := by decide +kernel
theorem dX8_open_21 : decode cX8_open 21 = .ok (.iload_n 1, 1) := by decide +kernel
theorem dX8_open_22 : decode cX8_open 22 = .ok (.invokevirtual 63, 3) := by decide +kernel
theorem dX8_open_25 : decode cX8_open 25 = .ok (.ifCond .ne 13, 3) := by decide +kernel
theorem dX8_open_28 : decode cX8_open 28 = .ok (.new 44, 3) := by decide +kernel
theorem dX8_open_31 : decode cX8_open 31 = .ok (.dup, 1) := by decide +kernel
theorem dX8_open_32 : decode cX8_open 32 = .ok (.ldc 66, 2) := by decide +kernel
theorem dX8_open_34 : decode cX8_open 34 = .ok (.invokespecial 48, 3) := by decide +kernel
theorem dX8_open_37 : decode cX8_open 37 = .ok (.athrow, 1) := by decide +kernel
theorem dX8_open_38 : decode cX8_open 38 = .ok (.aload_n 0, 1) := by decide +kernel
theorem dX8_open_39 : decode cX8_open 39 = .ok (.getfield 22, 3) := by decide +kernel
theorem dX8_open_42 : decode cX8_open 42 = .ok (.iload_n 1, 1) := by decide +kernel
theorem dX8_open_43 : decode cX8_open 43 = .ok (.iload_n 2, 1) := by decide +kernel
theorem dX8_open_44 : decode cX8_open 44 = .ok (.invokevirtual 68, 3) := by decide +kernel
theorem dX8_open_47 : decode cX8_open 47 = .ok (.ireturn, 1) := by decide +kernel
theorem dX8_starts_0 : decode cX8_starts 0 = .ok (.aload_n 0, 1) := by decide +kernel
theorem dX8_starts_1 : decode cX8_starts 1 = .ok (.iload_n 1, 1) := by decide +kernel
theorem dX8_starts_2 : decode cX8_starts 2 = .ok (.invokevirtual 55, 3) := by decide +kernel
theorem dX8_starts_5 : decode cX8_starts 5 = .ok (.iload_n 2, 1) := by decide +kernel
theorem dX8_starts_6 : decode cX8_starts 6 = .ok (.iconst 0, 1) := by decide +kernel
theorem dX8_starts_7 : decode cX8_starts 7 = .ok (.bipush 9, 2) := by decide +kernel
theorem dX8_starts_9 : decode cX8_starts 9 = .ok (.invokestatic 26, 3) := by decide +kernel
theorem dX8_starts_12 : decode cX8_starts 12 = .ok (.aload_n 0, 1) := by decide +kernel
theorem dX8_starts_13 : decode cX8_starts 13 = .ok (.iload_n 1, 1) := by decide +kernel
theorem dX8_starts_14 : decode cX8_starts 14 = .ok (.iconst 0, 1) := by decide +kernel
theorem dX8_starts_15 : decode cX8_starts 15 = .ok (.invokevirtual 59, 3) := by decide +kernel
theorem dX8_starts_18 : decode cX8_starts 18 = .ok (.aload_n 0, 1) := by decide +kernel
theorem dX8_starts_19 : decode cX8_starts 19 = .ok (.getfield 22, 3) := by decide +kernel
theorem dX8_starts_22 : decode cX8_starts 22 = .ok (.getfield 71, 3) := by decide +kernel
theorem dX8_starts_25 : decode cX8_starts 25 = .ok (.iload_n 1, 1) := by decide +kernel
theorem dX8_starts_26 : decode cX8_starts 26 = .ok (.iload_n 2, 1) := by decide +kernel
theorem dX8_starts_27 : decode cX8_starts 27 = .ok (.invokevirtual 75, 3) := by decide +kernel
theorem dX8_starts_30 : decode cX8_starts 30 = .ok (.ireturn, 1) := by decide +kernel
theorem dX8_due_0 : decode cX8_due 0 = .ok (.iload_n 1, 1) := by decide +kernel
theorem dX8_due_1 : decode cX8_due 1 = .ok (.invokestatic 80, 3) := by decide +kernel
theorem dX8_due_4 : decode cX8_due 4 = .ok (.aload_n 0, 1) := by decide +kernel
theorem dX8_due_5 : decode cX8_due 5 = .ok (.iload_n 2, 1) := by decide +kernel
theorem dX8_due_6 : decode cX8_due 6 = .ok (.invokevirtual 55, 3) := by decide +kernel
theorem dX8_due_9 : decode cX8_due 9 = .ok (.aload_n 0, 1) := by decide +kernel
theorem dX8_due_10 : decode cX8_due 10 = .ok (.iload_n 2, 1) := by decide +kernel
theorem dX8_due_11 : decode cX8_due 11 = .ok (.invokevirtual 83, 3) := by decide +kernel
theorem dX8_due_14 : decode cX8_due 14 = .ok (.aload_n 0, 1) := by decide +kernel
theorem dX8_due_15 : decode cX8_due 15 = .ok (.getfield 22, 3) := by decide +kernel
theorem dX8_due_18 : decode cX8_due 18 = .ok (.getfield 86, 3) := by decide +kernel
theorem dX8_due_21 : decode cX8_due 21 = .ok (.iload_n 1, 1) := by decide +kernel
theorem dX8_due_22 : decode cX8_due 22 = .ok (.invokevirtual 90, 3) := by decide +kernel
theorem dX8_due_25 : decode cX8_due 25 = .ok (.ifCond .eq 18, 3) := by decide +kernel
theorem dX8_due_28 : decode cX8_due 28 = .ok (.aload_n 0, 1) := by decide +kernel
theorem dX8_due_29 : decode cX8_due 29 = .ok (.getfield 22, 3) := by decide +kernel
theorem dX8_due_32 : decode cX8_due 32 = .ok (.getfield 86, 3) := by decide +kernel
theorem dX8_due_35 : decode cX8_due 35 = .ok (.iload_n 1, 1) := by decide +kernel
theorem dX8_due_36 : decode cX8_due 36 = .ok (.iload_n 2, 1) := by decide +kernel
theorem dX8_due_37 : decode cX8_due 37 = .ok (.invokevirtual 95, 3) := by decide +kernel
theorem dX8_due_40 : decode cX8_due 40 = .ok (.goto 4, 3) := by decide +kernel
theorem dX8_due_43 : decode cX8_due 43 = .ok (.iconst (-1), 1) := by decide +kernel
theorem dX8_due_44 : decode cX8_due 44 = .ok (.ireturn, 1) := by decide +kernel
theorem dX8_stamp_0 : decode cX8_stamp 0 = .ok (.iload_n 1, 1) := by decide +kernel
theorem dX8_stamp_1 : decode cX8_stamp 1 = .ok (.invokestatic 80, 3) := by decide +kernel
theorem dX8_stamp_4 : decode cX8_stamp 4 = .ok (.aload_n 0, 1) := by decide +kernel
theorem dX8_stamp_5 : decode cX8_stamp 5 = .ok (.iload_n 2, 1) := by decide +kernel
theorem dX8_stamp_6 : decode cX8_stamp 6 = .ok (.invokevirtual 55, 3) := by decide +kernel
theorem dX8_stamp_9 : decode cX8_stamp 9 = .ok (.aload_n 0, 1) := by decide +kernel
theorem dX8_stamp_10 : decode cX8_stamp 10 = .ok (.iload_n 2, 1) := by decide +kernel
theorem dX8_stamp_11 : decode cX8_stamp 11 = .ok (.invokevirtual 83, 3) := by decide +kernel
theorem dX8_stamp_14 : decode cX8_stamp 14 = .ok (.iload_n 3, 1) := by decide +kernel
theorem dX8_stamp_15 : decode cX8_stamp 15 = .ok (.iconst 0, 1) := by decide +kernel
theorem dX8_stamp_16 : decode cX8_stamp 16 = .ok (.sipush 2000, 3) := by decide +kernel
theorem dX8_stamp_19 : decode cX8_stamp 19 = .ok (.invokestatic 26, 3) := by decide +kernel
theorem dX8_stamp_22 : decode cX8_stamp 22 = .ok (.aload_n 0, 1) := by decide +kernel
theorem dX8_stamp_23 : decode cX8_stamp 23 = .ok (.getfield 22, 3) := by decide +kernel
theorem dX8_stamp_26 : decode cX8_stamp 26 = .ok (.getfield 86, 3) := by decide +kernel
theorem dX8_stamp_29 : decode cX8_stamp 29 = .ok (.iload_n 1, 1) := by decide +kernel
theorem dX8_stamp_30 : decode cX8_stamp 30 = .ok (.iload_n 2, 1) := by decide +kernel
theorem dX8_stamp_31 : decode cX8_stamp 31 = .ok (.invokevirtual 98, 3) := by decide +kernel
theorem dX8_stamp_34 : decode cX8_stamp 34 = .ok (.ifCond .ne 13, 3) := by decide +kernel
theorem dX8_stamp_37 : decode cX8_stamp 37 = .ok (.new 44, 3) := by decide +kernel
theorem dX8_stamp_40 : decode cX8_stamp 40 = .ok (.dup, 1) := by decide +kernel
theorem dX8_stamp_41 : decode cX8_stamp 41 = .ok (.ldc 102, 2) := by decide +kernel
theorem dX8_stamp_43 : decode cX8_stamp 43 = .ok (.invokespecial 48, 3) := by decide +kernel
theorem dX8_stamp_46 : decode cX8_stamp 46 = .ok (.athrow, 1) := by decide +kernel
theorem dX8_stamp_47 : decode cX8_stamp 47 = .ok (.aload_n 0, 1) := by decide +kernel
theorem dX8_stamp_48 : decode cX8_stamp 48 = .ok (.getfield 22, 3) := by decide +kernel
theorem dX8_stamp_51 : decode cX8_stamp 51 = .ok (.getfield 86, 3) := by decide +kernel
theorem dX8_stamp_54 : decode cX8_stamp 54 = .ok (.iload_n 1, 1) := by decide +kernel
theorem dX8_stamp_55 : decode cX8_stamp 55 = .ok (.iload_n 2, 1) := by decide +kernel
theorem dX8_stamp_56 : decode cX8_stamp 56 = .ok (.iload_n 3, 1) := by decide +kernel
theorem dX8_stamp_57 : decode cX8_stamp 57 = .ok (.invokevirtual 104, 3) := by decide +kernel
theorem dX8_stamp_60 : decode cX8_stamp 60 = .ok (.ireturn, 1) := by decide +kernel
theorem dX8_delay_0 : decode cX8_delay 0 = .ok (.aload_n 0, 1) := by decide +kernel
theorem dX8_delay_1 : decode cX8_delay 1 = .ok (.iload_n 1, 1) := by decide +kernel
theorem dX8_delay_2 : decode cX8_delay 2 = .ok (.invokevirtual 55, 3) := by decide +kernel
theorem dX8_delay_5 : decode cX8_delay 5 = .ok (.iload_n 2, 1) := by decide +kernel
theorem dX8_delay_6 : decode cX8_delay 6 = .ok (.invokestatic 80, 3) := by decide +kernel
theorem dX8_delay_9 : decode cX8_delay 9 = .ok (.aload_n 0, 1) := by decide +kernel
theorem dX8_delay_10 : decode cX8_delay 10 = .ok (.iload_n 1, 1) := by decide +kernel
theorem dX8_delay_11 : decode cX8_delay 11 = .ok (.iconst 1, 1) := by decide +kernel
theorem dX8_delay_12 : decode cX8_delay 12 = .ok (.invokevirtual 59, 3) := by decide +kernel
theorem dX8_delay_15 : decode cX8_delay 15 = .ok (.iload_n 3, 1) := by decide +kernel
theorem dX8_delay_16 : decode cX8_delay 16 = .ok (.iconst 1, 1) := by decide +kernel
theorem dX8_delay_17 : decode cX8_delay 17 = .ok (.bipush 60, 2) := by decide +kernel
theorem dX8_delay_19 : decode cX8_delay 19 = .ok (.invokestatic 26, 3) := by decide +kernel
theorem dX8_delay_22 : decode cX8_delay 22 = .ok (.aload_n 0, 1) := by decide +kernel
theorem dX8_delay_23 : decode cX8_delay 23 = .ok (.getfield 22, 3) := by decide +kernel
theorem dX8_delay_26 : decode cX8_delay 26 = .ok (.getfield 34, 3) := by decide +kernel
theorem dX8_delay_29 : decode cX8_delay 29 = .ok (.iload_n 1, 1) := by decide +kernel
theorem dX8_delay_30 : decode cX8_delay 30 = .ok (.invokevirtual 108, 3) := by decide +kernel
theorem dX8_delay_33 : decode cX8_delay 33 = .ok (.istore 4, 2) := by decide +kernel
theorem dX8_delay_35 : decode cX8_delay 35 = .ok (.aload_n 0, 1) := by decide +kernel
theorem dX8_delay_36 : decode cX8_delay 36 = .ok (.getfield 22, 3) := by decide +kernel
theorem dX8_delay_39 : decode cX8_delay 39 = .ok (.getfield 71, 3) := by decide +kernel
theorem dX8_delay_42 : decode cX8_delay 42 = .ok (.iload 4, 2) := by decide +kernel
theorem dX8_delay_44 : decode cX8_delay 44 = .ok (.iload_n 2, 1) := by decide +kernel
theorem dX8_delay_45 : decode cX8_delay 45 = .ok (.invokevirtual 112, 3) := by decide +kernel
theorem dX8_delay_48 : decode cX8_delay 48 = .ok (.istore 5, 2) := by decide +kernel
theorem dX8_delay_50 : decode cX8_delay 50 = .ok (.iload 5, 2) := by decide +kernel
theorem dX8_delay_52 : decode cX8_delay 52 = .ok (.iconst (-1), 1) := by decide +kernel
theorem dX8_delay_53 : decode cX8_delay 53 = .ok (.if_icmp .ne 13, 3) := by decide +kernel
theorem dX8_delay_56 : decode cX8_delay 56 = .ok (.new 44, 3) := by decide +kernel
theorem dX8_delay_59 : decode cX8_delay 59 = .ok (.dup, 1) := by decide +kernel
theorem dX8_delay_60 : decode cX8_delay 60 = .ok (.ldc 115, 2) := by decide +kernel
theorem dX8_delay_62 : decode cX8_delay 62 = .ok (.invokespecial 48, 3) := by decide +kernel
theorem dX8_delay_65 : decode cX8_delay 65 = .ok (.athrow, 1) := by decide +kernel
theorem dX8_delay_66 : decode cX8_delay 66 = .ok (.aload_n 0, 1) := by decide +kernel
theorem dX8_delay_67 : decode cX8_delay 67 = .ok (.getfield 22, 3) := by decide +kernel
theorem dX8_delay_70 : decode cX8_delay 70 = .ok (.getfield 86, 3) := by decide +kernel
theorem dX8_delay_73 : decode cX8_delay 73 = .ok (.iload_n 1, 1) := by decide +kernel
theorem dX8_delay_74 : decode cX8_delay 74 = .ok (.iload 4, 2) := by decide +kernel
theorem dX8_delay_76 : decode cX8_delay 76 = .ok (.iload 5, 2) := by decide +kernel
theorem dX8_delay_78 : decode cX8_delay 78 = .ok (.iload_n 3, 1) := by decide +kernel
theorem dX8_delay_79 : decode cX8_delay 79 = .ok (.invokevirtual 117, 3) := by decide +kernel
theorem dX8_delay_82 : decode cX8_delay 82 = .ok (.ireturn, 1) := by decide +kernel
theorem dX8_finish_0 : decode cX8_finish 0 = .ok (.iload_n 1, 1) := by decide +kernel
theorem dX8_finish_1 : decode cX8_finish 1 = .ok (.invokestatic 80, 3) := by decide +kernel
theorem dX8_finish_4 : decode cX8_finish 4 = .ok (.aload_n 0, 1) := by decide +kernel
theorem dX8_finish_5 : decode cX8_finish 5 = .ok (.iload_n 2, 1) := by decide +kernel
theorem dX8_finish_6 : decode cX8_finish 6 = .ok (.invokevirtual 55, 3) := by decide +kernel
theorem dX8_finish_9 : decode cX8_finish 9 = .ok (.aload_n 0, 1) := by decide +kernel
theorem dX8_finish_10 : decode cX8_finish 10 = .ok (.iload_n 2, 1) := by decide +kernel
theorem dX8_finish_11 : decode cX8_finish 11 = .ok (.iconst 2, 1) := by decide +kernel
theorem dX8_finish_12 : decode cX8_finish 12 = .ok (.invokevirtual 59, 3) := by decide +kernel
theorem dX8_finish_15 : decode cX8_finish 15 = .ok (.iload 4, 2) := by decide +kernel
theorem dX8_finish_17 : decode cX8_finish 17 = .ok (.iconst 0, 1) := by decide +kernel
theorem dX8_finish_18 : decode cX8_finish 18 = .ok (.ldc 121, 2) := by decide +kernel
theorem dX8_finish_20 : decode cX8_finish 20 = .ok (.invokestatic 26, 3) := by decide +kernel
theorem dX8_finish_23 : decode cX8_finish 23 = .ok (.aload_n 0, 1) := by decide +kernel
theorem dX8_finish_24 : decode cX8_finish 24 = .ok (.iload_n 1, 1) := by decide +kernel
theorem dX8_finish_25 : decode cX8_finish 25 = .ok (.iload_n 2, 1) := by decide +kernel
theorem dX8_finish_26 : decode cX8_finish 26 = .ok (.invokevirtual 122, 3) := by decide +kernel
theorem dX8_finish_29 : decode cX8_finish 29 = .ok (.iload 4, 2) := by decide +kernel
theorem dX8_finish_31 : decode cX8_finish 31 = .ok (.aload_n 0, 1) := by decide +kernel
theorem dX8_finish_32 : decode cX8_finish 32 = .ok (.getfield 22, 3) := by decide +kernel
theorem dX8_finish_35 : decode cX8_finish 35 = .ok (.getfield 86, 3) := by decide +kernel
theorem dX8_finish_38 : decode cX8_finish 38 = .ok (.iload_n 1, 1) := by decide +kernel
theorem dX8_finish_39 : decode cX8_finish 39 = .ok (.iload_n 2, 1) := by decide +kernel
theorem dX8_finish_40 : decode cX8_finish 40 = .ok (.invokevirtual 125, 3) := by decide +kernel
theorem dX8_finish_43 : decode cX8_finish 43 = .ok (.if_icmp .ge 13, 3) := by decide +kernel
theorem dX8_finish_46 : decode cX8_finish 46 = .ok (.new 44, 3) := by decide +kernel
theorem dX8_finish_49 : decode cX8_finish 49 = .ok (.dup, 1) := by decide +kernel
theorem dX8_finish_50 : decode cX8_finish 50 = .ok (.ldc 128, 2) := by decide +kernel
theorem dX8_finish_52 : decode cX8_finish 52 = .ok (.invokespecial 48, 3) := by decide +kernel
theorem dX8_finish_55 : decode cX8_finish 55 = .ok (.athrow, 1) := by decide +kernel
theorem dX8_finish_56 : decode cX8_finish 56 = .ok (.aload_n 0, 1) := by decide +kernel
theorem dX8_finish_57 : decode cX8_finish 57 = .ok (.getfield 22, 3) := by decide +kernel
theorem dX8_finish_60 : decode cX8_finish 60 = .ok (.getfield 130, 3) := by decide +kernel
theorem dX8_finish_63 : decode cX8_finish 63 = .ok (.iload_n 1, 1) := by decide +kernel
theorem dX8_finish_64 : decode cX8_finish 64 = .ok (.iload_n 2, 1) := by decide +kernel
theorem dX8_finish_65 : decode cX8_finish 65 = .ok (.iload_n 3, 1) := by decide +kernel
theorem dX8_finish_66 : decode cX8_finish 66 = .ok (.iload 4, 2) := by decide +kernel
theorem dX8_finish_68 : decode cX8_finish 68 = .ok (.invokevirtual 134, 3) := by decide +kernel
theorem dX8_finish_71 : decode cX8_finish 71 = .ok (.return_, 1) := by decide +kernel
theorem dX8_held_0 : decode cX8_held 0 = .ok (.iload_n 1, 1) := by decide +kernel
theorem dX8_held_1 : decode cX8_held 1 = .ok (.invokestatic 80, 3) := by decide +kernel
theorem dX8_held_4 : decode cX8_held 4 = .ok (.aload_n 0, 1) := by decide +kernel
theorem dX8_held_5 : decode cX8_held 5 = .ok (.iload_n 2, 1) := by decide +kernel
theorem dX8_held_6 : decode cX8_held 6 = .ok (.invokevirtual 55, 3) := by decide +kernel
theorem dX8_held_9 : decode cX8_held 9 = .ok (.aload_n 0, 1) := by decide +kernel
theorem dX8_held_10 : decode cX8_held 10 = .ok (.iload_n 2, 1) := by decide +kernel
theorem dX8_held_11 : decode cX8_held 11 = .ok (.iconst 2, 1) := by decide +kernel
theorem dX8_held_12 : decode cX8_held 12 = .ok (.invokevirtual 59, 3) := by decide +kernel
theorem dX8_held_15 : decode cX8_held 15 = .ok (.aload_n 0, 1) := by decide +kernel
theorem dX8_held_16 : decode cX8_held 16 = .ok (.iload_n 1, 1) := by decide +kernel
theorem dX8_held_17 : decode cX8_held 17 = .ok (.iload_n 2, 1) := by decide +kernel
theorem dX8_held_18 : decode cX8_held 18 = .ok (.invokevirtual 122, 3) := by decide +kernel
theorem dX8_held_21 : decode cX8_held 21 = .ok (.aload_n 0, 1) := by decide +kernel
theorem dX8_held_22 : decode cX8_held 22 = .ok (.getfield 22, 3) := by decide +kernel
theorem dX8_held_25 : decode cX8_held 25 = .ok (.getfield 130, 3) := by decide +kernel
theorem dX8_held_28 : decode cX8_held 28 = .ok (.iload_n 1, 1) := by decide +kernel
theorem dX8_held_29 : decode cX8_held 29 = .ok (.iload_n 2, 1) := by decide +kernel
theorem dX8_held_30 : decode cX8_held 30 = .ok (.iload_n 3, 1) := by decide +kernel
theorem dX8_held_31 : decode cX8_held 31 = .ok (.invokevirtual 140, 3) := by decide +kernel
theorem dX8_held_34 : decode cX8_held 34 = .ok (.ireturn, 1) := by decide +kernel
theorem dX8_award_0 : decode cX8_award 0 = .ok (.iload_n 1, 1) := by decide +kernel
theorem dX8_award_1 : decode cX8_award 1 = .ok (.invokestatic 80, 3) := by decide +kernel
theorem dX8_award_4 : decode cX8_award 4 = .ok (.aload_n 0, 1) := by decide +kernel
theorem dX8_award_5 : decode cX8_award 5 = .ok (.iload_n 2, 1) := by decide +kernel
theorem dX8_award_6 : decode cX8_award 6 = .ok (.invokevirtual 55, 3) := by decide +kernel
theorem dX8_award_9 : decode cX8_award 9 = .ok (.aload_n 0, 1) := by decide +kernel
theorem dX8_award_10 : decode cX8_award 10 = .ok (.iload_n 2, 1) := by decide +kernel
theorem dX8_award_11 : decode cX8_award 11 = .ok (.iconst 2, 1) := by decide +kernel
theorem dX8_award_12 : decode cX8_award 12 = .ok (.invokevirtual 59, 3) := by decide +kernel
theorem dX8_award_15 : decode cX8_award 15 = .ok (.iload_n 3, 1) := by decide +kernel
theorem dX8_award_16 : decode cX8_award 16 = .ok (.iconst (-1), 1) := by decide +kernel
theorem dX8_award_17 : decode cX8_award 17 = .ok (.ldc 144, 2) := by decide +kernel
theorem dX8_award_19 : decode cX8_award 19 = .ok (.invokestatic 26, 3) := by decide +kernel
theorem dX8_award_22 : decode cX8_award 22 = .ok (.aload_n 0, 1) := by decide +kernel
theorem dX8_award_23 : decode cX8_award 23 = .ok (.iload_n 1, 1) := by decide +kernel
theorem dX8_award_24 : decode cX8_award 24 = .ok (.iload_n 2, 1) := by decide +kernel
theorem dX8_award_25 : decode cX8_award 25 = .ok (.invokevirtual 122, 3) := by decide +kernel
theorem dX8_award_28 : decode cX8_award 28 = .ok (.aload_n 0, 1) := by decide +kernel
theorem dX8_award_29 : decode cX8_award 29 = .ok (.getfield 22, 3) := by decide +kernel
theorem dX8_award_32 : decode cX8_award 32 = .ok (.getfield 130, 3) := by decide +kernel
theorem dX8_award_35 : decode cX8_award 35 = .ok (.iload_n 1, 1) := by decide +kernel
theorem dX8_award_36 : decode cX8_award 36 = .ok (.iload_n 2, 1) := by decide +kernel
theorem dX8_award_37 : decode cX8_award 37 = .ok (.iload_n 3, 1) := by decide +kernel
theorem dX8_award_38 : decode cX8_award 38 = .ok (.invokevirtual 145, 3) := by decide +kernel
theorem dX8_award_41 : decode cX8_award 41 = .ok (.ireturn, 1) := by decide +kernel
theorem dX8_time_0 : decode cX8_time 0 = .ok (.iload_n 1, 1) := by decide +kernel
theorem dX8_time_1 : decode cX8_time 1 = .ok (.invokestatic 80, 3) := by decide +kernel
theorem dX8_time_4 : decode cX8_time 4 = .ok (.aload_n 0, 1) := by decide +kernel
theorem dX8_time_5 : decode cX8_time 5 = .ok (.iload_n 2, 1) := by decide +kernel
theorem dX8_time_6 : decode cX8_time 6 = .ok (.invokevirtual 55, 3) := by decide +kernel
theorem dX8_time_9 : decode cX8_time 9 = .ok (.aload_n 0, 1) := by decide +kernel
theorem dX8_time_10 : decode cX8_time 10 = .ok (.iload_n 2, 1) := by decide +kernel
theorem dX8_time_11 : decode cX8_time 11 = .ok (.iconst 2, 1) := by decide +kernel
theorem dX8_time_12 : decode cX8_time 12 = .ok (.invokevirtual 59, 3) := by decide +kernel
theorem dX8_time_15 : decode cX8_time 15 = .ok (.aload_n 0, 1) := by decide +kernel
theorem dX8_time_16 : decode cX8_time 16 = .ok (.getfield 22, 3) := by decide +kernel
theorem dX8_time_19 : decode cX8_time 19 = .ok (.getfield 130, 3) := by decide +kernel
theorem dX8_time_22 : decode cX8_time 22 = .ok (.iload_n 1, 1) := by decide +kernel
theorem dX8_time_23 : decode cX8_time 23 = .ok (.iload_n 2, 1) := by decide +kernel
theorem dX8_time_24 : decode cX8_time 24 = .ok (.invokevirtual 148, 3) := by decide +kernel
theorem dX8_time_27 : decode cX8_time 27 = .ok (.ireturn, 1) := by decide +kernel
theorem dX8_allocate_0 : decode cX8_allocate 0 = .ok (.iload_n 1, 1) := by decide +kernel
theorem dX8_allocate_1 : decode cX8_allocate 1 = .ok (.invokestatic 80, 3) := by decide +kernel
theorem dX8_allocate_4 : decode cX8_allocate 4 = .ok (.iload_n 2, 1) := by decide +kernel
theorem dX8_allocate_5 : decode cX8_allocate 5 = .ok (.iconst 0, 1) := by decide +kernel
theorem dX8_allocate_6 : decode cX8_allocate 6 = .ok (.bipush 99, 2) := by decide +kernel
theorem dX8_allocate_8 : decode cX8_allocate 8 = .ok (.invokestatic 26, 3) := by decide +kernel
theorem dX8_allocate_11 : decode cX8_allocate 11 = .ok (.aload_n 0, 1) := by decide +kernel
theorem dX8_allocate_12 : decode cX8_allocate 12 = .ok (.getfield 22, 3) := by decide +kernel
theorem dX8_allocate_15 : decode cX8_allocate 15 = .ok (.getfield 151, 3) := by decide +kernel
theorem dX8_allocate_18 : decode cX8_allocate 18 = .ok (.iload_n 1, 1) := by decide +kernel
theorem dX8_allocate_19 : decode cX8_allocate 19 = .ok (.iload_n 2, 1) := by decide +kernel
theorem dX8_allocate_20 : decode cX8_allocate 20 = .ok (.invokevirtual 155, 3) := by decide +kernel
theorem dX8_allocate_23 : decode cX8_allocate 23 = .ok (.ifCond .ne 13, 3) := by decide +kernel
theorem dX8_allocate_26 : decode cX8_allocate 26 = .ok (.new 44, 3) := by decide +kernel
theorem dX8_allocate_29 : decode cX8_allocate 29 = .ok (.dup, 1) := by decide +kernel
theorem dX8_allocate_30 : decode cX8_allocate 30 = .ok (.ldc 159, 2) := by decide +kernel
theorem dX8_allocate_32 : decode cX8_allocate 32 = .ok (.invokespecial 48, 3) := by decide +kernel
theorem dX8_allocate_35 : decode cX8_allocate 35 = .ok (.athrow, 1) := by decide +kernel
theorem dX8_allocate_36 : decode cX8_allocate 36 = .ok (.aload_n 0, 1) := by decide +kernel
theorem dX8_allocate_37 : decode cX8_allocate 37 = .ok (.getfield 22, 3) := by decide +kernel
theorem dX8_allocate_40 : decode cX8_allocate 40 = .ok (.getfield 151, 3) := by decide +kernel
theorem dX8_allocate_43 : decode cX8_allocate 43 = .ok (.iload_n 1, 1) := by decide +kernel
theorem dX8_allocate_44 : decode cX8_allocate 44 = .ok (.iload_n 2, 1) := by decide +kernel
theorem dX8_allocate_45 : decode cX8_allocate 45 = .ok (.invokevirtual 161, 3) := by decide +kernel
theorem dX8_allocate_48 : decode cX8_allocate 48 = .ok (.ireturn, 1) := by decide +kernel
theorem dX8_seen_0 : decode cX8_seen 0 = .ok (.iload_n 1, 1) := by decide +kernel
theorem dX8_seen_1 : decode cX8_seen 1 = .ok (.invokestatic 80, 3) := by decide +kernel
theorem dX8_seen_4 : decode cX8_seen 4 = .ok (.iload_n 2, 1) := by decide +kernel
theorem dX8_seen_5 : decode cX8_seen 5 = .ok (.iconst 0, 1) := by decide +kernel
theorem dX8_seen_6 : decode cX8_seen 6 = .ok (.bipush 99, 2) := by decide +kernel
theorem dX8_seen_8 : decode cX8_seen 8 = .ok (.invokestatic 26, 3) := by decide +kernel
theorem dX8_seen_11 : decode cX8_seen 11 = .ok (.aload_n 0, 1) := by decide +kernel
theorem dX8_seen_12 : decode cX8_seen 12 = .ok (.getfield 22, 3) := by decide +kernel
theorem dX8_seen_15 : decode cX8_seen 15 = .ok (.getfield 151, 3) := by decide +kernel
theorem dX8_seen_18 : decode cX8_seen 18 = .ok (.iload_n 1, 1) := by decide +kernel
theorem dX8_seen_19 : decode cX8_seen 19 = .ok (.iload_n 2, 1) := by decide +kernel
theorem dX8_seen_20 : decode cX8_seen 20 = .ok (.invokevirtual 162, 3) := by decide +kernel
theorem dX8_seen_23 : decode cX8_seen 23 = .ok (.ireturn, 1) := by decide +kernel
theorem dX8_retire_0 : decode cX8_retire 0 = .ok (.iload_n 1, 1) := by decide +kernel
theorem dX8_retire_1 : decode cX8_retire 1 = .ok (.invokestatic 80, 3) := by decide +kernel
theorem dX8_retire_4 : decode cX8_retire 4 = .ok (.aload_n 0, 1) := by decide +kernel
theorem dX8_retire_5 : decode cX8_retire 5 = .ok (.getfield 22, 3) := by decide +kernel
theorem dX8_retire_8 : decode cX8_retire 8 = .ok (.getfield 86, 3) := by decide +kernel
theorem dX8_retire_11 : decode cX8_retire 11 = .ok (.iload_n 1, 1) := by decide +kernel
theorem dX8_retire_12 : decode cX8_retire 12 = .ok (.invokevirtual 90, 3) := by decide +kernel
theorem dX8_retire_15 : decode cX8_retire 15 = .ok (.ifCond .ne 13, 3) := by decide +kernel
theorem dX8_retire_18 : decode cX8_retire 18 = .ok (.new 44, 3) := by decide +kernel
theorem dX8_retire_21 : decode cX8_retire 21 = .ok (.dup, 1) := by decide +kernel
theorem dX8_retire_22 : decode cX8_retire 22 = .ok (.ldc 165, 2) := by decide +kernel
theorem dX8_retire_24 : decode cX8_retire 24 = .ok (.invokespecial 48, 3) := by decide +kernel
theorem dX8_retire_27 : decode cX8_retire 27 = .ok (.athrow, 1) := by decide +kernel
theorem dX8_retire_28 : decode cX8_retire 28 = .ok (.aload_n 0, 1) := by decide +kernel
theorem dX8_retire_29 : decode cX8_retire 29 = .ok (.getfield 22, 3) := by decide +kernel
theorem dX8_retire_32 : decode cX8_retire 32 = .ok (.getfield 86, 3) := by decide +kernel
theorem dX8_retire_35 : decode cX8_retire 35 = .ok (.iload_n 1, 1) := by decide +kernel
theorem dX8_retire_36 : decode cX8_retire 36 = .ok (.iload_n 2, 1) := by decide +kernel
theorem dX8_retire_37 : decode cX8_retire 37 = .ok (.invokevirtual 167, 3) := by decide +kernel
theorem dX8_retire_40 : decode cX8_retire 40 = .ok (.return_, 1) := by decide +kernel
theorem dX8_car_0 : decode cX8_car 0 = .ok (.iload_n 1, 1) := by decide +kernel
theorem dX8_car_1 : decode cX8_car 1 = .ok (.invokestatic 80, 3) := by decide +kernel
theorem dX8_car_4 : decode cX8_car 4 = .ok (.iload_n 2, 1) := by decide +kernel
theorem dX8_car_5 : decode cX8_car 5 = .ok (.iconst 0, 1) := by decide +kernel
theorem dX8_car_6 : decode cX8_car 6 = .ok (.iconst 5, 1) := by decide +kernel
theorem dX8_car_7 : decode cX8_car 7 = .ok (.invokestatic 26, 3) := by decide +kernel
theorem dX8_car_10 : decode cX8_car 10 = .ok (.iload_n 2, 1) := by decide +kernel
theorem dX8_car_11 : decode cX8_car 11 = .ok (.tableswitch 109 0 4 #[33, 45, 57, 77, 97], 33) := by decide +kernel
theorem dX8_car_44 : decode cX8_car 44 = .ok (.aload_n 0, 1) := by decide +kernel
theorem dX8_car_45 : decode cX8_car 45 = .ok (.getfield 22, 3) := by decide +kernel
theorem dX8_car_48 : decode cX8_car 48 = .ok (.getfield 171, 3) := by decide +kernel
theorem dX8_car_51 : decode cX8_car 51 = .ok (.iload_n 1, 1) := by decide +kernel
theorem dX8_car_52 : decode cX8_car 52 = .ok (.invokevirtual 175, 3) := by decide +kernel
theorem dX8_car_55 : decode cX8_car 55 = .ok (.ireturn, 1) := by decide +kernel
theorem dX8_car_56 : decode cX8_car 56 = .ok (.aload_n 0, 1) := by decide +kernel
theorem dX8_car_57 : decode cX8_car 57 = .ok (.getfield 22, 3) := by decide +kernel
theorem dX8_car_60 : decode cX8_car 60 = .ok (.getfield 86, 3) := by decide +kernel
theorem dX8_car_63 : decode cX8_car 63 = .ok (.iload_n 1, 1) := by decide +kernel
theorem dX8_car_64 : decode cX8_car 64 = .ok (.invokevirtual 180, 3) := by decide +kernel
theorem dX8_car_67 : decode cX8_car 67 = .ok (.ireturn, 1) := by decide +kernel
theorem dX8_car_68 : decode cX8_car 68 = .ok (.aload_n 0, 1) := by decide +kernel
theorem dX8_car_69 : decode cX8_car 69 = .ok (.getfield 22, 3) := by decide +kernel
theorem dX8_car_72 : decode cX8_car 72 = .ok (.getfield 86, 3) := by decide +kernel
theorem dX8_car_75 : decode cX8_car 75 = .ok (.iload_n 1, 1) := by decide +kernel
theorem dX8_car_76 : decode cX8_car 76 = .ok (.invokevirtual 183, 3) := by decide +kernel
theorem dX8_car_79 : decode cX8_car 79 = .ok (.ifCond .eq 7, 3) := by decide +kernel
theorem dX8_car_82 : decode cX8_car 82 = .ok (.iconst 1, 1) := by decide +kernel
theorem dX8_car_83 : decode cX8_car 83 = .ok (.goto 4, 3) := by decide +kernel
theorem dX8_car_86 : decode cX8_car 86 = .ok (.iconst 0, 1) := by decide +kernel
theorem dX8_car_87 : decode cX8_car 87 = .ok (.ireturn, 1) := by decide +kernel
theorem dX8_car_88 : decode cX8_car 88 = .ok (.aload_n 0, 1) := by decide +kernel
theorem dX8_car_89 : decode cX8_car 89 = .ok (.getfield 22, 3) := by decide +kernel
theorem dX8_car_92 : decode cX8_car 92 = .ok (.getfield 86, 3) := by decide +kernel
theorem dX8_car_95 : decode cX8_car 95 = .ok (.iload_n 1, 1) := by decide +kernel
theorem dX8_car_96 : decode cX8_car 96 = .ok (.invokevirtual 186, 3) := by decide +kernel
theorem dX8_car_99 : decode cX8_car 99 = .ok (.ifCond .eq 7, 3) := by decide +kernel
theorem dX8_car_102 : decode cX8_car 102 = .ok (.iconst 1, 1) := by decide +kernel
theorem dX8_car_103 : decode cX8_car 103 = .ok (.goto 4, 3) := by decide +kernel
theorem dX8_car_106 : decode cX8_car 106 = .ok (.iconst 0, 1) := by decide +kernel
theorem dX8_car_107 : decode cX8_car 107 = .ok (.ireturn, 1) := by decide +kernel
theorem dX8_car_108 : decode cX8_car 108 = .ok (.aload_n 0, 1) := by decide +kernel
theorem dX8_car_109 : decode cX8_car 109 = .ok (.getfield 22, 3) := by decide +kernel
theorem dX8_car_112 : decode cX8_car 112 = .ok (.getfield 171, 3) := by decide +kernel
theorem dX8_car_115 : decode cX8_car 115 = .ok (.iload_n 1, 1) := by decide +kernel
theorem dX8_car_116 : decode cX8_car 116 = .ok (.invokevirtual 189, 3) := by decide +kernel
theorem dX8_car_119 : decode cX8_car 119 = .ok (.ireturn, 1) := by decide +kernel
theorem dX8_car_120 : decode cX8_car 120 = .ok (.aload_n 0, 1) := by decide +kernel
theorem dX8_car_121 : decode cX8_car 121 = .ok (.getfield 22, 3) := by decide +kernel
theorem dX8_car_124 : decode cX8_car 124 = .ok (.getfield 171, 3) := by decide +kernel
theorem dX8_car_127 : decode cX8_car 127 = .ok (.iconst 0, 1) := by decide +kernel
theorem dX8_car_128 : decode cX8_car 128 = .ok (.invokevirtual 192, 3) := by decide +kernel
theorem dX8_car_131 : decode cX8_car 131 = .ok (.aload_n 0, 1) := by decide +kernel
theorem dX8_car_132 : decode cX8_car 132 = .ok (.getfield 22, 3) := by decide +kernel
theorem dX8_car_135 : decode cX8_car 135 = .ok (.getfield 171, 3) := by decide +kernel
theorem dX8_car_138 : decode cX8_car 138 = .ok (.iload_n 1, 1) := by decide +kernel
theorem dX8_car_139 : decode cX8_car 139 = .ok (.invokevirtual 196, 3) := by decide +kernel
theorem dX8_car_142 : decode cX8_car 142 = .ok (.ireturn, 1) := by decide +kernel
theorem dX8_totalAnew_0 : decode cX8_totalAnew 0 = .ok (.iload_n 1, 1) := by decide +kernel
theorem dX8_totalAnew_1 : decode cX8_totalAnew 1 = .ok (.invokestatic 80, 3) := by decide +kernel
theorem dX8_totalAnew_4 : decode cX8_totalAnew 4 = .ok (.aload_n 0, 1) := by decide +kernel
theorem dX8_totalAnew_5 : decode cX8_totalAnew 5 = .ok (.getfield 22, 3) := by decide +kernel
theorem dX8_totalAnew_8 : decode cX8_totalAnew 8 = .ok (.getfield 130, 3) := by decide +kernel
theorem dX8_totalAnew_11 : decode cX8_totalAnew 11 = .ok (.invokevirtual 198, 3) := by decide +kernel
theorem dX8_totalAnew_14 : decode cX8_totalAnew 14 = .ok (.aload_n 0, 1) := by decide +kernel
theorem dX8_totalAnew_15 : decode cX8_totalAnew 15 = .ok (.getfield 22, 3) := by decide +kernel
theorem dX8_totalAnew_18 : decode cX8_totalAnew 18 = .ok (.getfield 171, 3) := by decide +kernel
theorem dX8_totalAnew_21 : decode cX8_totalAnew 21 = .ok (.iload_n 1, 1) := by decide +kernel
theorem dX8_totalAnew_22 : decode cX8_totalAnew 22 = .ok (.invokevirtual 201, 3) := by decide +kernel
theorem dX8_totalAnew_25 : decode cX8_totalAnew 25 = .ok (.ireturn, 1) := by decide +kernel
theorem dX8_ranked_0 : decode cX8_ranked 0 = .ok (.iload_n 1, 1) := by decide +kernel
theorem dX8_ranked_1 : decode cX8_ranked 1 = .ok (.iconst 0, 1) := by decide +kernel
theorem dX8_ranked_2 : decode cX8_ranked 2 = .ok (.bipush 9, 2) := by decide +kernel
theorem dX8_ranked_4 : decode cX8_ranked 4 = .ok (.invokestatic 26, 3) := by decide +kernel
theorem dX8_ranked_7 : decode cX8_ranked 7 = .ok (.aload_n 0, 1) := by decide +kernel
theorem dX8_ranked_8 : decode cX8_ranked 8 = .ok (.getfield 22, 3) := by decide +kernel
theorem dX8_ranked_11 : decode cX8_ranked 11 = .ok (.getfield 171, 3) := by decide +kernel
theorem dX8_ranked_14 : decode cX8_ranked 14 = .ok (.iconst 0, 1) := by decide +kernel
theorem dX8_ranked_15 : decode cX8_ranked 15 = .ok (.invokevirtual 192, 3) := by decide +kernel
theorem dX8_ranked_18 : decode cX8_ranked 18 = .ok (.aload_n 0, 1) := by decide +kernel
theorem dX8_ranked_19 : decode cX8_ranked 19 = .ok (.getfield 22, 3) := by decide +kernel
theorem dX8_ranked_22 : decode cX8_ranked 22 = .ok (.getfield 171, 3) := by decide +kernel
theorem dX8_ranked_25 : decode cX8_ranked 25 = .ok (.iload_n 1, 1) := by decide +kernel
theorem dX8_ranked_26 : decode cX8_ranked 26 = .ok (.invokevirtual 204, 3) := by decide +kernel
theorem dX8_ranked_29 : decode cX8_ranked 29 = .ok (.ireturn, 1) := by decide +kernel
theorem dX8_close_0 : decode cX8_close 0 = .ok (.aload_n 0, 1) := by decide +kernel
theorem dX8_close_1 : decode cX8_close 1 = .ok (.getfield 10, 3) := by decide +kernel
theorem dX8_close_4 : decode cX8_close 4 = .ok (.invokevirtual 206, 3) := by decide +kernel
theorem dX8_close_7 : decode cX8_close 7 = .ok (.ifCond .ne 13, 3) := by decide +kernel
theorem dX8_close_10 : decode cX8_close 10 = .ok (.aload_n 0, 1) := by decide +kernel
theorem dX8_close_11 : decode cX8_close 11 = .ok (.getfield 22, 3) := by decide +kernel
theorem dX8_close_14 : decode cX8_close 14 = .ok (.invokevirtual 30, 3) := by decide +kernel
theorem dX8_close_17 : decode cX8_close 17 = .ok (.ifCond .ne 13, 3) := by decide +kernel
theorem dX8_close_20 : decode cX8_close 20 = .ok (.new 44, 3) := by decide +kernel
theorem dX8_close_23 : decode cX8_close 23 = .ok (.dup, 1) := by decide +kernel
theorem dX8_close_24 : decode cX8_close 24 = .ok (.ldc 209, 2) := by decide +kernel
theorem dX8_close_26 : decode cX8_close 26 = .ok (.invokespecial 48, 3) := by decide +kernel
theorem dX8_close_29 : decode cX8_close 29 = .ok (.athrow, 1) := by decide +kernel
theorem dX8_close_30 : decode cX8_close 30 = .ok (.aload_n 0, 1) := by decide +kernel
theorem dX8_close_31 : decode cX8_close 31 = .ok (.getfield 22, 3) := by decide +kernel
theorem dX8_close_34 : decode cX8_close 34 = .ok (.getfield 171, 3) := by decide +kernel
theorem dX8_close_37 : decode cX8_close 37 = .ok (.iconst 0, 1) := by decide +kernel
theorem dX8_close_38 : decode cX8_close 38 = .ok (.invokevirtual 192, 3) := by decide +kernel
theorem dX8_close_41 : decode cX8_close 41 = .ok (.iconst 0, 1) := by decide +kernel
theorem dX8_close_42 : decode cX8_close 42 = .ok (.istore_n 1, 1) := by decide +kernel
theorem dX8_close_43 : decode cX8_close 43 = .ok (.iload_n 1, 1) := by decide +kernel
theorem dX8_close_44 : decode cX8_close 44 = .ok (.bipush 10, 2) := by decide +kernel
theorem dX8_close_46 : decode cX8_close 46 = .ok (.if_icmp .ge 28, 3) := by decide +kernel
theorem dX8_close_49 : decode cX8_close 49 = .ok (.aload_n 0, 1) := by decide +kernel
theorem dX8_close_50 : decode cX8_close 50 = .ok (.getfield 10, 3) := by decide +kernel
theorem dX8_close_53 : decode cX8_close 53 = .ok (.iload_n 1, 1) := by decide +kernel
theorem dX8_close_54 : decode cX8_close 54 = .ok (.aload_n 0, 1) := by decide +kernel
theorem dX8_close_55 : decode cX8_close 55 = .ok (.getfield 22, 3) := by decide +kernel
theorem dX8_close_58 : decode cX8_close 58 = .ok (.getfield 171, 3) := by decide +kernel
theorem dX8_close_61 : decode cX8_close 61 = .ok (.iload_n 1, 1) := by decide +kernel
theorem dX8_close_62 : decode cX8_close 62 = .ok (.invokevirtual 196, 3) := by decide +kernel
theorem dX8_close_65 : decode cX8_close 65 = .ok (.invokevirtual 211, 3) := by decide +kernel
theorem dX8_close_68 : decode cX8_close 68 = .ok (.iinc 1 1, 3) := by decide +kernel
theorem dX8_close_71 : decode cX8_close 71 = .ok (.goto (-28), 3) := by decide +kernel
theorem dX8_close_74 : decode cX8_close 74 = .ok (.aload_n 0, 1) := by decide +kernel
theorem dX8_close_75 : decode cX8_close 75 = .ok (.invokestatic 16, 3) := by decide +kernel
theorem dX8_close_78 : decode cX8_close 78 = .ok (.putfield 22, 3) := by decide +kernel
theorem dX8_close_81 : decode cX8_close 81 = .ok (.aload_n 0, 1) := by decide +kernel
theorem dX8_close_82 : decode cX8_close 82 = .ok (.getfield 10, 3) := by decide +kernel
theorem dX8_close_85 : decode cX8_close 85 = .ok (.invokevirtual 214, 3) := by decide +kernel
theorem dX8_close_88 : decode cX8_close 88 = .ok (.ireturn, 1) := by decide +kernel
theorem dX8_points_0 : decode cX8_points 0 = .ok (.iload_n 1, 1) := by decide +kernel
theorem dX8_points_1 : decode cX8_points 1 = .ok (.invokestatic 80, 3) := by decide +kernel
theorem dX8_points_4 : decode cX8_points 4 = .ok (.aload_n 0, 1) := by decide +kernel
theorem dX8_points_5 : decode cX8_points 5 = .ok (.getfield 10, 3) := by decide +kernel
theorem dX8_points_8 : decode cX8_points 8 = .ok (.iload_n 1, 1) := by decide +kernel
theorem dX8_points_9 : decode cX8_points 9 = .ok (.invokevirtual 218, 3) := by decide +kernel
theorem dX8_points_12 : decode cX8_points 12 = .ok (.ireturn, 1) := by decide +kernel
theorem dX8_table_0 : decode cX8_table 0 = .ok (.iload_n 1, 1) := by decide +kernel
theorem dX8_table_1 : decode cX8_table 1 = .ok (.iconst 0, 1) := by decide +kernel
theorem dX8_table_2 : decode cX8_table 2 = .ok (.bipush 9, 2) := by decide +kernel
theorem dX8_table_4 : decode cX8_table 4 = .ok (.invokestatic 26, 3) := by decide +kernel
theorem dX8_table_7 : decode cX8_table 7 = .ok (.aload_n 0, 1) := by decide +kernel
theorem dX8_table_8 : decode cX8_table 8 = .ok (.getfield 10, 3) := by decide +kernel
theorem dX8_table_11 : decode cX8_table 11 = .ok (.iload_n 1, 1) := by decide +kernel
theorem dX8_table_12 : decode cX8_table 12 = .ok (.invokevirtual 221, 3) := by decide +kernel
theorem dX8_table_15 : decode cX8_table 15 = .ok (.ireturn, 1) := by decide +kernel
theorem dX8_needCar_0 : decode cX8_needCar 0 = .ok (.iload_n 0, 1) := by decide +kernel
theorem dX8_needCar_1 : decode cX8_needCar 1 = .ok (.ifCond .lt 9, 3) := by decide +kernel
theorem dX8_needCar_4 : decode cX8_needCar 4 = .ok (.iload_n 0, 1) := by decide +kernel
theorem dX8_needCar_5 : decode cX8_needCar 5 = .ok (.bipush 10, 2) := by decide +kernel
theorem dX8_needCar_7 : decode cX8_needCar 7 = .ok (.if_icmp .lt 13, 3) := by decide +kernel
theorem dX8_needCar_10 : decode cX8_needCar 10 = .ok (.new 222, 3) := by decide +kernel
theorem dX8_needCar_13 : decode cX8_needCar 13 = .ok (.dup, 1) := by decide +kernel
theorem dX8_needCar_14 : decode cX8_needCar 14 = .ok (.ldc 224, 2) := by decide +kernel
theorem dX8_needCar_16 : decode cX8_needCar 16 = .ok (.invokespecial 226, 3) := by decide +kernel
theorem dX8_needCar_19 : decode cX8_needCar 19 = .ok (.athrow, 1) := by decide +kernel
theorem dX8_needCar_20 : decode cX8_needCar 20 = .ok (.return_, 1) := by decide +kernel
theorem dX8_needItem_0 : decode cX8_needItem 0 = .ok (.aload_n 0, 1) := by decide +kernel
theorem dX8_needItem_1 : decode cX8_needItem 1 = .ok (.getfield 22, 3) := by decide +kernel
theorem dX8_needItem_4 : decode cX8_needItem 4 = .ok (.getfield 34, 3) := by decide +kernel
theorem dX8_needItem_7 : decode cX8_needItem 7 = .ok (.iload_n 1, 1) := by decide +kernel
theorem dX8_needItem_8 : decode cX8_needItem 8 = .ok (.invokevirtual 227, 3) := by decide +kernel
theorem dX8_needItem_11 : decode cX8_needItem 11 = .ok (.ifCond .ne 13, 3) := by decide +kernel
theorem dX8_needItem_14 : decode cX8_needItem 14 = .ok (.new 222, 3) := by decide +kernel
theorem dX8_needItem_17 : decode cX8_needItem 17 = .ok (.dup, 1) := by decide +kernel
theorem dX8_needItem_18 : decode cX8_needItem 18 = .ok (.ldc 230, 2) := by decide +kernel
theorem dX8_needItem_20 : decode cX8_needItem 20 = .ok (.invokespecial 226, 3) := by decide +kernel
theorem dX8_needItem_23 : decode cX8_needItem 23 = .ok (.athrow, 1) := by decide +kernel
theorem dX8_needItem_24 : decode cX8_needItem 24 = .ok (.return_, 1) := by decide +kernel
theorem dX8_needRange_0 : decode cX8_needRange 0 = .ok (.iload_n 0, 1) := by decide +kernel
theorem dX8_needRange_1 : decode cX8_needRange 1 = .ok (.iload_n 1, 1) := by decide +kernel
theorem dX8_needRange_2 : decode cX8_needRange 2 = .ok (.if_icmp .lt 8, 3) := by decide +kernel
theorem dX8_needRange_5 : decode cX8_needRange 5 = .ok (.iload_n 0, 1) := by decide +kernel
theorem dX8_needRange_6 : decode cX8_needRange 6 = .ok (.iload_n 2, 1) := by decide +kernel
theorem dX8_needRange_7 : decode cX8_needRange 7 = .ok (.if_icmp .le 13, 3) := by decide +kernel
theorem dX8_needRange_10 : decode cX8_needRange 10 = .ok (.new 232, 3) := by decide +kernel
theorem dX8_needRange_13 : decode cX8_needRange 13 = .ok (.dup, 1) := by decide +kernel
theorem dX8_needRange_14 : decode cX8_needRange 14 = .ok (.ldc 234, 2) := by decide +kernel
theorem dX8_needRange_16 : decode cX8_needRange 16 = .ok (.invokespecial 236, 3) := by decide +kernel
theorem dX8_needRange_19 : decode cX8_needRange 19 = .ok (.athrow, 1) := by decide +kernel
theorem dX8_needRange_20 : decode cX8_needRange 20 = .ok (.return_, 1) := by decide +kernel
theorem dX8_needKind_0 : decode cX8_needKind 0 = .ok (.aload_n 0, 1) := by decide +kernel
theorem dX8_needKind_1 : decode cX8_needKind 1 = .ok (.getfield 22, 3) := by decide +kernel
theorem dX8_needKind_4 : decode cX8_needKind 4 = .ok (.getfield 34, 3) := by decide +kernel
theorem dX8_needKind_7 : decode cX8_needKind 7 = .ok (.iload_n 1, 1) := by decide +kernel
theorem dX8_needKind_8 : decode cX8_needKind 8 = .ok (.invokevirtual 237, 3) := by decide +kernel
theorem dX8_needKind_11 : decode cX8_needKind 11 = .ok (.iload_n 2, 1) := by decide +kernel
theorem dX8_needKind_12 : decode cX8_needKind 12 = .ok (.if_icmp .eq 13, 3) := by decide +kernel
theorem dX8_needKind_15 : decode cX8_needKind 15 = .ok (.new 232, 3) := by decide +kernel
theorem dX8_needKind_18 : decode cX8_needKind 18 = .ok (.dup, 1) := by decide +kernel
theorem dX8_needKind_19 : decode cX8_needKind 19 = .ok (.ldc 240, 2) := by decide +kernel
theorem dX8_needKind_21 : decode cX8_needKind 21 = .ok (.invokespecial 236, 3) := by decide +kernel
theorem dX8_needKind_24 : decode cX8_needKind 24 = .ok (.athrow, 1) := by decide +kernel
theorem dX8_needKind_25 : decode cX8_needKind 25 = .ok (.return_, 1) := by decide +kernel
theorem dX8_needControl_0 : decode cX8_needControl 0 = .ok (.aload_n 0, 1) := by decide +kernel
theorem dX8_needControl_1 : decode cX8_needControl 1 = .ok (.getfield 22, 3) := by decide +kernel
theorem dX8_needControl_4 : decode cX8_needControl 4 = .ok (.getfield 34, 3) := by decide +kernel
theorem dX8_needControl_7 : decode cX8_needControl 7 = .ok (.iload_n 1, 1) := by decide +kernel
theorem dX8_needControl_8 : decode cX8_needControl 8 = .ok (.invokevirtual 237, 3) := by decide +kernel
theorem dX8_needControl_11 : decode cX8_needControl 11 = .ok (.iconst 2, 1) := by decide +kernel
theorem dX8_needControl_12 : decode cX8_needControl 12 = .ok (.if_icmp .ne 13, 3) := by decide +kernel
theorem dX8_needControl_15 : decode cX8_needControl 15 = .ok (.new 232, 3) := by decide +kernel
theorem dX8_needControl_18 : decode cX8_needControl 18 = .ok (.dup, 1) := by decide +kernel
theorem dX8_needControl_19 : decode cX8_needControl 19 = .ok (.ldc 242, 2) := by decide +kernel
theorem dX8_needControl_21 : decode cX8_needControl 21 = .ok (.invokespecial 236, 3) := by decide +kernel
theorem dX8_needControl_24 : decode cX8_needControl 24 = .ok (.athrow, 1) := by decide +kernel
theorem dX8_needControl_25 : decode cX8_needControl 25 = .ok (.return_, 1) := by decide +kernel
theorem dX8_needStart_0 : decode cX8_needStart 0 = .ok (.aload_n 0, 1) := by decide +kernel
theorem dX8_needStart_1 : decode cX8_needStart 1 = .ok (.getfield 22, 3) := by decide +kernel
theorem dX8_needStart_4 : decode cX8_needStart 4 = .ok (.getfield 86, 3) := by decide +kernel
theorem dX8_needStart_7 : decode cX8_needStart 7 = .ok (.iload_n 1, 1) := by decide +kernel
theorem dX8_needStart_8 : decode cX8_needStart 8 = .ok (.aload_n 0, 1) := by decide +kernel
theorem dX8_needStart_9 : decode cX8_needStart 9 = .ok (.getfield 22, 3) := by decide +kernel
theorem dX8_needStart_12 : decode cX8_needStart 12 = .ok (.getfield 34, 3) := by decide +kernel
theorem dX8_needStart_15 : decode cX8_needStart 15 = .ok (.iload_n 2, 1) := by decide +kernel
theorem dX8_needStart_16 : decode cX8_needStart 16 = .ok (.invokevirtual 244, 3) := by decide +kernel
theorem dX8_needStart_19 : decode cX8_needStart 19 = .ok (.invokevirtual 247, 3) := by decide +kernel
theorem dX8_needStart_22 : decode cX8_needStart 22 = .ok (.iconst (-1), 1) := by decide +kernel
theorem dX8_needStart_23 : decode cX8_needStart 23 = .ok (.if_icmp .ne 13, 3) := by decide +kernel
theorem dX8_needStart_26 : decode cX8_needStart 26 = .ok (.new 44, 3) := by decide +kernel
theorem dX8_needStart_29 : decode cX8_needStart 29 = .ok (.dup, 1) := by decide +kernel
theorem dX8_needStart_30 : decode cX8_needStart 30 = .ok (.ldc 250, 2) := by decide +kernel
theorem dX8_needStart_32 : decode cX8_needStart 32 = .ok (.invokespecial 48, 3) := by decide +kernel
theorem dX8_needStart_35 : decode cX8_needStart 35 = .ok (.athrow, 1) := by decide +kernel
theorem dX8_needStart_36 : decode cX8_needStart 36 = .ok (.return_, 1) := by decide +kernel
theorem dJ9_floorDiv_7cf53_0 : decode cJ9_floorDiv_7cf53 0 = .ok (.iload_n 0, 1) := by decide +kernel
theorem dJ9_floorDiv_7cf53_1 : decode cJ9_floorDiv_7cf53 1 = .ok (.iload_n 1, 1) := by decide +kernel
theorem dJ9_floorDiv_7cf53_2 : decode cJ9_floorDiv_7cf53 2 = .ok (.idiv, 1) := by decide +kernel
theorem dJ9_floorDiv_7cf53_3 : decode cJ9_floorDiv_7cf53 3 = .ok (.istore_n 2, 1) := by decide +kernel
theorem dJ9_floorDiv_7cf53_4 : decode cJ9_floorDiv_7cf53 4 = .ok (.iload_n 0, 1) := by decide +kernel
theorem dJ9_floorDiv_7cf53_5 : decode cJ9_floorDiv_7cf53 5 = .ok (.iload_n 1, 1) := by decide +kernel
theorem dJ9_floorDiv_7cf53_6 : decode cJ9_floorDiv_7cf53 6 = .ok (.ixor, 1) := by decide +kernel
theorem dJ9_floorDiv_7cf53_7 : decode cJ9_floorDiv_7cf53 7 = .ok (.ifCond .ge 14, 3) := by decide +kernel
theorem dJ9_floorDiv_7cf53_10 : decode cJ9_floorDiv_7cf53 10 = .ok (.iload_n 2, 1) := by decide +kernel
theorem dJ9_floorDiv_7cf53_11 : decode cJ9_floorDiv_7cf53 11 = .ok (.iload_n 1, 1) := by decide +kernel
theorem dJ9_floorDiv_7cf53_12 : decode cJ9_floorDiv_7cf53 12 = .ok (.imul, 1) := by decide +kernel
theorem dJ9_floorDiv_7cf53_13 : decode cJ9_floorDiv_7cf53 13 = .ok (.iload_n 0, 1) := by decide +kernel
theorem dJ9_floorDiv_7cf53_14 : decode cJ9_floorDiv_7cf53 14 = .ok (.if_icmp .eq 7, 3) := by decide +kernel
theorem dJ9_floorDiv_7cf53_17 : decode cJ9_floorDiv_7cf53 17 = .ok (.iload_n 2, 1) := by decide +kernel
theorem dJ9_floorDiv_7cf53_18 : decode cJ9_floorDiv_7cf53 18 = .ok (.iconst 1, 1) := by decide +kernel
theorem dJ9_floorDiv_7cf53_19 : decode cJ9_floorDiv_7cf53 19 = .ok (.isub, 1) := by decide +kernel
theorem dJ9_floorDiv_7cf53_20 : decode cJ9_floorDiv_7cf53 20 = .ok (.ireturn, 1) := by decide +kernel
theorem dJ9_floorDiv_7cf53_21 : decode cJ9_floorDiv_7cf53 21 = .ok (.iload_n 2, 1) := by decide +kernel
theorem dJ9_floorDiv_7cf53_22 : decode cJ9_floorDiv_7cf53 22 = .ok (.ireturn, 1) := by decide +kernel
theorem dJ9_max_7cf53_0 : decode cJ9_max_7cf53 0 = .ok (.iload_n 0, 1) := by decide +kernel
theorem dJ9_max_7cf53_1 : decode cJ9_max_7cf53 1 = .ok (.iload_n 1, 1) := by decide +kernel
theorem dJ9_max_7cf53_2 : decode cJ9_max_7cf53 2 = .ok (.if_icmp .lt 7, 3) := by decide +kernel
theorem dJ9_max_7cf53_5 : decode cJ9_max_7cf53 5 = .ok (.iload_n 0, 1) := by decide +kernel
theorem dJ9_max_7cf53_6 : decode cJ9_max_7cf53 6 = .ok (.goto 4, 3) := by decide +kernel
theorem dJ9_max_7cf53_9 : decode cJ9_max_7cf53 9 = .ok (.iload_n 1, 1) := by decide +kernel
theorem dJ9_max_7cf53_10 : decode cJ9_max_7cf53 10 = .ok (.ireturn, 1) := by decide +kernel
theorem dJ7_fill_53178_0 : decode cJ7_fill_53178 0 = .ok (.iconst 0, 1) := by decide +kernel
theorem dJ7_fill_53178_1 : decode cJ7_fill_53178 1 = .ok (.istore_n 2, 1) := by decide +kernel
theorem dJ7_fill_53178_2 : decode cJ7_fill_53178 2 = .ok (.aload_n 0, 1) := by decide +kernel
theorem dJ7_fill_53178_3 : decode cJ7_fill_53178 3 = .ok (.arraylength, 1) := by decide +kernel
theorem dJ7_fill_53178_4 : decode cJ7_fill_53178 4 = .ok (.istore_n 3, 1) := by decide +kernel
theorem dJ7_fill_53178_5 : decode cJ7_fill_53178 5 = .ok (.iload_n 2, 1) := by decide +kernel
theorem dJ7_fill_53178_6 : decode cJ7_fill_53178 6 = .ok (.iload_n 3, 1) := by decide +kernel
theorem dJ7_fill_53178_7 : decode cJ7_fill_53178 7 = .ok (.if_icmp .ge 13, 3) := by decide +kernel
theorem dJ7_fill_53178_10 : decode cJ7_fill_53178 10 = .ok (.aload_n 0, 1) := by decide +kernel
theorem dJ7_fill_53178_11 : decode cJ7_fill_53178 11 = .ok (.iload_n 2, 1) := by decide +kernel
theorem dJ7_fill_53178_12 : decode cJ7_fill_53178 12 = .ok (.iload_n 1, 1) := by decide +kernel
theorem dJ7_fill_53178_13 : decode cJ7_fill_53178 13 = .ok (.iastore, 1) := by decide +kernel
theorem dJ7_fill_53178_14 : decode cJ7_fill_53178 14 = .ok (.iinc 2 1, 3) := by decide +kernel
theorem dJ7_fill_53178_17 : decode cJ7_fill_53178 17 = .ok (.goto (-12), 3) := by decide +kernel
theorem dJ7_fill_53178_20 : decode cJ7_fill_53178 20 = .ok (.return_, 1) := by decide +kernel
theorem dL_draw_0 : decode cL_draw 0 = .ok (.iload_n 1, 1) := by decide +kernel
theorem dL_draw_1 : decode cL_draw 1 = .ok (.aload_n 0, 1) := by decide +kernel
theorem dL_draw_2 : decode cL_draw 2 = .ok (.arraylength, 1) := by decide +kernel
theorem dL_draw_3 : decode cL_draw 3 = .ok (.if_icmp .ge 12, 3) := by decide +kernel
theorem dL_draw_6 : decode cL_draw 6 = .ok (.aload_n 0, 1) := by decide +kernel
theorem dL_draw_7 : decode cL_draw 7 = .ok (.iload_n 1, 1) := by decide +kernel
theorem dL_draw_8 : decode cL_draw 8 = .ok (.iaload, 1) := by decide +kernel
theorem dL_draw_9 : decode cL_draw 9 = .ok (.ldc 7, 2) := by decide +kernel
theorem dL_draw_11 : decode cL_draw 11 = .ok (.iand, 1) := by decide +kernel
theorem dL_draw_12 : decode cL_draw 12 = .ok (.goto 12, 3) := by decide +kernel
theorem dL_draw_15 : decode cL_draw 15 = .ok (.ldc 8, 2) := by decide +kernel
theorem dL_draw_17 : decode cL_draw 17 = .ok (.iload_n 1, 1) := by decide +kernel
theorem dL_draw_18 : decode cL_draw 18 = .ok (.iconst 2, 1) := by decide +kernel
theorem dL_draw_19 : decode cL_draw 19 = .ok (.iadd, 1) := by decide +kernel
theorem dL_draw_20 : decode cL_draw 20 = .ok (.imul, 1) := by decide +kernel
theorem dL_draw_21 : decode cL_draw 21 = .ok (.ldc 9, 2) := by decide +kernel
theorem dL_draw_23 : decode cL_draw 23 = .ok (.irem, 1) := by decide +kernel
theorem dL_draw_24 : decode cL_draw 24 = .ok (.ireturn, 1) := by decide +kernel
theorem dL_items_0 : decode cL_items 0 = .ok (.aload_n 0, 1) := by decide +kernel
theorem dL_items_1 : decode cL_items 1 = .ok (.iload_n 1, 1) := by decide +kernel
theorem dL_items_2 : decode cL_items 2 = .ok (.iload_n 2, 1) := by decide +kernel
theorem dL_items_3 : decode cL_items 3 = .ok (.invokevirtual 10, 3) := by decide +kernel
theorem dL_items_6 : decode cL_items 6 = .ok (.ireturn, 1) := by decide +kernel
theorem dL_items_7 : decode cL_items 7 = .ok (.astore_n 3, 1) := by decide +kernel
theorem dL_items_8 : decode cL_items 8 = .ok (.bipush (-2), 2) := by decide +kernel
theorem dL_items_10 : decode cL_items 10 = .ok (.ireturn, 1) := by decide +kernel
theorem dL_opens_0 : decode cL_opens 0 = .ok (.aload_n 0, 1) := by decide +kernel
theorem dL_opens_1 : decode cL_opens 1 = .ok (.iload_n 1, 1) := by decide +kernel
theorem dL_opens_2 : decode cL_opens 2 = .ok (.iload_n 2, 1) := by decide +kernel
theorem dL_opens_3 : decode cL_opens 3 = .ok (.invokevirtual 18, 3) := by decide +kernel
theorem dL_opens_6 : decode cL_opens 6 = .ok (.ireturn, 1) := by decide +kernel
theorem dL_opens_7 : decode cL_opens 7 = .ok (.astore_n 3, 1) := by decide +kernel
theorem dL_opens_8 : decode cL_opens 8 = .ok (.bipush (-2), 2) := by decide +kernel
theorem dL_opens_10 : decode cL_opens 10 = .ok (.ireturn, 1) := by decide +kernel
theorem dL_stamps_0 : decode cL_stamps 0 = .ok (.aload_n 0, 1) := by decide +kernel
theorem dL_stamps_1 : decode cL_stamps 1 = .ok (.iload_n 1, 1) := by decide +kernel
theorem dL_stamps_2 : decode cL_stamps 2 = .ok (.iload_n 2, 1) := by decide +kernel
theorem dL_stamps_3 : decode cL_stamps 3 = .ok (.iload_n 3, 1) := by decide +kernel
theorem dL_stamps_4 : decode cL_stamps 4 = .ok (.invokevirtual 21, 3) := by decide +kernel
theorem dL_stamps_7 : decode cL_stamps 7 = .ok (.ireturn, 1) := by decide +kernel
theorem dL_stamps_8 : decode cL_stamps 8 = .ok (.astore 4, 2) := by decide +kernel
theorem dL_stamps_10 : decode cL_stamps 10 = .ok (.bipush (-2), 2) := by decide +kernel
theorem dL_stamps_12 : decode cL_stamps 12 = .ok (.ireturn, 1) := by decide +kernel
theorem dL_delays_0 : decode cL_delays 0 = .ok (.aload_n 0, 1) := by decide +kernel
theorem dL_delays_1 : decode cL_delays 1 = .ok (.iload_n 1, 1) := by decide +kernel
theorem dL_delays_2 : decode cL_delays 2 = .ok (.iload_n 2, 1) := by decide +kernel
theorem dL_delays_3 : decode cL_delays 3 = .ok (.iload_n 3, 1) := by decide +kernel
theorem dL_delays_4 : decode cL_delays 4 = .ok (.invokevirtual 25, 3) := by decide +kernel
theorem dL_delays_7 : decode cL_delays 7 = .ok (.ireturn, 1) := by decide +kernel
theorem dL_delays_8 : decode cL_delays 8 = .ok (.astore 4, 2) := by decide +kernel
theorem dL_delays_10 : decode cL_delays 10 = .ok (.bipush (-2), 2) := by decide +kernel
theorem dL_delays_12 : decode cL_delays 12 = .ok (.ireturn, 1) := by decide +kernel
theorem dL_finishes_0 : decode cL_finishes 0 = .ok (.aload_n 0, 1) := by decide +kernel
theorem dL_finishes_1 : decode cL_finishes 1 = .ok (.iload_n 1, 1) := by decide +kernel
theorem dL_finishes_2 : decode cL_finishes 2 = .ok (.iload_n 2, 1) := by decide +kernel
theorem dL_finishes_3 : decode cL_finishes 3 = .ok (.iload_n 3, 1) := by decide +kernel
theorem dL_finishes_4 : decode cL_finishes 4 = .ok (.iload 4, 2) := by decide +kernel
theorem dL_finishes_6 : decode cL_finishes 6 = .ok (.invokevirtual 28, 3) := by decide +kernel
theorem dL_finishes_9 : decode cL_finishes 9 = .ok (.iconst 0, 1) := by decide +kernel
theorem dL_finishes_10 : decode cL_finishes 10 = .ok (.ireturn, 1) := by decide +kernel
theorem dL_finishes_11 : decode cL_finishes 11 = .ok (.astore 5, 2) := by decide +kernel
theorem dL_finishes_13 : decode cL_finishes 13 = .ok (.bipush (-2), 2) := by decide +kernel
theorem dL_finishes_15 : decode cL_finishes 15 = .ok (.ireturn, 1) := by decide +kernel
theorem dL_helds_0 : decode cL_helds 0 = .ok (.aload_n 0, 1) := by decide +kernel
theorem dL_helds_1 : decode cL_helds 1 = .ok (.iload_n 1, 1) := by decide +kernel
theorem dL_helds_2 : decode cL_helds 2 = .ok (.iload_n 2, 1) := by decide +kernel
theorem dL_helds_3 : decode cL_helds 3 = .ok (.iload_n 3, 1) := by decide +kernel
theorem dL_helds_4 : decode cL_helds 4 = .ok (.invokevirtual 32, 3) := by decide +kernel
theorem dL_helds_7 : decode cL_helds 7 = .ok (.ireturn, 1) := by decide +kernel
theorem dL_helds_8 : decode cL_helds 8 = .ok (.astore 4, 2) := by decide +kernel
theorem dL_helds_10 : decode cL_helds 10 = .ok (.bipush (-2), 2) := by decide +kernel
theorem dL_helds_12 : decode cL_helds 12 = .ok (.ireturn, 1) := by decide +kernel
theorem dL_awards_0 : decode cL_awards 0 = .ok (.aload_n 0, 1) := by decide +kernel
theorem dL_awards_1 : decode cL_awards 1 = .ok (.iload_n 1, 1) := by decide +kernel
theorem dL_awards_2 : decode cL_awards 2 = .ok (.iload_n 2, 1) := by decide +kernel
theorem dL_awards_3 : decode cL_awards 3 = .ok (.iload_n 3, 1) := by decide +kernel
theorem dL_awards_4 : decode cL_awards 4 = .ok (.invokevirtual 36, 3) := by decide +kernel
theorem dL_awards_7 : decode cL_awards 7 = .ok (.ireturn, 1) := by decide +kernel
theorem dL_awards_8 : decode cL_awards 8 = .ok (.astore 4, 2) := by decide +kernel
theorem dL_awards_10 : decode cL_awards 10 = .ok (.bipush (-2), 2) := by decide +kernel
theorem dL_awards_12 : decode cL_awards 12 = .ok (.ireturn, 1) := by decide +kernel
theorem dL_allocates_0 : decode cL_allocates 0 = .ok (.aload_n 0, 1) := by decide +kernel
theorem dL_allocates_1 : decode cL_allocates 1 = .ok (.iload_n 1, 1) := by decide +kernel
theorem dL_allocates_2 : decode cL_allocates 2 = .ok (.iload_n 2, 1) := by decide +kernel
theorem dL_allocates_3 : decode cL_allocates 3 = .ok (.invokevirtual 39, 3) := by decide +kernel
theorem dL_allocates_6 : decode cL_allocates 6 = .ok (.ireturn, 1) := by decide +kernel
theorem dL_allocates_7 : decode cL_allocates 7 = .ok (.astore_n 3, 1) := by decide +kernel
theorem dL_allocates_8 : decode cL_allocates 8 = .ok (.bipush (-2), 2) := by decide +kernel
theorem dL_allocates_10 : decode cL_allocates 10 = .ok (.ireturn, 1) := by decide +kernel
theorem dL_retires_0 : decode cL_retires 0 = .ok (.aload_n 0, 1) := by decide +kernel
theorem dL_retires_1 : decode cL_retires 1 = .ok (.iload_n 1, 1) := by decide +kernel
theorem dL_retires_2 : decode cL_retires 2 = .ok (.iload_n 2, 1) := by decide +kernel
theorem dL_retires_3 : decode cL_retires 3 = .ok (.invokevirtual 42, 3) := by decide +kernel
theorem dL_retires_6 : decode cL_retires 6 = .ok (.iconst 0, 1) := by decide +kernel
theorem dL_retires_7 : decode cL_retires 7 = .ok (.ireturn, 1) := by decide +kernel
theorem dL_retires_8 : decode cL_retires 8 = .ok (.astore_n 3, 1) := by decide +kernel
theorem dL_retires_9 : decode cL_retires 9 = .ok (.bipush (-2), 2) := by decide +kernel
theorem dL_retires_11 : decode cL_retires 11 = .ok (.ireturn, 1) := by decide +kernel
theorem dL_closes_0 : decode cL_closes 0 = .ok (.aload_n 0, 1) := by decide +kernel
theorem dL_closes_1 : decode cL_closes 1 = .ok (.invokevirtual 46, 3) := by decide +kernel
theorem dL_closes_4 : decode cL_closes 4 = .ok (.ireturn, 1) := by decide +kernel
theorem dL_closes_5 : decode cL_closes 5 = .ok (.astore_n 1, 1) := by decide +kernel
theorem dL_closes_6 : decode cL_closes 6 = .ok (.bipush (-2), 2) := by decide +kernel
theorem dL_closes_8 : decode cL_closes 8 = .ok (.ireturn, 1) := by decide +kernel
theorem dL_step_0 : decode cL_step 0 = .ok (.iload 5, 2) := by decide +kernel
theorem dL_step_2 : decode cL_step 2 = .ok (.bipush 10, 2) := by decide +kernel
theorem dL_step_4 : decode cL_step 4 = .ok (.irem, 1) := by decide +kernel
theorem dL_step_5 : decode cL_step 5 = .ok (.istore 7, 2) := by decide +kernel
theorem dL_step_7 : decode cL_step 7 = .ok (.aload_n 1, 1) := by decide +kernel
theorem dL_step_8 : decode cL_step 8 = .ok (.iconst 0, 1) := by decide +kernel
theorem dL_step_9 : decode cL_step 9 = .ok (.iaload, 1) := by decide +kernel
theorem dL_step_10 : decode cL_step 10 = .ok (.ifCond .ne 7, 3) := by decide +kernel
theorem dL_step_13 : decode cL_step 13 = .ok (.iconst 0, 1) := by decide +kernel
theorem dL_step_14 : decode cL_step 14 = .ok (.goto 12, 3) := by decide +kernel
theorem dL_step_17 : decode cL_step 17 = .ok (.iload 5, 2) := by decide +kernel
theorem dL_step_19 : decode cL_step 19 = .ok (.bipush 10, 2) := by decide +kernel
theorem dL_step_21 : decode cL_step 21 = .ok (.idiv, 1) := by decide +kernel
theorem dL_step_22 : decode cL_step 22 = .ok (.aload_n 1, 1) := by decide +kernel
theorem dL_step_23 : decode cL_step 23 = .ok (.iconst 0, 1) := by decide +kernel
theorem dL_step_24 : decode cL_step 24 = .ok (.iaload, 1) := by decide +kernel
theorem dL_step_25 : decode cL_step 25 = .ok (.irem, 1) := by decide +kernel
theorem dL_step_26 : decode cL_step 26 = .ok (.istore 8, 2) := by decide +kernel
theorem dL_step_28 : decode cL_step 28 = .ok (.aload_n 0, 1) := by decide +kernel
theorem dL_step_29 : decode cL_step 29 = .ok (.iload 7, 2) := by decide +kernel
theorem dL_step_31 : decode cL_step 31 = .ok (.iconst 0, 1) := by decide +kernel
theorem dL_step_32 : decode cL_step 32 = .ok (.invokevirtual 50, 3) := by decide +kernel
theorem dL_step_35 : decode cL_step 35 = .ok (.istore 9, 2) := by decide +kernel
theorem dL_step_37 : decode cL_step 37 = .ok (.aload_n 1, 1) := by decide +kernel
theorem dL_step_38 : decode cL_step 38 = .ok (.iconst 0, 1) := by decide +kernel
theorem dL_step_39 : decode cL_step 39 = .ok (.iaload, 1) := by decide +kernel
theorem dL_step_40 : decode cL_step 40 = .ok (.ifCond .ne 7, 3) := by decide +kernel
theorem dL_step_43 : decode cL_step 43 = .ok (.iconst 0, 1) := by decide +kernel
theorem dL_step_44 : decode cL_step 44 = .ok (.goto 8, 3) := by decide +kernel
theorem dL_step_47 : decode cL_step 47 = .ok (.iload 4, 2) := by decide +kernel
theorem dL_step_49 : decode cL_step 49 = .ok (.bipush 20, 2) := by decide +kernel
theorem dL_step_51 : decode cL_step 51 = .ok (.irem, 1) := by decide +kernel
theorem dL_step_52 : decode cL_step 52 = .ok (.istore 10, 2) := by decide +kernel
theorem dL_step_54 : decode cL_step 54 = .ok (.iload 10, 2) := by decide +kernel
theorem dL_step_56 : decode cL_step 56 = .ok (.tableswitch 1058 0 17 #[88, 88, 117, 232, 232, 232, 232, 232, 494, 611, 611, 611, 652, 713, 801, 894, 941, 1036], 88) := by decide +kernel
theorem dL_step_144 : decode cL_step 144 = .ok (.aload_n 0, 1) := by decide +kernel
theorem dL_step_145 : decode cL_step 145 = .ok (.aload_n 1, 1) := by decide +kernel
theorem dL_step_146 : decode cL_step 146 = .ok (.aload_n 2, 1) := by decide +kernel
theorem dL_step_147 : decode cL_step 147 = .ok (.aload_n 1, 1) := by decide +kernel
theorem dL_step_148 : decode cL_step 148 = .ok (.iconst 0, 1) := by decide +kernel
theorem dL_step_149 : decode cL_step 149 = .ok (.iaload, 1) := by decide +kernel
theorem dL_step_150 : decode cL_step 150 = .ok (.ifCond .ne 7, 3) := by decide +kernel
theorem dL_step_153 : decode cL_step 153 = .ok (.iconst 0, 1) := by decide +kernel
theorem dL_step_154 : decode cL_step 154 = .ok (.goto 7, 3) := by decide +kernel
theorem dL_step_157 : decode cL_step 157 = .ok (.iload 6, 2) := by decide +kernel
theorem dL_step_159 : decode cL_step 159 = .ok (.iconst 3, 1) := by decide +kernel
theorem dL_step_160 : decode cL_step 160 = .ok (.irem, 1) := by decide +kernel
theorem dL_step_161 : decode cL_step 161 = .ok (.iload 6, 2) := by decide +kernel
theorem dL_step_163 : decode cL_step 163 = .ok (.iconst 3, 1) := by decide +kernel
theorem dL_step_164 : decode cL_step 164 = .ok (.idiv, 1) := by decide +kernel
theorem dL_step_165 : decode cL_step 165 = .ok (.sipush 200, 3) := by decide +kernel
theorem dL_step_168 : decode cL_step 168 = .ok (.irem, 1) := by decide +kernel
theorem dL_step_169 : decode cL_step 169 = .ok (.invokestatic 53, 3) := by decide +kernel
theorem dL_step_172 : decode cL_step 172 = .ok (.ireturn, 1) := by decide +kernel
theorem dL_step_173 : decode cL_step 173 = .ok (.aload_n 2, 1) := by decide +kernel
theorem dL_step_174 : decode cL_step 174 = .ok (.iload 8, 2) := by decide +kernel
theorem dL_step_176 : decode cL_step 176 = .ok (.iaload, 1) := by decide +kernel
theorem dL_step_177 : decode cL_step 177 = .ok (.ifCond .eq 19, 3) := by decide +kernel
theorem dL_step_180 : decode cL_step 180 = .ok (.aload_n 0, 1) := by decide +kernel
theorem dL_step_181 : decode cL_step 181 = .ok (.iload 7, 2) := by decide +kernel
theorem dL_step_183 : decode cL_step 183 = .ok (.iconst 2, 1) := by decide +kernel
theorem dL_step_184 : decode cL_step 184 = .ok (.invokevirtual 50, 3) := by decide +kernel
theorem dL_step_187 : decode cL_step 187 = .ok (.ifCond .lt 7, 3) := by decide +kernel
theorem dL_step_190 : decode cL_step 190 = .ok (.iconst 1, 1) := by decide +kernel
theorem dL_step_191 : decode cL_step 191 = .ok (.goto 4, 3) := by decide +kernel
theorem dL_step_194 : decode cL_step 194 = .ok (.iconst 0, 1) := by decide +kernel
theorem dL_step_195 : decode cL_step 195 = .ok (.ireturn, 1) := by decide +kernel
theorem dL_step_196 : decode cL_step 196 = .ok (.aload_n 0, 1) := by decide +kernel
theorem dL_step_197 : decode cL_step 197 = .ok (.iload 8, 2) := by decide +kernel
theorem dL_step_199 : decode cL_step 199 = .ok (.iload 6, 2) := by decide +kernel
theorem dL_step_201 : decode cL_step 201 = .ok (.iconst 3, 1) := by decide +kernel
theorem dL_step_202 : decode cL_step 202 = .ok (.irem, 1) := by decide +kernel
theorem dL_step_203 : decode cL_step 203 = .ok (.invokestatic 59, 3) := by decide +kernel
theorem dL_step_206 : decode cL_step 206 = .ok (.istore 11, 2) := by decide +kernel
theorem dL_step_208 : decode cL_step 208 = .ok (.aload_n 1, 1) := by decide +kernel
theorem dL_step_209 : decode cL_step 209 = .ok (.iconst 1, 1) := by decide +kernel
theorem dL_step_210 : decode cL_step 210 = .ok (.iload 11, 2) := by decide +kernel
theorem dL_step_212 : decode cL_step 212 = .ok (.bipush (-2), 2) := by decide +kernel
theorem dL_step_214 : decode cL_step 214 = .ok (.if_icmp .ne 9, 3) := by decide +kernel
theorem dL_step_217 : decode cL_step 217 = .ok (.aload_n 1, 1) := by decide +kernel
theorem dL_step_218 : decode cL_step 218 = .ok (.iconst 1, 1) := by decide +kernel
theorem dL_step_219 : decode cL_step 219 = .ok (.iaload, 1) := by decide +kernel
theorem dL_step_220 : decode cL_step 220 = .ok (.goto 4, 3) := by decide +kernel
theorem dL_step_223 : decode cL_step 223 = .ok (.iconst 1, 1) := by decide +kernel
theorem dL_step_224 : decode cL_step 224 = .ok (.iastore, 1) := by decide +kernel
theorem dL_step_225 : decode cL_step 225 = .ok (.iload 11, 2) := by decide +kernel
theorem dL_step_227 : decode cL_step 227 = .ok (.bipush (-2), 2) := by decide +kernel
theorem dL_step_229 : decode cL_step 229 = .ok (.if_icmp .ne 23, 3) := by decide +kernel
theorem dL_step_232 : decode cL_step 232 = .ok (.aload_n 1, 1) := by decide +kernel
theorem dL_step_233 : decode cL_step 233 = .ok (.iconst 1, 1) := by decide +kernel
theorem dL_step_234 : decode cL_step 234 = .ok (.iaload, 1) := by decide +kernel
theorem dL_step_235 : decode cL_step 235 = .ok (.iconst 1, 1) := by decide +kernel
theorem dL_step_236 : decode cL_step 236 = .ok (.if_icmp .eq 8, 3) := by decide +kernel
theorem dL_step_239 : decode cL_step 239 = .ok (.iload 8, 2) := by decide +kernel
theorem dL_step_241 : decode cL_step 241 = .ok (.ifCond .le 7, 3) := by decide +kernel
theorem dL_step_244 : decode cL_step 244 = .ok (.iconst 1, 1) := by decide +kernel
theorem dL_step_245 : decode cL_step 245 = .ok (.goto 42, 3) := by decide +kernel
theorem dL_step_248 : decode cL_step 248 = .ok (.iconst 0, 1) := by decide +kernel
theorem dL_step_249 : decode cL_step 249 = .ok (.goto 38, 3) := by decide +kernel
theorem dL_step_252 : decode cL_step 252 = .ok (.iload 11, 2) := by decide +kernel
theorem dL_step_254 : decode cL_step 254 = .ok (.bipush 10, 2) := by decide +kernel
theorem dL_step_256 : decode cL_step 256 = .ok (.if_icmp .gt 30, 3) := by decide +kernel
theorem dL_step_259 : decode cL_step 259 = .ok (.iload 8, 2) := by decide +kernel
theorem dL_step_261 : decode cL_step 261 = .ok (.ifCond .gt 10, 3) := by decide +kernel
theorem dL_step_264 : decode cL_step 264 = .ok (.iload 11, 2) := by decide +kernel
theorem dL_step_266 : decode cL_step 266 = .ok (.bipush 10, 2) := by decide +kernel
theorem dL_step_268 : decode cL_step 268 = .ok (.if_icmp .ne 18, 3) := by decide +kernel
theorem dL_step_271 : decode cL_step 271 = .ok (.aload_n 0, 1) := by decide +kernel
theorem dL_step_272 : decode cL_step 272 = .ok (.iload 8, 2) := by decide +kernel
theorem dL_step_274 : decode cL_step 274 = .ok (.iload 11, 2) := by decide +kernel
theorem dL_step_276 : decode cL_step 276 = .ok (.invokestatic 63, 3) := by decide +kernel
theorem dL_step_279 : decode cL_step 279 = .ok (.ifCond .eq 7, 3) := by decide +kernel
theorem dL_step_282 : decode cL_step 282 = .ok (.iconst 1, 1) := by decide +kernel
theorem dL_step_283 : decode cL_step 283 = .ok (.goto 4, 3) := by decide +kernel
theorem dL_step_286 : decode cL_step 286 = .ok (.iconst 0, 1) := by decide +kernel
theorem dL_step_287 : decode cL_step 287 = .ok (.ireturn, 1) := by decide +kernel
theorem dL_step_288 : decode cL_step 288 = .ok (.aload_n 2, 1) := by decide +kernel
theorem dL_step_289 : decode cL_step 289 = .ok (.iload 8, 2) := by decide +kernel
theorem dL_step_291 : decode cL_step 291 = .ok (.iaload, 1) := by decide +kernel
theorem dL_step_292 : decode cL_step 292 = .ok (.iconst 2, 1) := by decide +kernel
theorem dL_step_293 : decode cL_step 293 = .ok (.if_icmp .ne 21, 3) := by decide +kernel
theorem dL_step_296 : decode cL_step 296 = .ok (.aload_n 0, 1) := by decide +kernel
theorem dL_step_297 : decode cL_step 297 = .ok (.iload 7, 2) := by decide +kernel
theorem dL_step_299 : decode cL_step 299 = .ok (.iload 8, 2) := by decide +kernel
theorem dL_step_301 : decode cL_step 301 = .ok (.invokevirtual 67, 3) := by decide +kernel
theorem dL_step_304 : decode cL_step 304 = .ok (.iconst (-1), 1) := by decide +kernel
theorem dL_step_305 : decode cL_step 305 = .ok (.if_icmp .lt 7, 3) := by decide +kernel
theorem dL_step_308 : decode cL_step 308 = .ok (.iconst 1, 1) := by decide +kernel
theorem dL_step_309 : decode cL_step 309 = .ok (.goto 4, 3) := by decide +kernel
theorem dL_step_312 : decode cL_step 312 = .ok (.iconst 0, 1) := by decide +kernel
theorem dL_step_313 : decode cL_step 313 = .ok (.ireturn, 1) := by decide +kernel
theorem dL_step_314 : decode cL_step 314 = .ok (.aload_n 0, 1) := by decide +kernel
theorem dL_step_315 : decode cL_step 315 = .ok (.iload 7, 2) := by decide +kernel
theorem dL_step_317 : decode cL_step 317 = .ok (.iload 8, 2) := by decide +kernel
theorem dL_step_319 : decode cL_step 319 = .ok (.invokevirtual 70, 3) := by decide +kernel
theorem dL_step_322 : decode cL_step 322 = .ok (.istore 12, 2) := by decide +kernel
theorem dL_step_324 : decode cL_step 324 = .ok (.aload_n 0, 1) := by decide +kernel
theorem dL_step_325 : decode cL_step 325 = .ok (.iload 7, 2) := by decide +kernel
theorem dL_step_327 : decode cL_step 327 = .ok (.iconst 1, 1) := by decide +kernel
theorem dL_step_328 : decode cL_step 328 = .ok (.invokevirtual 50, 3) := by decide +kernel
theorem dL_step_331 : decode cL_step 331 = .ok (.istore 13, 2) := by decide +kernel
theorem dL_step_333 : decode cL_step 333 = .ok (.iload 12, 2) := by decide +kernel
theorem dL_step_335 : decode cL_step 335 = .ok (.iconst (-1), 1) := by decide +kernel
theorem dL_step_336 : decode cL_step 336 = .ok (.if_icmp .ne 12, 3) := by decide +kernel
theorem dL_step_339 : decode cL_step 339 = .ok (.iload 6, 2) := by decide +kernel
theorem dL_step_341 : decode cL_step 341 = .ok (.sipush 2001, 3) := by decide +kernel
theorem dL_step_344 : decode cL_step 344 = .ok (.irem, 1) := by decide +kernel
theorem dL_step_345 : decode cL_step 345 = .ok (.goto 13, 3) := by decide +kernel
theorem dL_step_348 : decode cL_step 348 = .ok (.iload 12, 2) := by decide +kernel
theorem dL_step_350 : decode cL_step 350 = .ok (.iload 6, 2) := by decide +kernel
theorem dL_step_352 : decode cL_step 352 = .ok (.bipush 40, 2) := by decide +kernel
theorem dL_step_354 : decode cL_step 354 = .ok (.irem, 1) := by decide +kernel
theorem dL_step_355 : decode cL_step 355 = .ok (.iadd, 1) := by decide +kernel
theorem dL_step_356 : decode cL_step 356 = .ok (.iconst 4, 1) := by decide +kernel
theorem dL_step_357 : decode cL_step 357 = .ok (.isub, 1) := by decide +kernel
theorem dL_step_358 : decode cL_step 358 = .ok (.istore 14, 2) := by decide +kernel
theorem dL_step_360 : decode cL_step 360 = .ok (.iload 14, 2) := by decide +kernel
theorem dL_step_362 : decode cL_step 362 = .ok (.ifCond .ge 7, 3) := by decide +kernel
theorem dL_step_365 : decode cL_step 365 = .ok (.iconst 0, 1) := by decide +kernel
theorem dL_step_366 : decode cL_step 366 = .ok (.goto 19, 3) := by decide +kernel
theorem dL_step_369 : decode cL_step 369 = .ok (.iload 14, 2) := by decide +kernel
theorem dL_step_371 : decode cL_step 371 = .ok (.sipush 2000, 3) := by decide +kernel
theorem dL_step_374 : decode cL_step 374 = .ok (.if_icmp .le 9, 3) := by decide +kernel
theorem dL_step_377 : decode cL_step 377 = .ok (.sipush 2000, 3) := by decide +kernel
theorem dL_step_380 : decode cL_step 380 = .ok (.goto 5, 3) := by decide +kernel
theorem dL_step_383 : decode cL_step 383 = .ok (.iload 14, 2) := by decide +kernel
theorem dL_step_385 : decode cL_step 385 = .ok (.istore 14, 2) := by decide +kernel
theorem dL_step_387 : decode cL_step 387 = .ok (.aload_n 0, 1) := by decide +kernel
theorem dL_step_388 : decode cL_step 388 = .ok (.iload 7, 2) := by decide +kernel
theorem dL_step_390 : decode cL_step 390 = .ok (.iload 8, 2) := by decide +kernel
theorem dL_step_392 : decode cL_step 392 = .ok (.iload 14, 2) := by decide +kernel
theorem dL_step_394 : decode cL_step 394 = .ok (.invokestatic 73, 3) := by decide +kernel
theorem dL_step_397 : decode cL_step 397 = .ok (.istore 15, 2) := by decide +kernel
theorem dL_step_399 : decode cL_step 399 = .ok (.iload 15, 2) := by decide +kernel
theorem dL_step_401 : decode cL_step 401 = .ok (.bipush (-2), 2) := by decide +kernel
theorem dL_step_403 : decode cL_step 403 = .ok (.if_icmp .ne 23, 3) := by decide +kernel
theorem dL_step_406 : decode cL_step 406 = .ok (.aload_n 0, 1) := by decide +kernel
theorem dL_step_407 : decode cL_step 407 = .ok (.iload 7, 2) := by decide +kernel
theorem dL_step_409 : decode cL_step 409 = .ok (.iconst 0, 1) := by decide +kernel
theorem dL_step_410 : decode cL_step 410 = .ok (.invokevirtual 50, 3) := by decide +kernel
theorem dL_step_413 : decode cL_step 413 = .ok (.iload 9, 2) := by decide +kernel
theorem dL_step_415 : decode cL_step 415 = .ok (.if_icmp .ne 7, 3) := by decide +kernel
theorem dL_step_418 : decode cL_step 418 = .ok (.iconst 1, 1) := by decide +kernel
theorem dL_step_419 : decode cL_step 419 = .ok (.goto 130, 3) := by decide +kernel
theorem dL_step_422 : decode cL_step 422 = .ok (.iconst 0, 1) := by decide +kernel
theorem dL_step_423 : decode cL_step 423 = .ok (.goto 126, 3) := by decide +kernel
theorem dL_step_426 : decode cL_step 426 = .ok (.iload 12, 2) := by decide +kernel
theorem dL_step_428 : decode cL_step 428 = .ok (.iconst (-1), 1) := by decide +kernel
theorem dL_step_429 : decode cL_step 429 = .ok (.if_icmp .eq 119, 3) := by decide +kernel
theorem dL_step_432 : decode cL_step 432 = .ok (.iload 15, 2) := by decide +kernel
theorem dL_step_434 : decode cL_step 434 = .ok (.iload 14, 2) := by decide +kernel
theorem dL_step_436 : decode cL_step 436 = .ok (.iload 12, 2) := by decide +kernel
theorem dL_step_438 : decode cL_step 438 = .ok (.if_icmp .le 14, 3) := by decide +kernel
theorem dL_step_441 : decode cL_step 441 = .ok (.bipush 100, 2) := by decide +kernel
theorem dL_step_443 : decode cL_step 443 = .ok (.iload 14, 2) := by decide +kernel
theorem dL_step_445 : decode cL_step 445 = .ok (.iload 12, 2) := by decide +kernel
theorem dL_step_447 : decode cL_step 447 = .ok (.isub, 1) := by decide +kernel
theorem dL_step_448 : decode cL_step 448 = .ok (.imul, 1) := by decide +kernel
theorem dL_step_449 : decode cL_step 449 = .ok (.goto 12, 3) := by decide +kernel
theorem dL_step_452 : decode cL_step 452 = .ok (.sipush 600, 3) := by decide +kernel
theorem dL_step_455 : decode cL_step 455 = .ok (.iload 12, 2) := by decide +kernel
theorem dL_step_457 : decode cL_step 457 = .ok (.iload 14, 2) := by decide +kernel
theorem dL_step_459 : decode cL_step 459 = .ok (.isub, 1) := by decide +kernel
theorem dL_step_460 : decode cL_step 460 = .ok (.imul, 1) := by decide +kernel
theorem dL_step_461 : decode cL_step 461 = .ok (.if_icmp .ne 87, 3) := by decide +kernel
theorem dL_step_464 : decode cL_step 464 = .ok (.aload_n 0, 1) := by decide +kernel
theorem dL_step_465 : decode cL_step 465 = .ok (.iload 7, 2) := by decide +kernel
theorem dL_step_467 : decode cL_step 467 = .ok (.iconst 0, 1) := by decide +kernel
theorem dL_step_468 : decode cL_step 468 = .ok (.invokevirtual 50, 3) := by decide +kernel
theorem dL_step_471 : decode cL_step 471 = .ok (.iload 9, 2) := by decide +kernel
theorem dL_step_473 : decode cL_step 473 = .ok (.iload 15, 2) := by decide +kernel
theorem dL_step_475 : decode cL_step 475 = .ok (.iadd, 1) := by decide +kernel
theorem dL_step_476 : decode cL_step 476 = .ok (.if_icmp .ne 72, 3) := by decide +kernel
theorem dL_step_479 : decode cL_step 479 = .ok (.aload_n 0, 1) := by decide +kernel
theorem dL_step_480 : decode cL_step 480 = .ok (.iload 7, 2) := by decide +kernel
theorem dL_step_482 : decode cL_step 482 = .ok (.iconst 1, 1) := by decide +kernel
theorem dL_step_483 : decode cL_step 483 = .ok (.invokevirtual 50, 3) := by decide +kernel
theorem dL_step_486 : decode cL_step 486 = .ok (.iload 13, 2) := by decide +kernel
theorem dL_step_488 : decode cL_step 488 = .ok (.iload 14, 2) := by decide +kernel
theorem dL_step_490 : decode cL_step 490 = .ok (.iload 12, 2) := by decide +kernel
theorem dL_step_492 : decode cL_step 492 = .ok (.if_icmp .le 11, 3) := by decide +kernel
theorem dL_step_495 : decode cL_step 495 = .ok (.iload 14, 2) := by decide +kernel
theorem dL_step_497 : decode cL_step 497 = .ok (.iload 12, 2) := by decide +kernel
theorem dL_step_499 : decode cL_step 499 = .ok (.isub, 1) := by decide +kernel
theorem dL_step_500 : decode cL_step 500 = .ok (.goto 4, 3) := by decide +kernel
theorem dL_step_503 : decode cL_step 503 = .ok (.iconst 0, 1) := by decide +kernel
theorem dL_step_504 : decode cL_step 504 = .ok (.iadd, 1) := by decide +kernel
theorem dL_step_505 : decode cL_step 505 = .ok (.if_icmp .ne 43, 3) := by decide +kernel
theorem dL_step_508 : decode cL_step 508 = .ok (.aload_n 0, 1) := by decide +kernel
theorem dL_step_509 : decode cL_step 509 = .ok (.iload 7, 2) := by decide +kernel
theorem dL_step_511 : decode cL_step 511 = .ok (.iconst 2, 1) := by decide +kernel
theorem dL_step_512 : decode cL_step 512 = .ok (.invokevirtual 50, 3) := by decide +kernel
theorem dL_step_515 : decode cL_step 515 = .ok (.iconst 1, 1) := by decide +kernel
theorem dL_step_516 : decode cL_step 516 = .ok (.if_icmp .ne 7, 3) := by decide +kernel
theorem dL_step_519 : decode cL_step 519 = .ok (.iconst 1, 1) := by decide +kernel
theorem dL_step_520 : decode cL_step 520 = .ok (.goto 4, 3) := by decide +kernel
theorem dL_step_523 : decode cL_step 523 = .ok (.iconst 0, 1) := by decide +kernel
theorem dL_step_524 : decode cL_step 524 = .ok (.aload_n 0, 1) := by decide +kernel
theorem dL_step_525 : decode cL_step 525 = .ok (.iload 7, 2) := by decide +kernel
theorem dL_step_527 : decode cL_step 527 = .ok (.iconst 1, 1) := by decide +kernel
theorem dL_step_528 : decode cL_step 528 = .ok (.invokevirtual 50, 3) := by decide +kernel
theorem dL_step_531 : decode cL_step 531 = .ok (.bipush 30, 2) := by decide +kernel
theorem dL_step_533 : decode cL_step 533 = .ok (.if_icmp .le 7, 3) := by decide +kernel
theorem dL_step_536 : decode cL_step 536 = .ok (.iconst 1, 1) := by decide +kernel
theorem dL_step_537 : decode cL_step 537 = .ok (.goto 4, 3) := by decide +kernel
theorem dL_step_540 : decode cL_step 540 = .ok (.iconst 0, 1) := by decide +kernel
theorem dL_step_541 : decode cL_step 541 = .ok (.if_icmp .ne 7, 3) := by decide +kernel
theorem dL_step_544 : decode cL_step 544 = .ok (.iconst 1, 1) := by decide +kernel
theorem dL_step_545 : decode cL_step 545 = .ok (.goto 4, 3) := by decide +kernel
theorem dL_step_548 : decode cL_step 548 = .ok (.iconst 0, 1) := by decide +kernel
theorem dL_step_549 : decode cL_step 549 = .ok (.ireturn, 1) := by decide +kernel
theorem dL_step_550 : decode cL_step 550 = .ok (.aload_n 2, 1) := by decide +kernel
theorem dL_step_551 : decode cL_step 551 = .ok (.iload 8, 2) := by decide +kernel
theorem dL_step_553 : decode cL_step 553 = .ok (.iaload, 1) := by decide +kernel
theorem dL_step_554 : decode cL_step 554 = .ok (.iconst 1, 1) := by decide +kernel
theorem dL_step_555 : decode cL_step 555 = .ok (.if_icmp .eq 20, 3) := by decide +kernel
theorem dL_step_558 : decode cL_step 558 = .ok (.aload_n 0, 1) := by decide +kernel
theorem dL_step_559 : decode cL_step 559 = .ok (.iload 7, 2) := by decide +kernel
theorem dL_step_561 : decode cL_step 561 = .ok (.iconst 0, 1) := by decide +kernel
theorem dL_step_562 : decode cL_step 562 = .ok (.invokevirtual 70, 3) := by decide +kernel
theorem dL_step_565 : decode cL_step 565 = .ok (.iconst (-1), 1) := by decide +kernel
theorem dL_step_566 : decode cL_step 566 = .ok (.if_icmp .lt 7, 3) := by decide +kernel
theorem dL_step_569 : decode cL_step 569 = .ok (.iconst 1, 1) := by decide +kernel
theorem dL_step_570 : decode cL_step 570 = .ok (.goto 4, 3) := by decide +kernel
theorem dL_step_573 : decode cL_step 573 = .ok (.iconst 0, 1) := by decide +kernel
theorem dL_step_574 : decode cL_step 574 = .ok (.ireturn, 1) := by decide +kernel
theorem dL_step_575 : decode cL_step 575 = .ok (.aload_n 0, 1) := by decide +kernel
theorem dL_step_576 : decode cL_step 576 = .ok (.iload 7, 2) := by decide +kernel
theorem dL_step_578 : decode cL_step 578 = .ok (.iload 8, 2) := by decide +kernel
theorem dL_step_580 : decode cL_step 580 = .ok (.invokevirtual 70, 3) := by decide +kernel
theorem dL_step_583 : decode cL_step 583 = .ok (.istore 16, 2) := by decide +kernel
theorem dL_step_585 : decode cL_step 585 = .ok (.aload_n 0, 1) := by decide +kernel
theorem dL_step_586 : decode cL_step 586 = .ok (.iload 8, 2) := by decide +kernel
theorem dL_step_588 : decode cL_step 588 = .ok (.iload 7, 2) := by decide +kernel
theorem dL_step_590 : decode cL_step 590 = .ok (.iconst 1, 1) := by decide +kernel
theorem dL_step_591 : decode cL_step 591 = .ok (.iload 6, 2) := by decide +kernel
theorem dL_step_593 : decode cL_step 593 = .ok (.bipush 60, 2) := by decide +kernel
theorem dL_step_595 : decode cL_step 595 = .ok (.irem, 1) := by decide +kernel
theorem dL_step_596 : decode cL_step 596 = .ok (.iadd, 1) := by decide +kernel
theorem dL_step_597 : decode cL_step 597 = .ok (.invokestatic 77, 3) := by decide +kernel
theorem dL_step_600 : decode cL_step 600 = .ok (.istore 17, 2) := by decide +kernel
theorem dL_step_602 : decode cL_step 602 = .ok (.iload 17, 2) := by decide +kernel
theorem dL_step_604 : decode cL_step 604 = .ok (.bipush (-2), 2) := by decide +kernel
theorem dL_step_606 : decode cL_step 606 = .ok (.if_icmp .eq 55, 3) := by decide +kernel
theorem dL_step_609 : decode cL_step 609 = .ok (.iload 17, 2) := by decide +kernel
theorem dL_step_611 : decode cL_step 611 = .ok (.ifCond .lt 54, 3) := by decide +kernel
theorem dL_step_614 : decode cL_step 614 = .ok (.iload 17, 2) := by decide +kernel
theorem dL_step_616 : decode cL_step 616 = .ok (.bipush 10, 2) := by decide +kernel
theorem dL_step_618 : decode cL_step 618 = .ok (.if_icmp .gt 47, 3) := by decide +kernel
theorem dL_step_621 : decode cL_step 621 = .ok (.iload 16, 2) := by decide +kernel
theorem dL_step_623 : decode cL_step 623 = .ok (.iconst (-1), 1) := by decide +kernel
theorem dL_step_624 : decode cL_step 624 = .ok (.if_icmp .eq 37, 3) := by decide +kernel
theorem dL_step_627 : decode cL_step 627 = .ok (.aload_n 0, 1) := by decide +kernel
theorem dL_step_628 : decode cL_step 628 = .ok (.iload 7, 2) := by decide +kernel
theorem dL_step_630 : decode cL_step 630 = .ok (.iload 8, 2) := by decide +kernel
theorem dL_step_632 : decode cL_step 632 = .ok (.invokevirtual 70, 3) := by decide +kernel
theorem dL_step_635 : decode cL_step 635 = .ok (.iload 16, 2) := by decide +kernel
theorem dL_step_637 : decode cL_step 637 = .ok (.if_icmp .eq 24, 3) := by decide +kernel
theorem dL_step_640 : decode cL_step 640 = .ok (.aload_n 0, 1) := by decide +kernel
theorem dL_step_641 : decode cL_step 641 = .ok (.iload 7, 2) := by decide +kernel
theorem dL_step_643 : decode cL_step 643 = .ok (.iload 8, 2) := by decide +kernel
theorem dL_step_645 : decode cL_step 645 = .ok (.invokevirtual 70, 3) := by decide +kernel
theorem dL_step_648 : decode cL_step 648 = .ok (.iload 16, 2) := by decide +kernel
theorem dL_step_650 : decode cL_step 650 = .ok (.iconst 1, 1) := by decide +kernel
theorem dL_step_651 : decode cL_step 651 = .ok (.iadd, 1) := by decide +kernel
theorem dL_step_652 : decode cL_step 652 = .ok (.iload 6, 2) := by decide +kernel
theorem dL_step_654 : decode cL_step 654 = .ok (.bipush 60, 2) := by decide +kernel
theorem dL_step_656 : decode cL_step 656 = .ok (.irem, 1) := by decide +kernel
theorem dL_step_657 : decode cL_step 657 = .ok (.iadd, 1) := by decide +kernel
theorem dL_step_658 : decode cL_step 658 = .ok (.if_icmp .ne 7, 3) := by decide +kernel
theorem dL_step_661 : decode cL_step 661 = .ok (.iconst 1, 1) := by decide +kernel
theorem dL_step_662 : decode cL_step 662 = .ok (.goto 4, 3) := by decide +kernel
theorem dL_step_665 : decode cL_step 665 = .ok (.iconst 0, 1) := by decide +kernel
theorem dL_step_666 : decode cL_step 666 = .ok (.ireturn, 1) := by decide +kernel
theorem dL_step_667 : decode cL_step 667 = .ok (.aload_n 2, 1) := by decide +kernel
theorem dL_step_668 : decode cL_step 668 = .ok (.iload 8, 2) := by decide +kernel
theorem dL_step_670 : decode cL_step 670 = .ok (.iaload, 1) := by decide +kernel
theorem dL_step_671 : decode cL_step 671 = .ok (.iconst 2, 1) := by decide +kernel
theorem dL_step_672 : decode cL_step 672 = .ok (.if_icmp .ne 30, 3) := by decide +kernel
theorem dL_step_675 : decode cL_step 675 = .ok (.aload_n 0, 1) := by decide +kernel
theorem dL_step_676 : decode cL_step 676 = .ok (.iload 7, 2) := by decide +kernel
theorem dL_step_678 : decode cL_step 678 = .ok (.iload 8, 2) := by decide +kernel
theorem dL_step_680 : decode cL_step 680 = .ok (.iload 6, 2) := by decide +kernel
theorem dL_step_682 : decode cL_step 682 = .ok (.iconst 2, 1) := by decide +kernel
theorem dL_step_683 : decode cL_step 683 = .ok (.irem, 1) := by decide +kernel
theorem dL_step_684 : decode cL_step 684 = .ok (.ifCond .ne 7, 3) := by decide +kernel
theorem dL_step_687 : decode cL_step 687 = .ok (.iconst 1, 1) := by decide +kernel
theorem dL_step_688 : decode cL_step 688 = .ok (.goto 4, 3) := by decide +kernel
theorem dL_step_691 : decode cL_step 691 = .ok (.iconst 0, 1) := by decide +kernel
theorem dL_step_692 : decode cL_step 692 = .ok (.iload 6, 2) := by decide +kernel
theorem dL_step_694 : decode cL_step 694 = .ok (.iconst 2, 1) := by decide +kernel
theorem dL_step_695 : decode cL_step 695 = .ok (.idiv, 1) := by decide +kernel
theorem dL_step_696 : decode cL_step 696 = .ok (.invokestatic 80, 3) := by decide +kernel
theorem dL_step_699 : decode cL_step 699 = .ok (.ifCond .eq 7, 3) := by decide +kernel
theorem dL_step_702 : decode cL_step 702 = .ok (.iconst 1, 1) := by decide +kernel
theorem dL_step_703 : decode cL_step 703 = .ok (.goto 4, 3) := by decide +kernel
theorem dL_step_706 : decode cL_step 706 = .ok (.iconst 0, 1) := by decide +kernel
theorem dL_step_707 : decode cL_step 707 = .ok (.ireturn, 1) := by decide +kernel
theorem dL_step_708 : decode cL_step 708 = .ok (.aload_n 2, 1) := by decide +kernel
theorem dL_step_709 : decode cL_step 709 = .ok (.iload 8, 2) := by decide +kernel
theorem dL_step_711 : decode cL_step 711 = .ok (.iaload, 1) := by decide +kernel
theorem dL_step_712 : decode cL_step 712 = .ok (.iconst 2, 1) := by decide +kernel
theorem dL_step_713 : decode cL_step 713 = .ok (.if_icmp .ne 26, 3) := by decide +kernel
theorem dL_step_716 : decode cL_step 716 = .ok (.aload_n 0, 1) := by decide +kernel
theorem dL_step_717 : decode cL_step 717 = .ok (.iload 7, 2) := by decide +kernel
theorem dL_step_719 : decode cL_step 719 = .ok (.iload 8, 2) := by decide +kernel
theorem dL_step_721 : decode cL_step 721 = .ok (.iload 6, 2) := by decide +kernel
theorem dL_step_723 : decode cL_step 723 = .ok (.iconst 2, 1) := by decide +kernel
theorem dL_step_724 : decode cL_step 724 = .ok (.irem, 1) := by decide +kernel
theorem dL_step_725 : decode cL_step 725 = .ok (.ifCond .ne 7, 3) := by decide +kernel
theorem dL_step_728 : decode cL_step 728 = .ok (.iconst 1, 1) := by decide +kernel
theorem dL_step_729 : decode cL_step 729 = .ok (.goto 4, 3) := by decide +kernel
theorem dL_step_732 : decode cL_step 732 = .ok (.iconst 0, 1) := by decide +kernel
theorem dL_step_733 : decode cL_step 733 = .ok (.invokestatic 84, 3) := by decide +kernel
theorem dL_step_736 : decode cL_step 736 = .ok (.goto 5, 3) := by decide +kernel
theorem dL_step_739 : decode cL_step 739 = .ok (.bipush (-2), 2) := by decide +kernel
theorem dL_step_741 : decode cL_step 741 = .ok (.istore 18, 2) := by decide +kernel
theorem dL_step_743 : decode cL_step 743 = .ok (.iload 18, 2) := by decide +kernel
theorem dL_step_745 : decode cL_step 745 = .ok (.bipush (-2), 2) := by decide +kernel
theorem dL_step_747 : decode cL_step 747 = .ok (.if_icmp .eq 16, 3) := by decide +kernel
theorem dL_step_750 : decode cL_step 750 = .ok (.iload 18, 2) := by decide +kernel
theorem dL_step_752 : decode cL_step 752 = .ok (.aload_n 0, 1) := by decide +kernel
theorem dL_step_753 : decode cL_step 753 = .ok (.iload 7, 2) := by decide +kernel
theorem dL_step_755 : decode cL_step 755 = .ok (.iload 8, 2) := by decide +kernel
theorem dL_step_757 : decode cL_step 757 = .ok (.invokevirtual 67, 3) := by decide +kernel
theorem dL_step_760 : decode cL_step 760 = .ok (.if_icmp .ne 7, 3) := by decide +kernel
theorem dL_step_763 : decode cL_step 763 = .ok (.iconst 1, 1) := by decide +kernel
theorem dL_step_764 : decode cL_step 764 = .ok (.goto 4, 3) := by decide +kernel
theorem dL_step_767 : decode cL_step 767 = .ok (.iconst 0, 1) := by decide +kernel
theorem dL_step_768 : decode cL_step 768 = .ok (.ireturn, 1) := by decide +kernel
theorem dL_step_769 : decode cL_step 769 = .ok (.aload_n 2, 1) := by decide +kernel
theorem dL_step_770 : decode cL_step 770 = .ok (.iload 8, 2) := by decide +kernel
theorem dL_step_772 : decode cL_step 772 = .ok (.iaload, 1) := by decide +kernel
theorem dL_step_773 : decode cL_step 773 = .ok (.iconst 2, 1) := by decide +kernel
theorem dL_step_774 : decode cL_step 774 = .ok (.if_icmp .ne 33, 3) := by decide +kernel
theorem dL_step_777 : decode cL_step 777 = .ok (.aload_n 0, 1) := by decide +kernel
theorem dL_step_778 : decode cL_step 778 = .ok (.iload 7, 2) := by decide +kernel
theorem dL_step_780 : decode cL_step 780 = .ok (.iload 8, 2) := by decide +kernel
theorem dL_step_782 : decode cL_step 782 = .ok (.iload 6, 2) := by decide +kernel
theorem dL_step_784 : decode cL_step 784 = .ok (.iconst 4, 1) := by decide +kernel
theorem dL_step_785 : decode cL_step 785 = .ok (.irem, 1) := by decide +kernel
theorem dL_step_786 : decode cL_step 786 = .ok (.ifCond .ne 7, 3) := by decide +kernel
theorem dL_step_789 : decode cL_step 789 = .ok (.iconst (-1), 1) := by decide +kernel
theorem dL_step_790 : decode cL_step 790 = .ok (.goto 11, 3) := by decide +kernel
theorem dL_step_793 : decode cL_step 793 = .ok (.iload 6, 2) := by decide +kernel
theorem dL_step_795 : decode cL_step 795 = .ok (.iconst 4, 1) := by decide +kernel
theorem dL_step_796 : decode cL_step 796 = .ok (.idiv, 1) := by decide +kernel
theorem dL_step_797 : decode cL_step 797 = .ok (.sipush 9000, 3) := by decide +kernel
theorem dL_step_800 : decode cL_step 800 = .ok (.irem, 1) := by decide +kernel
theorem dL_step_801 : decode cL_step 801 = .ok (.invokestatic 88, 3) := by decide +kernel
theorem dL_step_804 : decode cL_step 804 = .ok (.goto 5, 3) := by decide +kernel
theorem dL_step_807 : decode cL_step 807 = .ok (.bipush (-2), 2) := by decide +kernel
theorem dL_step_809 : decode cL_step 809 = .ok (.istore 19, 2) := by decide +kernel
theorem dL_step_811 : decode cL_step 811 = .ok (.iload 19, 2) := by decide +kernel
theorem dL_step_813 : decode cL_step 813 = .ok (.bipush (-2), 2) := by decide +kernel
theorem dL_step_815 : decode cL_step 815 = .ok (.if_icmp .eq 36, 3) := by decide +kernel
theorem dL_step_818 : decode cL_step 818 = .ok (.iload 19, 2) := by decide +kernel
theorem dL_step_820 : decode cL_step 820 = .ok (.aload_n 0, 1) := by decide +kernel
theorem dL_step_821 : decode cL_step 821 = .ok (.iload 7, 2) := by decide +kernel
theorem dL_step_823 : decode cL_step 823 = .ok (.iload 8, 2) := by decide +kernel
theorem dL_step_825 : decode cL_step 825 = .ok (.invokevirtual 67, 3) := by decide +kernel
theorem dL_step_828 : decode cL_step 828 = .ok (.if_icmp .ne 27, 3) := by decide +kernel
theorem dL_step_831 : decode cL_step 831 = .ok (.iload 6, 2) := by decide +kernel
