theorem dX6_reckon_24 : decode cX6_reckon 24 = .ok (.getfield 28, 3) := by decide +kernel
theorem dX6_reckon_27 : decode cX6_reckon 27 = .ok (.iload_n 1, 1) := by decide +kernel
theorem dX6_reckon_28 : decode cX6_reckon 28 = .ok (.bipush 10, 2) := by decide +kernel
theorem dX6_reckon_30 : decode cX6_reckon 30 = .ok (.imul, 1) := by decide +kernel
theorem dX6_reckon_31 : decode cX6_reckon 31 = .ok (.iload_n 3, 1) := by decide +kernel
theorem dX6_reckon_32 : decode cX6_reckon 32 = .ok (.iadd, 1) := by decide +kernel
theorem dX6_reckon_33 : decode cX6_reckon 33 = .ok (.iload 4, 2) := by decide +kernel
theorem dX6_reckon_35 : decode cX6_reckon 35 = .ok (.iastore, 1) := by decide +kernel
theorem dX6_reckon_36 : decode cX6_reckon 36 = .ok (.iload 4, 2) := by decide +kernel
theorem dX6_reckon_38 : decode cX6_reckon 38 = .ok (.iconst (-1), 1) := by decide +kernel
theorem dX6_reckon_39 : decode cX6_reckon 39 = .ok (.if_icmp .eq 17, 3) := by decide +kernel
theorem dX6_reckon_42 : decode cX6_reckon 42 = .ok (.iload_n 2, 1) := by decide +kernel
theorem dX6_reckon_43 : decode cX6_reckon 43 = .ok (.iconst (-1), 1) := by decide +kernel
theorem dX6_reckon_44 : decode cX6_reckon 44 = .ok (.if_icmp .eq 9, 3) := by decide +kernel
theorem dX6_reckon_47 : decode cX6_reckon 47 = .ok (.iload 4, 2) := by decide +kernel
theorem dX6_reckon_49 : decode cX6_reckon 49 = .ok (.iload_n 2, 1) := by decide +kernel
theorem dX6_reckon_50 : decode cX6_reckon 50 = .ok (.if_icmp .ge 6, 3) := by decide +kernel
theorem dX6_reckon_53 : decode cX6_reckon 53 = .ok (.iload 4, 2) := by decide +kernel
theorem dX6_reckon_55 : decode cX6_reckon 55 = .ok (.istore_n 2, 1) := by decide +kernel
theorem dX6_reckon_56 : decode cX6_reckon 56 = .ok (.iinc 3 1, 3) := by decide +kernel
theorem dX6_reckon_59 : decode cX6_reckon 59 = .ok (.goto (-50), 3) := by decide +kernel
theorem dX6_reckon_62 : decode cX6_reckon 62 = .ok (.aload_n 0, 1) := by decide +kernel
theorem dX6_reckon_63 : decode cX6_reckon 63 = .ok (.getfield 31, 3) := by decide +kernel
theorem dX6_reckon_66 : decode cX6_reckon 66 = .ok (.iload_n 1, 1) := by decide +kernel
theorem dX6_reckon_67 : decode cX6_reckon 67 = .ok (.iload_n 2, 1) := by decide +kernel
theorem dX6_reckon_68 : decode cX6_reckon 68 = .ok (.iastore, 1) := by decide +kernel
theorem dX6_reckon_69 : decode cX6_reckon 69 = .ok (.return_, 1) := by decide +kernel
theorem dX6_reckonTime_0 : decode cX6_reckonTime 0 = .ok (.iload_n 2, 1) := by decide +kernel
theorem dX6_reckonTime_1 : decode cX6_reckonTime 1 = .ok (.bipush 10, 2) := by decide +kernel
theorem dX6_reckonTime_3 : decode cX6_reckonTime 3 = .ok (.imul, 1) := by decide +kernel
theorem dX6_reckonTime_4 : decode cX6_reckonTime 4 = .ok (.iload_n 1, 1) := by decide +kernel
theorem dX6_reckonTime_5 : decode cX6_reckonTime 5 = .ok (.iadd, 1) := by decide +kernel
theorem dX6_reckonTime_6 : decode cX6_reckonTime 6 = .ok (.istore_n 3, 1) := by decide +kernel
theorem dX6_reckonTime_7 : decode cX6_reckonTime 7 = .ok (.aload_n 0, 1) := by decide +kernel
theorem dX6_reckonTime_8 : decode cX6_reckonTime 8 = .ok (.getfield 18, 3) := by decide +kernel
theorem dX6_reckonTime_11 : decode cX6_reckonTime 11 = .ok (.iload_n 3, 1) := by decide +kernel
theorem dX6_reckonTime_12 : decode cX6_reckonTime 12 = .ok (.iaload, 1) := by decide +kernel
theorem dX6_reckonTime_13 : decode cX6_reckonTime 13 = .ok (.iconst (-1), 1) := by decide +kernel
theorem dX6_reckonTime_14 : decode cX6_reckonTime 14 = .ok (.if_icmp .eq 10, 3) := by decide +kernel
theorem dX6_reckonTime_17 : decode cX6_reckonTime 17 = .ok (.aload_n 0, 1) := by decide +kernel
theorem dX6_reckonTime_18 : decode cX6_reckonTime 18 = .ok (.getfield 18, 3) := by decide +kernel
theorem dX6_reckonTime_21 : decode cX6_reckonTime 21 = .ok (.iload_n 3, 1) := by decide +kernel
theorem dX6_reckonTime_22 : decode cX6_reckonTime 22 = .ok (.iaload, 1) := by decide +kernel
theorem dX6_reckonTime_23 : decode cX6_reckonTime 23 = .ok (.ireturn, 1) := by decide +kernel
theorem dX6_reckonTime_24 : decode cX6_reckonTime 24 = .ok (.aload_n 0, 1) := by decide +kernel
theorem dX6_reckonTime_25 : decode cX6_reckonTime 25 = .ok (.getfield 21, 3) := by decide +kernel
theorem dX6_reckonTime_28 : decode cX6_reckonTime 28 = .ok (.iload_n 3, 1) := by decide +kernel
theorem dX6_reckonTime_29 : decode cX6_reckonTime 29 = .ok (.baload, 1) := by decide +kernel
theorem dX6_reckonTime_30 : decode cX6_reckonTime 30 = .ok (.ifCond .eq 12, 3) := by decide +kernel
theorem dX6_reckonTime_33 : decode cX6_reckonTime 33 = .ok (.aload_n 0, 1) := by decide +kernel
theorem dX6_reckonTime_34 : decode cX6_reckonTime 34 = .ok (.iload_n 1, 1) := by decide +kernel
theorem dX6_reckonTime_35 : decode cX6_reckonTime 35 = .ok (.iload_n 2, 1) := by decide +kernel
theorem dX6_reckonTime_36 : decode cX6_reckonTime 36 = .ok (.invokevirtual 76, 3) := by decide +kernel
theorem dX6_reckonTime_39 : decode cX6_reckonTime 39 = .ok (.goto 9, 3) := by decide +kernel
theorem dX6_reckonTime_42 : decode cX6_reckonTime 42 = .ok (.aload_n 0, 1) := by decide +kernel
theorem dX6_reckonTime_43 : decode cX6_reckonTime 43 = .ok (.getfield 25, 3) := by decide +kernel
theorem dX6_reckonTime_46 : decode cX6_reckonTime 46 = .ok (.iload_n 3, 1) := by decide +kernel
theorem dX6_reckonTime_47 : decode cX6_reckonTime 47 = .ok (.iaload, 1) := by decide +kernel
theorem dX6_reckonTime_48 : decode cX6_reckonTime 48 = .ok (.ireturn, 1) := by decide +kernel
theorem dX6_reckonOwnTimes_0 : decode cX6_reckonOwnTimes 0 = .ok (.aload_n 0, 1) := by decide +kernel
theorem dX6_reckonOwnTimes_1 : decode cX6_reckonOwnTimes 1 = .ok (.iload_n 1, 1) := by decide +kernel
theorem dX6_reckonOwnTimes_2 : decode cX6_reckonOwnTimes 2 = .ok (.invokevirtual 79, 3) := by decide +kernel
theorem dX6_reckonOwnTimes_5 : decode cX6_reckonOwnTimes 5 = .ok (.istore_n 2, 1) := by decide +kernel
theorem dX6_reckonOwnTimes_6 : decode cX6_reckonOwnTimes 6 = .ok (.iconst 0, 1) := by decide +kernel
theorem dX6_reckonOwnTimes_7 : decode cX6_reckonOwnTimes 7 = .ok (.istore_n 3, 1) := by decide +kernel
theorem dX6_reckonOwnTimes_8 : decode cX6_reckonOwnTimes 8 = .ok (.iload_n 3, 1) := by decide +kernel
theorem dX6_reckonOwnTimes_9 : decode cX6_reckonOwnTimes 9 = .ok (.bipush 10, 2) := by decide +kernel
theorem dX6_reckonOwnTimes_11 : decode cX6_reckonOwnTimes 11 = .ok (.if_icmp .ge 94, 3) := by decide +kernel
theorem dX6_reckonOwnTimes_14 : decode cX6_reckonOwnTimes 14 = .ok (.iload_n 1, 1) := by decide +kernel
theorem dX6_reckonOwnTimes_15 : decode cX6_reckonOwnTimes 15 = .ok (.bipush 10, 2) := by decide +kernel
theorem dX6_reckonOwnTimes_17 : decode cX6_reckonOwnTimes 17 = .ok (.imul, 1) := by decide +kernel
theorem dX6_reckonOwnTimes_18 : decode cX6_reckonOwnTimes 18 = .ok (.iload_n 3, 1) := by decide +kernel
theorem dX6_reckonOwnTimes_19 : decode cX6_reckonOwnTimes 19 = .ok (.iadd, 1) := by decide +kernel
theorem dX6_reckonOwnTimes_20 : decode cX6_reckonOwnTimes 20 = .ok (.istore 4, 2) := by decide +kernel
theorem dX6_reckonOwnTimes_22 : decode cX6_reckonOwnTimes 22 = .ok (.aload_n 0, 1) := by decide +kernel
theorem dX6_reckonOwnTimes_23 : decode cX6_reckonOwnTimes 23 = .ok (.getfield 9, 3) := by decide +kernel
theorem dX6_reckonOwnTimes_26 : decode cX6_reckonOwnTimes 26 = .ok (.iload 4, 2) := by decide +kernel
theorem dX6_reckonOwnTimes_28 : decode cX6_reckonOwnTimes 28 = .ok (.iaload, 1) := by decide +kernel
theorem dX6_reckonOwnTimes_29 : decode cX6_reckonOwnTimes 29 = .ok (.iconst (-1), 1) := by decide +kernel
theorem dX6_reckonOwnTimes_30 : decode cX6_reckonOwnTimes 30 = .ok (.if_icmp .ne 14, 3) := by decide +kernel
theorem dX6_reckonOwnTimes_33 : decode cX6_reckonOwnTimes 33 = .ok (.aload_n 0, 1) := by decide +kernel
theorem dX6_reckonOwnTimes_34 : decode cX6_reckonOwnTimes 34 = .ok (.getfield 15, 3) := by decide +kernel
theorem dX6_reckonOwnTimes_37 : decode cX6_reckonOwnTimes 37 = .ok (.iload 4, 2) := by decide +kernel
theorem dX6_reckonOwnTimes_39 : decode cX6_reckonOwnTimes 39 = .ok (.iaload, 1) := by decide +kernel
theorem dX6_reckonOwnTimes_40 : decode cX6_reckonOwnTimes 40 = .ok (.iconst (-1), 1) := by decide +kernel
theorem dX6_reckonOwnTimes_41 : decode cX6_reckonOwnTimes 41 = .ok (.if_icmp .eq 58, 3) := by decide +kernel
theorem dX6_reckonOwnTimes_44 : decode cX6_reckonOwnTimes 44 = .ok (.aload_n 0, 1) := by decide +kernel
theorem dX6_reckonOwnTimes_45 : decode cX6_reckonOwnTimes 45 = .ok (.getfield 9, 3) := by decide +kernel
theorem dX6_reckonOwnTimes_48 : decode cX6_reckonOwnTimes 48 = .ok (.iload 4, 2) := by decide +kernel
theorem dX6_reckonOwnTimes_50 : decode cX6_reckonOwnTimes 50 = .ok (.iaload, 1) := by decide +kernel
theorem dX6_reckonOwnTimes_51 : decode cX6_reckonOwnTimes 51 = .ok (.iconst (-1), 1) := by decide +kernel
theorem dX6_reckonOwnTimes_52 : decode cX6_reckonOwnTimes 52 = .ok (.if_icmp .eq 13, 3) := by decide +kernel
theorem dX6_reckonOwnTimes_55 : decode cX6_reckonOwnTimes 55 = .ok (.aload_n 0, 1) := by decide +kernel
theorem dX6_reckonOwnTimes_56 : decode cX6_reckonOwnTimes 56 = .ok (.getfield 9, 3) := by decide +kernel
theorem dX6_reckonOwnTimes_59 : decode cX6_reckonOwnTimes 59 = .ok (.iload 4, 2) := by decide +kernel
theorem dX6_reckonOwnTimes_61 : decode cX6_reckonOwnTimes 61 = .ok (.iaload, 1) := by decide +kernel
theorem dX6_reckonOwnTimes_62 : decode cX6_reckonOwnTimes 62 = .ok (.goto 12, 3) := by decide +kernel
theorem dX6_reckonOwnTimes_65 : decode cX6_reckonOwnTimes 65 = .ok (.aload_n 0, 1) := by decide +kernel
theorem dX6_reckonOwnTimes_66 : decode cX6_reckonOwnTimes 66 = .ok (.getfield 15, 3) := by decide +kernel
theorem dX6_reckonOwnTimes_69 : decode cX6_reckonOwnTimes 69 = .ok (.iload 4, 2) := by decide +kernel
theorem dX6_reckonOwnTimes_71 : decode cX6_reckonOwnTimes 71 = .ok (.iaload, 1) := by decide +kernel
theorem dX6_reckonOwnTimes_72 : decode cX6_reckonOwnTimes 72 = .ok (.iload_n 2, 1) := by decide +kernel
theorem dX6_reckonOwnTimes_73 : decode cX6_reckonOwnTimes 73 = .ok (.iadd, 1) := by decide +kernel
theorem dX6_reckonOwnTimes_74 : decode cX6_reckonOwnTimes 74 = .ok (.istore 5, 2) := by decide +kernel
theorem dX6_reckonOwnTimes_76 : decode cX6_reckonOwnTimes 76 = .ok (.aload_n 0, 1) := by decide +kernel
theorem dX6_reckonOwnTimes_77 : decode cX6_reckonOwnTimes 77 = .ok (.getfield 25, 3) := by decide +kernel
theorem dX6_reckonOwnTimes_80 : decode cX6_reckonOwnTimes 80 = .ok (.iload 4, 2) := by decide +kernel
theorem dX6_reckonOwnTimes_82 : decode cX6_reckonOwnTimes 82 = .ok (.iconst 0, 1) := by decide +kernel
theorem dX6_reckonOwnTimes_83 : decode cX6_reckonOwnTimes 83 = .ok (.iload 5, 2) := by decide +kernel
theorem dX6_reckonOwnTimes_85 : decode cX6_reckonOwnTimes 85 = .ok (.aload_n 0, 1) := by decide +kernel
theorem dX6_reckonOwnTimes_86 : decode cX6_reckonOwnTimes 86 = .ok (.getfield 42, 3) := by decide +kernel
theorem dX6_reckonOwnTimes_89 : decode cX6_reckonOwnTimes 89 = .ok (.iload_n 3, 1) := by decide +kernel
theorem dX6_reckonOwnTimes_90 : decode cX6_reckonOwnTimes 90 = .ok (.iload_n 1, 1) := by decide +kernel
theorem dX6_reckonOwnTimes_91 : decode cX6_reckonOwnTimes 91 = .ok (.invokevirtual 82, 3) := by decide +kernel
theorem dX6_reckonOwnTimes_94 : decode cX6_reckonOwnTimes 94 = .ok (.isub, 1) := by decide +kernel
theorem dX6_reckonOwnTimes_95 : decode cX6_reckonOwnTimes 95 = .ok (.invokestatic 87, 3) := by decide +kernel
theorem dX6_reckonOwnTimes_98 : decode cX6_reckonOwnTimes 98 = .ok (.iastore, 1) := by decide +kernel
theorem dX6_reckonOwnTimes_99 : decode cX6_reckonOwnTimes 99 = .ok (.iinc 3 1, 3) := by decide +kernel
theorem dX6_reckonOwnTimes_102 : decode cX6_reckonOwnTimes 102 = .ok (.goto (-94), 3) := by decide +kernel
theorem dX6_reckonOwnTimes_105 : decode cX6_reckonOwnTimes 105 = .ok (.return_, 1) := by decide +kernel
theorem dX6_beamLead_0 : decode cX6_beamLead 0 = .ok (.iconst 0, 1) := by decide +kernel
theorem dX6_beamLead_1 : decode cX6_beamLead 1 = .ok (.istore_n 2, 1) := by decide +kernel
theorem dX6_beamLead_2 : decode cX6_beamLead 2 = .ok (.iconst 0, 1) := by decide +kernel
theorem dX6_beamLead_3 : decode cX6_beamLead 3 = .ok (.istore_n 3, 1) := by decide +kernel
theorem dX6_beamLead_4 : decode cX6_beamLead 4 = .ok (.iconst 0, 1) := by decide +kernel
theorem dX6_beamLead_5 : decode cX6_beamLead 5 = .ok (.istore 4, 2) := by decide +kernel
theorem dX6_beamLead_7 : decode cX6_beamLead 7 = .ok (.iload 4, 2) := by decide +kernel
theorem dX6_beamLead_9 : decode cX6_beamLead 9 = .ok (.bipush 10, 2) := by decide +kernel
theorem dX6_beamLead_11 : decode cX6_beamLead 11 = .ok (.if_icmp .ge 61, 3) := by decide +kernel
theorem dX6_beamLead_14 : decode cX6_beamLead 14 = .ok (.iload_n 1, 1) := by decide +kernel
theorem dX6_beamLead_15 : decode cX6_beamLead 15 = .ok (.bipush 10, 2) := by decide +kernel
theorem dX6_beamLead_17 : decode cX6_beamLead 17 = .ok (.imul, 1) := by decide +kernel
theorem dX6_beamLead_18 : decode cX6_beamLead 18 = .ok (.iload 4, 2) := by decide +kernel
theorem dX6_beamLead_20 : decode cX6_beamLead 20 = .ok (.iadd, 1) := by decide +kernel
theorem dX6_beamLead_21 : decode cX6_beamLead 21 = .ok (.istore 5, 2) := by decide +kernel
theorem dX6_beamLead_23 : decode cX6_beamLead 23 = .ok (.aload_n 0, 1) := by decide +kernel
theorem dX6_beamLead_24 : decode cX6_beamLead 24 = .ok (.getfield 9, 3) := by decide +kernel
theorem dX6_beamLead_27 : decode cX6_beamLead 27 = .ok (.iload 5, 2) := by decide +kernel
theorem dX6_beamLead_29 : decode cX6_beamLead 29 = .ok (.iaload, 1) := by decide +kernel
theorem dX6_beamLead_30 : decode cX6_beamLead 30 = .ok (.iconst (-1), 1) := by decide +kernel
theorem dX6_beamLead_31 : decode cX6_beamLead 31 = .ok (.if_icmp .eq 35, 3) := by decide +kernel
theorem dX6_beamLead_34 : decode cX6_beamLead 34 = .ok (.aload_n 0, 1) := by decide +kernel
theorem dX6_beamLead_35 : decode cX6_beamLead 35 = .ok (.getfield 15, 3) := by decide +kernel
theorem dX6_beamLead_38 : decode cX6_beamLead 38 = .ok (.iload 5, 2) := by decide +kernel
theorem dX6_beamLead_40 : decode cX6_beamLead 40 = .ok (.iaload, 1) := by decide +kernel
theorem dX6_beamLead_41 : decode cX6_beamLead 41 = .ok (.iconst (-1), 1) := by decide +kernel
theorem dX6_beamLead_42 : decode cX6_beamLead 42 = .ok (.if_icmp .eq 24, 3) := by decide +kernel
theorem dX6_beamLead_45 : decode cX6_beamLead 45 = .ok (.iload_n 2, 1) := by decide +kernel
theorem dX6_beamLead_46 : decode cX6_beamLead 46 = .ok (.aload_n 0, 1) := by decide +kernel
theorem dX6_beamLead_47 : decode cX6_beamLead 47 = .ok (.getfield 9, 3) := by decide +kernel
theorem dX6_beamLead_50 : decode cX6_beamLead 50 = .ok (.iload 5, 2) := by decide +kernel
theorem dX6_beamLead_52 : decode cX6_beamLead 52 = .ok (.iaload, 1) := by decide +kernel
theorem dX6_beamLead_53 : decode cX6_beamLead 53 = .ok (.aload_n 0, 1) := by decide +kernel
theorem dX6_beamLead_54 : decode cX6_beamLead 54 = .ok (.getfield 15, 3) := by decide +kernel
theorem dX6_beamLead_57 : decode cX6_beamLead 57 = .ok (.iload 5, 2) := by decide +kernel
theorem dX6_beamLead_59 : decode cX6_beamLead 59 = .ok (.iaload, 1) := by decide +kernel
theorem dX6_beamLead_60 : decode cX6_beamLead 60 = .ok (.isub, 1) := by decide +kernel
theorem dX6_beamLead_61 : decode cX6_beamLead 61 = .ok (.iadd, 1) := by decide +kernel
theorem dX6_beamLead_62 : decode cX6_beamLead 62 = .ok (.istore_n 2, 1) := by decide +kernel
theorem dX6_beamLead_63 : decode cX6_beamLead 63 = .ok (.iinc 3 1, 3) := by decide +kernel
theorem dX6_beamLead_66 : decode cX6_beamLead 66 = .ok (.iinc 4 1, 3) := by decide +kernel
theorem dX6_beamLead_69 : decode cX6_beamLead 69 = .ok (.goto (-62), 3) := by decide +kernel
theorem dX6_beamLead_72 : decode cX6_beamLead 72 = .ok (.iload_n 3, 1) := by decide +kernel
theorem dX6_beamLead_73 : decode cX6_beamLead 73 = .ok (.ifCond .ne 7, 3) := by decide +kernel
theorem dX6_beamLead_76 : decode cX6_beamLead 76 = .ok (.iconst 0, 1) := by decide +kernel
theorem dX6_beamLead_77 : decode cX6_beamLead 77 = .ok (.goto 8, 3) := by decide +kernel
theorem dX6_beamLead_80 : decode cX6_beamLead 80 = .ok (.iload_n 2, 1) := by decide +kernel
theorem dX6_beamLead_81 : decode cX6_beamLead 81 = .ok (.iload_n 3, 1) := by decide +kernel
theorem dX6_beamLead_82 : decode cX6_beamLead 82 = .ok (.invokestatic 92, 3) := by decide +kernel
theorem dX6_beamLead_85 : decode cX6_beamLead 85 = .ok (.ireturn, 1) := by decide +kernel
theorem dX6_notionalTime_0 : decode cX6_notionalTime 0 = .ok (.aload_n 0, 1) := by decide +kernel
theorem dX6_notionalTime_1 : decode cX6_notionalTime 1 = .ok (.getfield 34, 3) := by decide +kernel
theorem dX6_notionalTime_4 : decode cX6_notionalTime 4 = .ok (.iload_n 2, 1) := by decide +kernel
theorem dX6_notionalTime_5 : decode cX6_notionalTime 5 = .ok (.invokevirtual 95, 3) := by decide +kernel
theorem dX6_notionalTime_8 : decode cX6_notionalTime 8 = .ok (.istore_n 3, 1) := by decide +kernel
theorem dX6_notionalTime_9 : decode cX6_notionalTime 9 = .ok (.aload_n 0, 1) := by decide +kernel
theorem dX6_notionalTime_10 : decode cX6_notionalTime 10 = .ok (.getfield 38, 3) := by decide +kernel
theorem dX6_notionalTime_13 : decode cX6_notionalTime 13 = .ok (.iload_n 3, 1) := by decide +kernel
theorem dX6_notionalTime_14 : decode cX6_notionalTime 14 = .ok (.iload_n 1, 1) := by decide +kernel
theorem dX6_notionalTime_15 : decode cX6_notionalTime 15 = .ok (.invokevirtual 98, 3) := by decide +kernel
theorem dX6_notionalTime_18 : decode cX6_notionalTime 18 = .ok (.istore 4, 2) := by decide +kernel
theorem dX6_notionalTime_20 : decode cX6_notionalTime 20 = .ok (.iconst (-1), 1) := by decide +kernel
theorem dX6_notionalTime_21 : decode cX6_notionalTime 21 = .ok (.istore 5, 2) := by decide +kernel
theorem dX6_notionalTime_23 : decode cX6_notionalTime 23 = .ok (.iload 4, 2) := by decide +kernel
theorem dX6_notionalTime_25 : decode cX6_notionalTime 25 = .ok (.iconst 1, 1) := by decide +kernel
theorem dX6_notionalTime_26 : decode cX6_notionalTime 26 = .ok (.isub, 1) := by decide +kernel
theorem dX6_notionalTime_27 : decode cX6_notionalTime 27 = .ok (.istore 6, 2) := by decide +kernel
theorem dX6_notionalTime_29 : decode cX6_notionalTime 29 = .ok (.iload 6, 2) := by decide +kernel
theorem dX6_notionalTime_31 : decode cX6_notionalTime 31 = .ok (.ifCond .lt 32, 3) := by decide +kernel
theorem dX6_notionalTime_34 : decode cX6_notionalTime 34 = .ok (.iload 5, 2) := by decide +kernel
theorem dX6_notionalTime_36 : decode cX6_notionalTime 36 = .ok (.iconst (-1), 1) := by decide +kernel
theorem dX6_notionalTime_37 : decode cX6_notionalTime 37 = .ok (.if_icmp .ne 26, 3) := by decide +kernel
theorem dX6_notionalTime_40 : decode cX6_notionalTime 40 = .ok (.aload_n 0, 1) := by decide +kernel
theorem dX6_notionalTime_41 : decode cX6_notionalTime 41 = .ok (.aload_n 0, 1) := by decide +kernel
theorem dX6_notionalTime_42 : decode cX6_notionalTime 42 = .ok (.getfield 38, 3) := by decide +kernel
theorem dX6_notionalTime_45 : decode cX6_notionalTime 45 = .ok (.iload_n 3, 1) := by decide +kernel
theorem dX6_notionalTime_46 : decode cX6_notionalTime 46 = .ok (.iload 6, 2) := by decide +kernel
theorem dX6_notionalTime_48 : decode cX6_notionalTime 48 = .ok (.invokevirtual 103, 3) := by decide +kernel
theorem dX6_notionalTime_51 : decode cX6_notionalTime 51 = .ok (.iload_n 2, 1) := by decide +kernel
theorem dX6_notionalTime_52 : decode cX6_notionalTime 52 = .ok (.invokevirtual 106, 3) := by decide +kernel
theorem dX6_notionalTime_55 : decode cX6_notionalTime 55 = .ok (.istore 5, 2) := by decide +kernel
theorem dX6_notionalTime_57 : decode cX6_notionalTime 57 = .ok (.iinc 6 (-1), 3) := by decide +kernel
theorem dX6_notionalTime_60 : decode cX6_notionalTime 60 = .ok (.goto (-31), 3) := by decide +kernel
theorem dX6_notionalTime_63 : decode cX6_notionalTime 63 = .ok (.iconst (-1), 1) := by decide +kernel
theorem dX6_notionalTime_64 : decode cX6_notionalTime 64 = .ok (.istore 6, 2) := by decide +kernel
theorem dX6_notionalTime_66 : decode cX6_notionalTime 66 = .ok (.iload 4, 2) := by decide +kernel
theorem dX6_notionalTime_68 : decode cX6_notionalTime 68 = .ok (.iconst 1, 1) := by decide +kernel
theorem dX6_notionalTime_69 : decode cX6_notionalTime 69 = .ok (.iadd, 1) := by decide +kernel
theorem dX6_notionalTime_70 : decode cX6_notionalTime 70 = .ok (.istore 7, 2) := by decide +kernel
theorem dX6_notionalTime_72 : decode cX6_notionalTime 72 = .ok (.iload 7, 2) := by decide +kernel
theorem dX6_notionalTime_74 : decode cX6_notionalTime 74 = .ok (.bipush 10, 2) := by decide +kernel
theorem dX6_notionalTime_76 : decode cX6_notionalTime 76 = .ok (.if_icmp .ge 32, 3) := by decide +kernel
theorem dX6_notionalTime_79 : decode cX6_notionalTime 79 = .ok (.iload 6, 2) := by decide +kernel
theorem dX6_notionalTime_81 : decode cX6_notionalTime 81 = .ok (.iconst (-1), 1) := by decide +kernel
theorem dX6_notionalTime_82 : decode cX6_notionalTime 82 = .ok (.if_icmp .ne 26, 3) := by decide +kernel
theorem dX6_notionalTime_85 : decode cX6_notionalTime 85 = .ok (.aload_n 0, 1) := by decide +kernel
theorem dX6_notionalTime_86 : decode cX6_notionalTime 86 = .ok (.aload_n 0, 1) := by decide +kernel
theorem dX6_notionalTime_87 : decode cX6_notionalTime 87 = .ok (.getfield 38, 3) := by decide +kernel
theorem dX6_notionalTime_90 : decode cX6_notionalTime 90 = .ok (.iload_n 3, 1) := by decide +kernel
theorem dX6_notionalTime_91 : decode cX6_notionalTime 91 = .ok (.iload 7, 2) := by decide +kernel
theorem dX6_notionalTime_93 : decode cX6_notionalTime 93 = .ok (.invokevirtual 103, 3) := by decide +kernel
theorem dX6_notionalTime_96 : decode cX6_notionalTime 96 = .ok (.iload_n 2, 1) := by decide +kernel
theorem dX6_notionalTime_97 : decode cX6_notionalTime 97 = .ok (.invokevirtual 106, 3) := by decide +kernel
theorem dX6_notionalTime_100 : decode cX6_notionalTime 100 = .ok (.istore 6, 2) := by decide +kernel
theorem dX6_notionalTime_102 : decode cX6_notionalTime 102 = .ok (.iinc 7 1, 3) := by decide +kernel
theorem dX6_notionalTime_105 : decode cX6_notionalTime 105 = .ok (.goto (-33), 3) := by decide +kernel
theorem dX6_notionalTime_108 : decode cX6_notionalTime 108 = .ok (.iload 5, 2) := by decide +kernel
theorem dX6_notionalTime_110 : decode cX6_notionalTime 110 = .ok (.iconst (-1), 1) := by decide +kernel
theorem dX6_notionalTime_111 : decode cX6_notionalTime 111 = .ok (.if_icmp .ne 6, 3) := by decide +kernel
theorem dX6_notionalTime_114 : decode cX6_notionalTime 114 = .ok (.iload 6, 2) := by decide +kernel
theorem dX6_notionalTime_116 : decode cX6_notionalTime 116 = .ok (.ireturn, 1) := by decide +kernel
theorem dX6_notionalTime_117 : decode cX6_notionalTime 117 = .ok (.iload 6, 2) := by decide +kernel
theorem dX6_notionalTime_119 : decode cX6_notionalTime 119 = .ok (.iconst (-1), 1) := by decide +kernel
theorem dX6_notionalTime_120 : decode cX6_notionalTime 120 = .ok (.if_icmp .ne 8, 3) := by decide +kernel
theorem dX6_notionalTime_123 : decode cX6_notionalTime 123 = .ok (.iload 5, 2) := by decide +kernel
theorem dX6_notionalTime_125 : decode cX6_notionalTime 125 = .ok (.goto 10, 3) := by decide +kernel
theorem dX6_notionalTime_128 : decode cX6_notionalTime 128 = .ok (.iload 5, 2) := by decide +kernel
theorem dX6_notionalTime_130 : decode cX6_notionalTime 130 = .ok (.iload 6, 2) := by decide +kernel
theorem dX6_notionalTime_132 : decode cX6_notionalTime 132 = .ok (.iadd, 1) := by decide +kernel
theorem dX6_notionalTime_133 : decode cX6_notionalTime 133 = .ok (.iconst 2, 1) := by decide +kernel
theorem dX6_notionalTime_134 : decode cX6_notionalTime 134 = .ok (.idiv, 1) := by decide +kernel
theorem dX6_notionalTime_135 : decode cX6_notionalTime 135 = .ok (.ireturn, 1) := by decide +kernel
theorem dX6_freeTime_0 : decode cX6_freeTime 0 = .ok (.iload_n 1, 1) := by decide +kernel
theorem dX6_freeTime_1 : decode cX6_freeTime 1 = .ok (.iconst (-1), 1) := by decide +kernel
theorem dX6_freeTime_2 : decode cX6_freeTime 2 = .ok (.if_icmp .eq 17, 3) := by decide +kernel
theorem dX6_freeTime_5 : decode cX6_freeTime 5 = .ok (.aload_n 0, 1) := by decide +kernel
theorem dX6_freeTime_6 : decode cX6_freeTime 6 = .ok (.getfield 21, 3) := by decide +kernel
theorem dX6_freeTime_9 : decode cX6_freeTime 9 = .ok (.iload_n 2, 1) := by decide +kernel
theorem dX6_freeTime_10 : decode cX6_freeTime 10 = .ok (.bipush 10, 2) := by decide +kernel
theorem dX6_freeTime_12 : decode cX6_freeTime 12 = .ok (.imul, 1) := by decide +kernel
theorem dX6_freeTime_13 : decode cX6_freeTime 13 = .ok (.iload_n 1, 1) := by decide +kernel
theorem dX6_freeTime_14 : decode cX6_freeTime 14 = .ok (.iadd, 1) := by decide +kernel
theorem dX6_freeTime_15 : decode cX6_freeTime 15 = .ok (.baload, 1) := by decide +kernel
theorem dX6_freeTime_16 : decode cX6_freeTime 16 = .ok (.ifCond .eq 5, 3) := by decide +kernel
theorem dX6_freeTime_19 : decode cX6_freeTime 19 = .ok (.iconst (-1), 1) := by decide +kernel
theorem dX6_freeTime_20 : decode cX6_freeTime 20 = .ok (.ireturn, 1) := by decide +kernel
theorem dX6_freeTime_21 : decode cX6_freeTime 21 = .ok (.aload_n 0, 1) := by decide +kernel
theorem dX6_freeTime_22 : decode cX6_freeTime 22 = .ok (.getfield 25, 3) := by decide +kernel
theorem dX6_freeTime_25 : decode cX6_freeTime 25 = .ok (.iload_n 2, 1) := by decide +kernel
theorem dX6_freeTime_26 : decode cX6_freeTime 26 = .ok (.bipush 10, 2) := by decide +kernel
theorem dX6_freeTime_28 : decode cX6_freeTime 28 = .ok (.imul, 1) := by decide +kernel
theorem dX6_freeTime_29 : decode cX6_freeTime 29 = .ok (.iload_n 1, 1) := by decide +kernel
theorem dX6_freeTime_30 : decode cX6_freeTime 30 = .ok (.iadd, 1) := by decide +kernel
theorem dX6_freeTime_31 : decode cX6_freeTime 31 = .ok (.iaload, 1) := by decide +kernel
theorem dX6_freeTime_32 : decode cX6_freeTime 32 = .ok (.ireturn, 1) := by decide +kernel
theorem dX7_init_0 : decode cX7_init 0 = .ok (.aload_n 0, 1) := by decide +kernel
theorem dX7_init_1 : decode cX7_init 1 = .ok (.invokespecial 3, 3) := by decide +kernel
theorem dX7_init_4 : decode cX7_init 4 = .ok (.aload_n 0, 1) := by decide +kernel
theorem dX7_init_5 : decode cX7_init 5 = .ok (.sipush 1000, 3) := by decide +kernel
theorem dX7_init_8 : decode cX7_init 8 = .ok (.newarray .boolean, 2) := by decide +kernel
theorem dX7_init_10 : decode cX7_init 10 = .ok (.putfield 9, 3) := by decide +kernel
theorem dX7_init_13 : decode cX7_init 13 = .ok (.aload_n 0, 1) := by decide +kernel
theorem dX7_init_14 : decode cX7_init 14 = .ok (.sipush 1000, 3) := by decide +kernel
theorem dX7_init_17 : decode cX7_init 17 = .ok (.newarray .boolean, 2) := by decide +kernel
theorem dX7_init_19 : decode cX7_init 19 = .ok (.putfield 15, 3) := by decide +kernel
theorem dX7_init_22 : decode cX7_init 22 = .ok (.aload_n 0, 1) := by decide +kernel
theorem dX7_init_23 : decode cX7_init 23 = .ok (.bipush 10, 2) := by decide +kernel
theorem dX7_init_25 : decode cX7_init 25 = .ok (.newarray .int, 2) := by decide +kernel
theorem dX7_init_27 : decode cX7_init 27 = .ok (.putfield 18, 3) := by decide +kernel
theorem dX7_init_30 : decode cX7_init 30 = .ok (.aload_n 0, 1) := by decide +kernel
theorem dX7_init_31 : decode cX7_init 31 = .ok (.bipush 10, 2) := by decide +kernel
theorem dX7_init_33 : decode cX7_init 33 = .ok (.newarray .int, 2) := by decide +kernel
theorem dX7_init_35 : decode cX7_init 35 = .ok (.putfield 22, 3) := by decide +kernel
theorem dX7_init_38 : decode cX7_init 38 = .ok (.return_, 1) := by decide +kernel
theorem dX7_takes_0 : decode cX7_takes 0 = .ok (.aload_n 0, 1) := by decide +kernel
theorem dX7_takes_1 : decode cX7_takes 1 = .ok (.getfield 18, 3) := by decide +kernel
theorem dX7_takes_4 : decode cX7_takes 4 = .ok (.iload_n 1, 1) := by decide +kernel
theorem dX7_takes_5 : decode cX7_takes 5 = .ok (.iaload, 1) := by decide +kernel
theorem dX7_takes_6 : decode cX7_takes 6 = .ok (.bipush 6, 2) := by decide +kernel
theorem dX7_takes_8 : decode cX7_takes 8 = .ok (.if_icmp .ge 21, 3) := by decide +kernel
theorem dX7_takes_11 : decode cX7_takes 11 = .ok (.aload_n 0, 1) := by decide +kernel
theorem dX7_takes_12 : decode cX7_takes 12 = .ok (.getfield 9, 3) := by decide +kernel
theorem dX7_takes_15 : decode cX7_takes 15 = .ok (.iload_n 1, 1) := by decide +kernel
theorem dX7_takes_16 : decode cX7_takes 16 = .ok (.bipush 100, 2) := by decide +kernel
theorem dX7_takes_18 : decode cX7_takes 18 = .ok (.imul, 1) := by decide +kernel
theorem dX7_takes_19 : decode cX7_takes 19 = .ok (.iload_n 2, 1) := by decide +kernel
theorem dX7_takes_20 : decode cX7_takes 20 = .ok (.iadd, 1) := by decide +kernel
theorem dX7_takes_21 : decode cX7_takes 21 = .ok (.baload, 1) := by decide +kernel
theorem dX7_takes_22 : decode cX7_takes 22 = .ok (.ifCond .ne 7, 3) := by decide +kernel
theorem dX7_takes_25 : decode cX7_takes 25 = .ok (.iconst 1, 1) := by decide +kernel
theorem dX7_takes_26 : decode cX7_takes 26 = .ok (.goto 4, 3) := by decide +kernel
theorem dX7_takes_29 : decode cX7_takes 29 = .ok (.iconst 0, 1) := by decide +kernel
theorem dX7_takes_30 : decode cX7_takes 30 = .ok (.ireturn, 1) := by decide +kernel
theorem dX7_add_0 : decode cX7_add 0 = .ok (.aload_n 0, 1) := by decide +kernel
theorem dX7_add_1 : decode cX7_add 1 = .ok (.getfield 9, 3) := by decide +kernel
theorem dX7_add_4 : decode cX7_add 4 = .ok (.iload_n 1, 1) := by decide +kernel
theorem dX7_add_5 : decode cX7_add 5 = .ok (.bipush 100, 2) := by decide +kernel
theorem dX7_add_7 : decode cX7_add 7 = .ok (.imul, 1) := by decide +kernel
theorem dX7_add_8 : decode cX7_add 8 = .ok (.iload_n 2, 1) := by decide +kernel
theorem dX7_add_9 : decode cX7_add 9 = .ok (.iadd, 1) := by decide +kernel
theorem dX7_add_10 : decode cX7_add 10 = .ok (.iconst 1, 1) := by decide +kernel
theorem dX7_add_11 : decode cX7_add 11 = .ok (.bastore, 1) := by decide +kernel
theorem dX7_add_12 : decode cX7_add 12 = .ok (.aload_n 0, 1) := by decide +kernel
theorem dX7_add_13 : decode cX7_add 13 = .ok (.getfield 18, 3) := by decide +kernel
theorem dX7_add_16 : decode cX7_add 16 = .ok (.iload_n 1, 1) := by decide +kernel
theorem dX7_add_17 : decode cX7_add 17 = .ok (.dup2, 1) := by decide +kernel
theorem dX7_add_18 : decode cX7_add 18 = .ok (.iaload, 1) := by decide +kernel
theorem dX7_add_19 : decode cX7_add 19 = .ok (.iconst 1, 1) := by decide +kernel
theorem dX7_add_20 : decode cX7_add 20 = .ok (.iadd, 1) := by decide +kernel
theorem dX7_add_21 : decode cX7_add 21 = .ok (.iastore, 1) := by decide +kernel
theorem dX7_add_22 : decode cX7_add 22 = .ok (.aload_n 0, 1) := by decide +kernel
theorem dX7_add_23 : decode cX7_add 23 = .ok (.getfield 18, 3) := by decide +kernel
theorem dX7_add_26 : decode cX7_add 26 = .ok (.iload_n 1, 1) := by decide +kernel
theorem dX7_add_27 : decode cX7_add 27 = .ok (.iaload, 1) := by decide +kernel
theorem dX7_add_28 : decode cX7_add 28 = .ok (.ireturn, 1) := by decide +kernel
theorem dX7_check_0 : decode cX7_check 0 = .ok (.iload_n 1, 1) := by decide +kernel
theorem dX7_check_1 : decode cX7_check 1 = .ok (.bipush 100, 2) := by decide +kernel
theorem dX7_check_3 : decode cX7_check 3 = .ok (.imul, 1) := by decide +kernel
theorem dX7_check_4 : decode cX7_check 4 = .ok (.iload_n 2, 1) := by decide +kernel
theorem dX7_check_5 : decode cX7_check 5 = .ok (.iadd, 1) := by decide +kernel
theorem dX7_check_6 : decode cX7_check 6 = .ok (.istore_n 3, 1) := by decide +kernel
theorem dX7_check_7 : decode cX7_check 7 = .ok (.aload_n 0, 1) := by decide +kernel
theorem dX7_check_8 : decode cX7_check 8 = .ok (.getfield 9, 3) := by decide +kernel
theorem dX7_check_11 : decode cX7_check 11 = .ok (.iload_n 3, 1) := by decide +kernel
theorem dX7_check_12 : decode cX7_check 12 = .ok (.baload, 1) := by decide +kernel
theorem dX7_check_13 : decode cX7_check 13 = .ok (.ifCond .ne 12, 3) := by decide +kernel
theorem dX7_check_16 : decode cX7_check 16 = .ok (.aload_n 0, 1) := by decide +kernel
theorem dX7_check_17 : decode cX7_check 17 = .ok (.getfield 15, 3) := by decide +kernel
theorem dX7_check_20 : decode cX7_check 20 = .ok (.iload_n 3, 1) := by decide +kernel
theorem dX7_check_21 : decode cX7_check 21 = .ok (.baload, 1) := by decide +kernel
theorem dX7_check_22 : decode cX7_check 22 = .ok (.ifCond .eq 5, 3) := by decide +kernel
theorem dX7_check_25 : decode cX7_check 25 = .ok (.iconst 0, 1) := by decide +kernel
theorem dX7_check_26 : decode cX7_check 26 = .ok (.ireturn, 1) := by decide +kernel
theorem dX7_check_27 : decode cX7_check 27 = .ok (.aload_n 0, 1) := by decide +kernel
theorem dX7_check_28 : decode cX7_check 28 = .ok (.getfield 15, 3) := by decide +kernel
theorem dX7_check_31 : decode cX7_check 31 = .ok (.iload_n 3, 1) := by decide +kernel
theorem dX7_check_32 : decode cX7_check 32 = .ok (.iconst 1, 1) := by decide +kernel
theorem dX7_check_33 : decode cX7_check 33 = .ok (.bastore, 1) := by decide +kernel
theorem dX7_check_34 : decode cX7_check 34 = .ok (.aload_n 0, 1) := by decide +kernel
theorem dX7_check_35 : decode cX7_check 35 = .ok (.getfield 22, 3) := by decide +kernel
theorem dX7_check_38 : decode cX7_check 38 = .ok (.iload_n 1, 1) := by decide +kernel
theorem dX7_check_39 : decode cX7_check 39 = .ok (.dup2, 1) := by decide +kernel
theorem dX7_check_40 : decode cX7_check 40 = .ok (.iaload, 1) := by decide +kernel
theorem dX7_check_41 : decode cX7_check 41 = .ok (.sipush 600, 3) := by decide +kernel
theorem dX7_check_44 : decode cX7_check 44 = .ok (.iadd, 1) := by decide +kernel
theorem dX7_check_45 : decode cX7_check 45 = .ok (.iastore, 1) := by decide +kernel
theorem dX7_check_46 : decode cX7_check 46 = .ok (.sipush 600, 3) := by decide +kernel
theorem dX7_check_49 : decode cX7_check 49 = .ok (.ireturn, 1) := by decide +kernel
theorem dX7_penaltiesOf_0 : decode cX7_penaltiesOf 0 = .ok (.aload_n 0, 1) := by decide +kernel
theorem dX7_penaltiesOf_1 : decode cX7_penaltiesOf 1 = .ok (.getfield 22, 3) := by decide +kernel
theorem dX7_penaltiesOf_4 : decode cX7_penaltiesOf 4 = .ok (.iload_n 1, 1) := by decide +kernel
theorem dX7_penaltiesOf_5 : decode cX7_penaltiesOf 5 = .ok (.iaload, 1) := by decide +kernel
theorem dX7_penaltiesOf_6 : decode cX7_penaltiesOf 6 = .ok (.ireturn, 1) := by decide +kernel
theorem dX7_penaltiesFromTyres_0 : decode cX7_penaltiesFromTyres 0 = .ok (.iconst 0, 1) := by decide +kernel
theorem dX7_penaltiesFromTyres_1 : decode cX7_penaltiesFromTyres 1 = .ok (.istore_n 2, 1) := by decide +kernel
theorem dX7_penaltiesFromTyres_2 : decode cX7_penaltiesFromTyres 2 = .ok (.iconst 0, 1) := by decide +kernel
theorem dX7_penaltiesFromTyres_3 : decode cX7_penaltiesFromTyres 3 = .ok (.istore_n 3, 1) := by decide +kernel
theorem dX7_penaltiesFromTyres_4 : decode cX7_penaltiesFromTyres 4 = .ok (.iload_n 3, 1) := by decide +kernel
theorem dX7_penaltiesFromTyres_5 : decode cX7_penaltiesFromTyres 5 = .ok (.bipush 100, 2) := by decide +kernel
theorem dX7_penaltiesFromTyres_7 : decode cX7_penaltiesFromTyres 7 = .ok (.if_icmp .ge 29, 3) := by decide +kernel
theorem dX7_penaltiesFromTyres_10 : decode cX7_penaltiesFromTyres 10 = .ok (.aload_n 0, 1) := by decide +kernel
theorem dX7_penaltiesFromTyres_11 : decode cX7_penaltiesFromTyres 11 = .ok (.getfield 15, 3) := by decide +kernel
theorem dX7_penaltiesFromTyres_14 : decode cX7_penaltiesFromTyres 14 = .ok (.iload_n 1, 1) := by decide +kernel
theorem dX7_penaltiesFromTyres_15 : decode cX7_penaltiesFromTyres 15 = .ok (.bipush 100, 2) := by decide +kernel
theorem dX7_penaltiesFromTyres_17 : decode cX7_penaltiesFromTyres 17 = .ok (.imul, 1) := by decide +kernel
theorem dX7_penaltiesFromTyres_18 : decode cX7_penaltiesFromTyres 18 = .ok (.iload_n 3, 1) := by decide +kernel
theorem dX7_penaltiesFromTyres_19 : decode cX7_penaltiesFromTyres 19 = .ok (.iadd, 1) := by decide +kernel
theorem dX7_penaltiesFromTyres_20 : decode cX7_penaltiesFromTyres 20 = .ok (.baload, 1) := by decide +kernel
theorem dX7_penaltiesFromTyres_21 : decode cX7_penaltiesFromTyres 21 = .ok (.ifCond .eq 9, 3) := by decide +kernel
theorem dX7_penaltiesFromTyres_24 : decode cX7_penaltiesFromTyres 24 = .ok (.iinc 2 600, 6) := by decide +kernel
theorem dX7_penaltiesFromTyres_30 : decode cX7_penaltiesFromTyres 30 = .ok (.iinc 3 1, 3) := by decide +kernel
theorem dX7_penaltiesFromTyres_33 : decode cX7_penaltiesFromTyres 33 = .ok (.goto (-29), 3) := by decide +kernel
theorem dX7_penaltiesFromTyres_36 : decode cX7_penaltiesFromTyres 36 = .ok (.iload_n 2, 1) := by decide +kernel
theorem dX7_penaltiesFromTyres_37 : decode cX7_penaltiesFromTyres 37 = .ok (.ireturn, 1) := by decide +kernel
theorem dX8_init_0 : decode cX8_init 0 = .ok (.aload_n 0, 1) := by decide +kernel
theorem dX8_init_1 : decode cX8_init 1 = .ok (.invokespecial 1, 3) := by decide +kernel
theorem dX8_init_4 : decode cX8_init 4 = .ok (.aload_n 0, 1) := by decide +kernel
theorem dX8_init_5 : decode cX8_init 5 = .ok (.new 7, 3) := by decide +kernel
theorem dX8_init_8 : decode cX8_init 8 = .ok (.dup, 1) := by decide +kernel
theorem dX8_init_9 : decode cX8_init 9 = .ok (.invokespecial 9, 3) := by decide +kernel
theorem dX8_init_12 : decode cX8_init 12 = .ok (.putfield 10, 3) := by decide +kernel
theorem dX8_init_15 : decode cX8_init 15 = .ok (.aload_n 0, 1) := by decide +kernel
theorem dX8_init_16 : decode cX8_init 16 = .ok (.invokestatic 16, 3) := by decide +kernel
theorem dX8_init_19 : decode cX8_init 19 = .ok (.putfield 22, 3) := by decide +kernel
theorem dX8_init_22 : decode cX8_init 22 = .ok (.return_, 1) := by decide +kernel
theorem dX8_item_0 : decode cX8_item 0 = .ok (.iload_n 1, 1) := by decide +kernel
theorem dX8_item_1 : decode cX8_item 1 = .ok (.iconst 0, 1) := by decide +kernel
theorem dX8_item_2 : decode cX8_item 2 = .ok (.iconst 2, 1) := by decide +kernel
theorem dX8_item_3 : decode cX8_item 3 = .ok (.invokestatic 26, 3) := by decide +kernel
theorem dX8_item_6 : decode cX8_item 6 = .ok (.iload_n 2, 1) := by decide +kernel
theorem dX8_item_7 : decode cX8_item 7 = .ok (.iconst 0, 1) := by decide +kernel
theorem dX8_item_8 : decode cX8_item 8 = .ok (.iload_n 1, 1) := by decide +kernel
theorem dX8_item_9 : decode cX8_item 9 = .ok (.iconst 2, 1) := by decide +kernel
theorem dX8_item_10 : decode cX8_item 10 = .ok (.if_icmp .ne 7, 3) := by decide +kernel
theorem dX8_item_13 : decode cX8_item 13 = .ok (.iconst 0, 1) := by decide +kernel
theorem dX8_item_14 : decode cX8_item 14 = .ok (.goto 6, 3) := by decide +kernel
theorem dX8_item_17 : decode cX8_item 17 = .ok (.sipush 2000, 3) := by decide +kernel
theorem dX8_item_20 : decode cX8_item 20 = .ok (.invokestatic 26, 3) := by decide +kernel
theorem dX8_item_23 : decode cX8_item 23 = .ok (.aload_n 0, 1) := by decide +kernel
theorem dX8_item_24 : decode cX8_item 24 = .ok (.getfield 22, 3) := by decide +kernel
theorem dX8_item_27 : decode cX8_item 27 = .ok (.invokevirtual 30, 3) := by decide +kernel
theorem dX8_item_30 : decode cX8_item 30 = .ok (.ifCond .ne 17, 3) := by decide +kernel
theorem dX8_item_33 : decode cX8_item 33 = .ok (.aload_n 0, 1) := by decide +kernel
theorem dX8_item_34 : decode cX8_item 34 = .ok (.getfield 22, 3) := by decide +kernel
theorem dX8_item_37 : decode cX8_item 37 = .ok (.getfield 34, 3) := by decide +kernel
theorem dX8_item_40 : decode cX8_item 40 = .ok (.iload_n 1, 1) := by decide +kernel
theorem dX8_item_41 : decode cX8_item 41 = .ok (.invokevirtual 38, 3) := by decide +kernel
theorem dX8_item_44 : decode cX8_item 44 = .ok (.ifCond .ne 13, 3) := by decide +kernel
theorem dX8_item_47 : decode cX8_item 47 = .ok (.new 44, 3) := by decide +kernel
theorem dX8_item_50 : decode cX8_item 50 = .ok (.dup, 1) := by decide +kernel
theorem dX8_item_51 : decode cX8_item 51 = .ok (.ldc 46, 2) := by decide +kernel
theorem dX8_item_53 : decode cX8_item 53 = .ok (.invokespecial 48, 3) := by decide +kernel
theorem dX8_item_56 : decode cX8_item 56 = .ok (.athrow, 1) := by decide +kernel
theorem dX8_item_57 : decode cX8_item 57 = .ok (.aload_n 0, 1) := by decide +kernel
theorem dX8_item_58 : decode cX8_item 58 = .ok (.getfield 22, 3) := by decide +kernel
theorem dX8_item_61 : decode cX8_item 61 = .ok (.getfield 34, 3) := by decide +kernel
theorem dX8_item_64 : decode cX8_item 64 = .ok (.iload_n 1, 1) := by decide +kernel
theorem dX8_item_65 : decode cX8_item 65 = .ok (.iload_n 2, 1) := by decide +kernel
theorem dX8_item_66 : decode cX8_item 66 = .ok (.invokevirtual 51, 3) := by decide +kernel
theorem dX8_item_69 : decode cX8_item 69 = .ok (.ireturn, 1) := by decide +kernel
theorem dX8_open_0 : decode cX8_open 0 = .ok (.aload_n 0, 1) := by decide +kernel
theorem dX8_open_1 : decode cX8_open 1 = .ok (.iload_n 1, 1) := by decide +kernel
theorem dX8_open_2 : decode cX8_open 2 = .ok (.invokevirtual 55, 3) := by decide +kernel
theorem dX8_open_5 : decode cX8_open 5 = .ok (.iload_n 2, 1) := by decide +kernel
theorem dX8_open_6 : decode cX8_open 6 = .ok (.iconst 0, 1) := by decide +kernel
theorem dX8_open_7 : decode cX8_open 7 = .ok (.iconst 2, 1) := by decide +kernel
theorem dX8_open_8 : decode cX8_open 8 = .ok (.invokestatic 26, 3) := by decide +kernel
theorem dX8_open_11 : decode cX8_open 11 = .ok (.aload_n 0, 1) := by decide +kernel
theorem dX8_open_12 : decode cX8_open 12 = .ok (.iload_n 1, 1) := by decide +kernel
theorem dX8_open_13 : decode cX8_open 13 = .ok (.iconst 0, 1) := by decide +kernel
theorem dX8_open_14 : decode cX8_open 14 = .ok (.invokevirtual 59, 3) := by decide +kernel
theorem dX8_open_17 : decode cX8_open 17 = .ok (.aload_n 0, 1) := by decide +kernel
theorem dX8_open_18 : decode cX8_open 18 = .ok (.getfield 22, 3) := by decide +kernel
theorem dX8_open_21 : decode cX8_open 21 = .ok (.iload_n 1, 1) := by decide +kernel
theorem dX8_open_22 : decode cX8_open 22 = .ok (.invokevirtual 63, 3) := by decide +kernel
theorem dX8_open_25 : decode cX8_open 25 = .ok (.ifCond .ne 13, 3) := by decide +kernel
theorem dX8_open_28 : decode cX8_open 28 = .ok (.new 44, 3) := by decide +kernel
theorem dX8_open_31 : decode cX8_open 31 = .ok (.dup, 1) := by decide +kernel
theorem dX8_open_32 : decode cX8_open 32 = .ok (.ldc 66, 2) := by decide +kernel
theorem dX8_open_34 : decode cX8_open 34 = .ok (.invokespecial 48, 3) := by decide +kernel
theorem dX8_open_37 : decode cX8_open 37 = .ok (.athrow, 1) := by decide +kernel
theorem dX8_open_38 : decode cX8_open 38 = .ok (.aload_n 0, 1) := by decide +kernel
theorem dX8_open_39 : decode cX8_open 39 = .ok (.getfield 22, 3) := by decide +kernel
theorem dX8_open_42 : decode cX8_open 42 = .ok (.iload_n 1, 1) := by decide +kernel
theorem dX8_open_43 : decode cX8_open 43 = .ok (.iload_n 2, 1) := by decide +kernel
theorem dX8_open_44 : decode cX8_open 44 = .ok (.invokevirtual 68, 3) := by decide +kernel
theorem dX8_open_47 : decode cX8_open 47 = .ok (.ireturn, 1) := by decide +kernel
theorem dX8_starts_0 : decode cX8_starts 0 = .ok (.aload_n 0, 1) := by decide +kernel
theorem dX8_starts_1 : decode cX8_starts 1 = .ok (.iload_n 1, 1) := by decide +kernel
theorem dX8_starts_2 : decode cX8_starts 2 = .ok (.invokevirtual 55, 3) := by decide +kernel
theorem dX8_starts_5 : decode cX8_starts 5 = .ok (.iload_n 2, 1) := by decide +kernel
theorem dX8_starts_6 : decode cX8_starts 6 = .ok (.iconst 0, 1) := by decide +kernel
theorem dX8_starts_7 : decode cX8_starts 7 = .ok (.bipush 9, 2) := by decide +kernel
theorem dX8_starts_9 : decode cX8_starts 9 = .ok (.invokestatic 26, 3) := by decide +kernel
theorem dX8_starts_12 : decode cX8_starts 12 = .ok (.aload_n 0, 1) := by decide +kernel
theorem dX8_starts_13 : decode cX8_starts 13 = .ok (.iload_n 1, 1) := by decide +kernel
theorem dX8_starts_14 : decode cX8_starts 14 = .ok (.iconst 0, 1) := by decide +kernel
theorem dX8_starts_15 : decode cX8_starts 15 = .ok (.invokevirtual 59, 3) := by decide +kernel
theorem dX8_starts_18 : decode cX8_starts 18 = .ok (.aload_n 0, 1) := by decide +kernel
theorem dX8_starts_19 : decode cX8_starts 19 = .ok (.getfield 22, 3) := by decide +kernel
theorem dX8_starts_22 : decode cX8_starts 22 = .ok (.getfield 71, 3) := by decide +kernel
theorem dX8_starts_25 : decode cX8_starts 25 = .ok (.iload_n 1, 1) := by decide +kernel
theorem dX8_starts_26 : decode cX8_starts 26 = .ok (.iload_n 2, 1) := by decide +kernel
theorem dX8_starts_27 : decode cX8_starts 27 = .ok (.invokevirtual 75, 3) := by decide +kernel
theorem dX8_starts_30 : decode cX8_starts 30 = .ok (.ireturn, 1) := by decide +kernel
theorem dX8_due_0 : decode cX8_due 0 = .ok (.iload_n 1, 1) := by decide +kernel
theorem dX8_due_1 : decode cX8_due 1 = .ok (.invokestatic 80, 3) := by decide +kernel
theorem dX8_due_4 : decode cX8_due 4 = .ok (.aload_n 0, 1) := by decide +kernel
theorem dX8_due_5 : decode cX8_due 5 = .ok (.iload_n 2, 1) := by decide +kernel
theorem dX8_due_6 : decode cX8_due 6 = .ok (.invokevirtual 55, 3) := by decide +kernel
theorem dX8_due_9 : decode cX8_due 9 = .ok (.aload_n 0, 1) := by decide +kernel
theorem dX8_due_10 : decode cX8_due 10 = .ok (.iload_n 2, 1) := by decide +kernel
theorem dX8_due_11 : decode cX8_due 11 = .ok (.invokevirtual 83, 3) := by decide +kernel
theorem dX8_due_14 : decode cX8_due 14 = .ok (.aload_n 0, 1) := by decide +kernel
theorem dX8_due_15 : decode cX8_due 15 = .ok (.getfield 22, 3) := by decide +kernel
theorem dX8_due_18 : decode cX8_due 18 = .ok (.getfield 86, 3) := by decide +kernel
theorem dX8_due_21 : decode cX8_due 21 = .ok (.iload_n 1, 1) := by decide +kernel
theorem dX8_due_22 : decode cX8_due 22 = .ok (.invokevirtual 90, 3) := by decide +kernel
theorem dX8_due_25 : decode cX8_due 25 = .ok (.ifCond .eq 18, 3) := by decide +kernel
theorem dX8_due_28 : decode cX8_due 28 = .ok (.aload_n 0, 1) := by decide +kernel
theorem dX8_due_29 : decode cX8_due 29 = .ok (.getfield 22, 3) := by decide +kernel
theorem dX8_due_32 : decode cX8_due 32 = .ok (.getfield 86, 3) := by decide +kernel
theorem dX8_due_35 : decode cX8_due 35 = .ok (.iload_n 1, 1) := by decide +kernel
theorem dX8_due_36 : decode cX8_due 36 = .ok (.iload_n 2, 1) := by decide +kernel
theorem dX8_due_37 : decode cX8_due 37 = .ok (.invokevirtual 95, 3) := by decide +kernel
theorem dX8_due_40 : decode cX8_due 40 = .ok (.goto 4, 3) := by decide +kernel
theorem dX8_due_43 : decode cX8_due 43 = .ok (.iconst (-1), 1) := by decide +kernel
theorem dX8_due_44 : decode cX8_due 44 = .ok (.ireturn, 1) := by decide +kernel
theorem dX8_stamp_0 : decode cX8_stamp 0 = .ok (.iload_n 1, 1) := by decide +kernel
theorem dX8_stamp_1 : decode cX8_stamp 1 = .ok (.invokestatic 80, 3) := by decide +kernel
theorem dX8_stamp_4 : decode cX8_stamp 4 = .ok (.aload_n 0, 1) := by decide +kernel
theorem dX8_stamp_5 : decode cX8_stamp 5 = .ok (.iload_n 2, 1) := by decide +kernel
theorem dX8_stamp_6 : decode cX8_stamp 6 = .ok (.invokevirtual 55, 3) := by decide +kernel
theorem dX8_stamp_9 : decode cX8_stamp 9 = .ok (.aload_n 0, 1) := by decide +kernel
theorem dX8_stamp_10 : decode cX8_stamp 10 = .ok (.iload_n 2, 1) := by decide +kernel
theorem dX8_stamp_11 : decode cX8_stamp 11 = .ok (.invokevirtual 83, 3) := by decide +kernel
theorem dX8_stamp_14 : decode cX8_stamp 14 = .ok (.iload_n 3, 1) := by decide +kernel
theorem dX8_stamp_15 : decode cX8_stamp 15 = .ok (.iconst 0, 1) := by decide +kernel
theorem dX8_stamp_16 : decode cX8_stamp 16 = .ok (.sipush 2000, 3) := by decide +kernel
theorem dX8_stamp_19 : decode cX8_stamp 19 = .ok (.invokestatic 26, 3) := by decide +kernel
theorem dX8_stamp_22 : decode cX8_stamp 22 = .ok (.aload_n 0, 1) := by decide +kernel
theorem dX8_stamp_23 : decode cX8_stamp 23 = .ok (.getfield 22, 3) := by decide +kernel
theorem dX8_stamp_26 : decode cX8_stamp 26 = .ok (.getfield 86, 3) := by decide +kernel
theorem dX8_stamp_29 : decode cX8_stamp 29 = .ok (.iload_n 1, 1) := by decide +kernel
theorem dX8_stamp_30 : decode cX8_stamp 30 = .ok (.iload_n 2, 1) := by decide +kernel
theorem dX8_stamp_31 : decode cX8_stamp 31 = .ok (.invokevirtual 98, 3) := by decide +kernel
theorem dX8_stamp_34 : decode cX8_stamp 34 = .ok (.ifCond .ne 13, 3) := by decide +kernel
theorem dX8_stamp_37 : decode cX8_stamp 37 = .ok (.new 44, 3) := by decide +kernel
theorem dX8_stamp_40 : decode cX8_stamp 40 = .ok (.dup, 1) := by decide +kernel
theorem dX8_stamp_41 : decode cX8_stamp 41 = .ok (.ldc 102, 2) := by decide +kernel
theorem dX8_stamp_43 : decode cX8_stamp 43 = .ok (.invokespecial 48, 3) := by decide +kernel
theorem dX8_stamp_46 : decode cX8_stamp 46 = .ok (.athrow, 1) := by decide +kernel
theorem dX8_stamp_47 : decode cX8_stamp 47 = .ok (.aload_n 0, 1) := by decide +kernel
theorem dX8_stamp_48 : decode cX8_stamp 48 = .ok (.getfield 22, 3) := by decide +kernel
theorem dX8_stamp_51 : decode cX8_stamp 51 = .ok (.getfield 86, 3) := by decide +kernel
theorem dX8_stamp_54 : decode cX8_stamp 54 = .ok (.iload_n 1, 1) := by decide +kernel
theorem dX8_stamp_55 : decode cX8_stamp 55 = .ok (.iload_n 2, 1) := by decide +kernel
theorem dX8_stamp_56 : decode cX8_stamp 56 = .ok (.iload_n 3, 1) := by decide +kernel
theorem dX8_stamp_57 : decode cX8_stamp 57 = .ok (.invokevirtual 104, 3) := by decide +kernel
theorem dX8_stamp_60 : decode cX8_stamp 60 = .ok (.ireturn, 1) := by decide +kernel
theorem dX8_delay_0 : decode cX8_delay 0 = .ok (.aload_n 0, 1) := by decide +kernel
theorem dX8_delay_1 : decode cX8_delay 1 = .ok (.iload_n 1, 1) := by decide +kernel
theorem dX8_delay_2 : decode cX8_delay 2 = .ok (.invokevirtual 55, 3) := by decide +kernel
theorem dX8_delay_5 : decode cX8_delay 5 = .ok (.iload_n 2, 1) := by decide +kernel
theorem dX8_delay_6 : decode cX8_delay 6 = .ok (.invokestatic 80, 3) := by decide +kernel
theorem dX8_delay_9 : decode cX8_delay 9 = .ok (.aload_n 0, 1) := by decide +kernel
theorem dX8_delay_10 : decode cX8_delay 10 = .ok (.iload_n 1, 1) := by decide +kernel
theorem dX8_delay_11 : decode cX8_delay 11 = .ok (.iconst 1, 1) := by decide +kernel
theorem dX8_delay_12 : decode cX8_delay 12 = .ok (.invokevirtual 59, 3) := by decide +kernel
theorem dX8_delay_15 : decode cX8_delay 15 = .ok (.iload_n 3, 1) := by decide +kernel
theorem dX8_delay_16 : decode cX8_delay 16 = .ok (.iconst 1, 1) := by decide +kernel
theorem dX8_delay_17 : decode cX8_delay 17 = .ok (.bipush 60, 2) := by decide +kernel
theorem dX8_delay_19 : decode cX8_delay 19 = .ok (.invokestatic 26, 3) := by decide +kernel
theorem dX8_delay_22 : decode cX8_delay 22 = .ok (.aload_n 0, 1) := by decide +kernel
theorem dX8_delay_23 : decode cX8_delay 23 = .ok (.getfield 22, 3) := by decide +kernel
theorem dX8_delay_26 : decode cX8_delay 26 = .ok (.getfield 34, 3) := by decide +kernel
theorem dX8_delay_29 : decode cX8_delay 29 = .ok (.iload_n 1, 1) := by decide +kernel
theorem dX8_delay_30 : decode cX8_delay 30 = .ok (.invokevirtual 108, 3) := by decide +kernel
theorem dX8_delay_33 : decode cX8_delay 33 = .ok (.istore 4, 2) := by decide +kernel
theorem dX8_delay_35 : decode cX8_delay 35 = .ok (.aload_n 0, 1) := by decide +kernel
theorem dX8_delay_36 : decode cX8_delay 36 = .ok (.getfield 22, 3) := by decide +kernel
theorem dX8_delay_39 : decode cX8_delay 39 = .ok (.getfield 71, 3) := by decide +kernel
theorem dX8_delay_42 : decode cX8_delay 42 = .ok (.iload 4, 2) := by decide +kernel
theorem dX8_delay_44 : decode cX8_delay 44 = .ok (.iload_n 2, 1) := by decide +kernel
theorem dX8_delay_45 : decode cX8_delay 45 = .ok (.invokevirtual 112, 3) := by decide +kernel
theorem dX8_delay_48 : decode cX8_delay 48 = .ok (.istore 5, 2) := by decide +kernel
theorem dX8_delay_50 : decode cX8_delay 50 = .ok (.iload 5, 2) := by decide +kernel
theorem dX8_delay_52 : decode cX8_delay 52 = .ok (.iconst (-1), 1) := by decide +kernel
theorem dX8_delay_53 : decode cX8_delay 53 = .ok (.if_icmp .ne 13, 3) := by decide +kernel
theorem dX8_delay_56 : decode cX8_delay 56 = .ok (.new 44, 3) := by decide +kernel
theorem dX8_delay_59 : decode cX8_delay 59 = .ok (.dup, 1) := by decide +kernel
theorem dX8_delay_60 : decode cX8_delay 60 = .ok (.ldc 115, 2) := by decide +kernel
theorem dX8_delay_62 : decode cX8_delay 62 = .ok (.invokespecial 48, 3) := by decide +kernel
theorem dX8_delay_65 : decode cX8_delay 65 = .ok (.athrow, 1) := by decide +kernel
theorem dX8_delay_66 : decode cX8_delay 66 = .ok (.aload_n 0, 1) := by decide +kernel
theorem dX8_delay_67 : decode cX8_delay 67 = .ok (.getfield 22, 3) := by decide +kernel
theorem dX8_delay_70 : decode cX8_delay 70 = .ok (.getfield 86, 3) := by decide +kernel
theorem dX8_delay_73 : decode cX8_delay 73 = .ok (.iload_n 1, 1) := by decide +kernel
theorem dX8_delay_74 : decode cX8_delay 74 = .ok (.iload 4, 2) := by decide +kernel
theorem dX8_delay_76 : decode cX8_delay 76 = .ok (.iload 5, 2) := by decide +kernel
theorem dX8_delay_78 : decode cX8_delay 78 = .ok (.iload_n 3, 1) := by decide +kernel
theorem dX8_delay_79 : decode cX8_delay 79 = .ok (.invokevirtual 117, 3) := by decide +kernel
theorem dX8_delay_82 : decode cX8_delay 82 = .ok (.ireturn, 1) := by decide +kernel
theorem dX8_finish_0 : decode cX8_finish 0 = .ok (.iload_n 1, 1) := by decide +kernel
theorem dX8_finish_1 : decode cX8_finish 1 = .ok (.invokestatic 80, 3) := by decide +kernel
theorem dX8_finish_4 : decode cX8_finish 4 = .ok (.aload_n 0, 1) := by decide +kernel
theorem dX8_finish_5 : decode cX8_finish 5 = .ok (.iload_n 2, 1) := by decide +kernel
theorem dX8_finish_6 : decode cX8_finish 6 = .ok (.invokevirtual 55, 3) := by decide +kernel
theorem dX8_finish_9 : decode cX8_finish 9 = .ok (.aload_n 0, 1) := by decide +kernel
theorem dX8_finish_10 : decode cX8_finish 10 = .ok (.iload_n 2, 1) := by decide +kernel
theorem dX8_finish_11 : decode cX8_finish 11 = .ok (.iconst 2, 1) := by decide +kernel
theorem dX8_finish_12 : decode cX8_finish 12 = .ok (.invokevirtual 59, 3) := by decide +kernel
theorem dX8_finish_15 : decode cX8_finish 15 = .ok (.iload 4, 2) := by decide +kernel
theorem dX8_finish_17 : decode cX8_finish 17 = .ok (.iconst 0, 1) := by decide +kernel
theorem dX8_finish_18 : decode cX8_finish 18 = .ok (.ldc 121, 2) := by decide +kernel
theorem dX8_finish_20 : decode cX8_finish 20 = .ok (.invokestatic 26, 3) := by decide +kernel
theorem dX8_finish_23 : decode cX8_finish 23 = .ok (.aload_n 0, 1) := by decide +kernel
theorem dX8_finish_24 : decode cX8_finish 24 = .ok (.iload_n 1, 1) := by decide +kernel
theorem dX8_finish_25 : decode cX8_finish 25 = .ok (.iload_n 2, 1) := by decide +kernel
theorem dX8_finish_26 : decode cX8_finish 26 = .ok (.invokevirtual 122, 3) := by decide +kernel
theorem dX8_finish_29 : decode cX8_finish 29 = .ok (.iload 4, 2) := by decide +kernel
theorem dX8_finish_31 : decode cX8_finish 31 = .ok (.aload_n 0, 1) := by decide +kernel
theorem dX8_finish_32 : decode cX8_finish 32 = .ok (.getfield 22, 3) := by decide +kernel
theorem dX8_finish_35 : decode cX8_finish 35 = .ok (.getfield 86, 3) := by decide +kernel
theorem dX8_finish_38 : decode cX8_finish 38 = .ok (.iload_n 1, 1) := by decide +kernel
theorem dX8_finish_39 : decode cX8_finish 39 = .ok (.iload_n 2, 1) := by decide +kernel
theorem dX8_finish_40 : decode cX8_finish 40 = .ok (.invokevirtual 125, 3) := by decide +kernel
theorem dX8_finish_43 : decode cX8_finish 43 = .ok (.if_icmp .ge 13, 3) := by decide +kernel
theorem dX8_finish_46 : decode cX8_finish 46 = .ok (.new 44, 3) := by decide +kernel
theorem dX8_finish_49 : decode cX8_finish 49 = .ok (.dup, 1) := by decide +kernel
theorem dX8_finish_50 : decode cX8_finish 50 = .ok (.ldc 128, 2) := by decide +kernel
theorem dX8_finish_52 : decode cX8_finish 52 = .ok (.invokespecial 48, 3) := by decide +kernel
theorem dX8_finish_55 : decode cX8_finish 55 = .ok (.athrow, 1) := by decide +kernel
theorem dX8_finish_56 : decode cX8_finish 56 = .ok (.aload_n 0, 1) := by decide +kernel
theorem dX8_finish_57 : decode cX8_finish 57 = .ok (.getfield 22, 3) := by decide +kernel
theorem dX8_finish_60 : decode cX8_finish 60 = .ok (.getfield 130, 3) := by decide +kernel
theorem dX8_finish_63 : decode cX8_finish 63 = .ok (.iload_n 1, 1) := by decide +kernel
theorem dX8_finish_64 : decode cX8_finish 64 = .ok (.iload_n 2, 1) := by decide +kernel
theorem dX8_finish_65 : decode cX8_finish 65 = .ok (.iload_n 3, 1) := by decide +kernel
theorem dX8_finish_66 : decode cX8_finish 66 = .ok (.iload 4, 2) := by decide +kernel
theorem dX8_finish_68 : decode cX8_finish 68 = .ok (.invokevirtual 134, 3) := by decide +kernel
theorem dX8_finish_71 : decode cX8_finish 71 = .ok (.return_, 1) := by decide +kernel
theorem dX8_held_0 : decode cX8_held 0 = .ok (.iload_n 1, 1) := by decide +kernel
theorem dX8_held_1 : decode cX8_held 1 = .ok (.invokestatic 80, 3) := by decide +kernel
theorem dX8_held_4 : decode cX8_held 4 = .ok (.aload_n 0, 1) := by decide +kernel
theorem dX8_held_5 : decode cX8_held 5 = .ok (.iload_n 2, 1) := by decide +kernel
theorem dX8_held_6 : decode cX8_held 6 = .ok (.invokevirtual 55, 3) := by decide +kernel
theorem dX8_held_9 : decode cX8_held 9 = .ok (.aload_n 0, 1) := by decide +kernel
theorem dX8_held_10 : decode cX8_held 10 = .ok (.iload_n 2, 1) := by decide +kernel
theorem dX8_held_11 : decode cX8_held 11 = .ok (.iconst 2, 1) := by decide +kernel
theorem dX8_held_12 : decode cX8_held 12 = .ok (.invokevirtual 59, 3) := by decide +kernel
theorem dX8_held_15 : decode cX8_held 15 = .ok (.aload_n 0, 1) := by decide +kernel
theorem dX8_held_16 : decode cX8_held 16 = .ok (.iload_n 1, 1) := by decide +kernel
theorem dX8_held_17 : decode cX8_held 17 = .ok (.iload_n 2, 1) := by decide +kernel
theorem dX8_held_18 : decode cX8_held 18 = .ok (.invokevirtual 122, 3) := by decide +kernel
theorem dX8_held_21 : decode cX8_held 21 = .ok (.aload_n 0, 1) := by decide +kernel
theorem dX8_held_22 : decode cX8_held 22 = .ok (.getfield 22, 3) := by decide +kernel
theorem dX8_held_25 : decode cX8_held 25 = .ok (.getfield 130, 3) := by decide +kernel
theorem dX8_held_28 : decode cX8_held 28 = .ok (.iload_n 1, 1) := by decide +kernel
theorem dX8_held_29 : decode cX8_held 29 = .ok (.iload_n 2, 1) := by decide +kernel
theorem dX8_held_30 : decode cX8_held 30 = .ok (.iload_n 3, 1) := by decide +kernel
theorem dX8_held_31 : decode cX8_held 31 = .ok (.invokevirtual 140, 3) := by decide +kernel
theorem dX8_held_34 : decode cX8_held 34 = .ok (.ireturn, 1) := by decide +kernel
theorem dX8_award_0 : decode cX8_award 0 = .ok (.iload_n 1, 1) := by decide +kernel
theorem dX8_award_1 : decode cX8_award 1 = .ok (.invokestatic 80, 3) := by decide +kernel
theorem dX8_award_4 : decode cX8_award 4 = .ok (.aload_n 0, 1) := by decide +kernel
theorem dX8_award_5 : decode cX8_award 5 = .ok (.iload_n 2, 1) := by decide +kernel
theorem dX8_award_6 : decode cX8_award 6 = .ok (.invokevirtual 55, 3) := by decide +kernel
theorem dX8_award_9 : decode cX8_award 9 = .ok (.aload_n 0, 1) := by decide +kernel
theorem dX8_award_10 : decode cX8_award 10 = .ok (.iload_n 2, 1) := by decide +kernel
theorem dX8_award_11 : decode cX8_award 11 = .ok (.iconst 2, 1) := by decide +kernel
theorem dX8_award_12 : decode cX8_award 12 = .ok (.invokevirtual 59, 3) := by decide +kernel
theorem dX8_award_15 : decode cX8_award 15 = .ok (.iload_n 3, 1) := by decide +kernel
theorem dX8_award_16 : decode cX8_award 16 = .ok (.iconst (-1), 1) := by decide +kernel
theorem dX8_award_17 : decode cX8_award 17 = .ok (.ldc 144, 2) := by decide +kernel
theorem dX8_award_19 : decode cX8_award 19 = .ok (.invokestatic 26, 3) := by decide +kernel
theorem dX8_award_22 : decode cX8_award 22 = .ok (.aload_n 0, 1) := by decide +kernel
theorem dX8_award_23 : decode cX8_award 23 = .ok (.iload_n 1, 1) := by decide +kernel
theorem dX8_award_24 : decode cX8_award 24 = .ok (.iload_n 2, 1) := by decide +kernel
theorem dX8_award_25 : decode cX8_award 25 = .ok (.invokevirtual 122, 3) := by decide +kernel
theorem dX8_award_28 : decode cX8_award 28 = .ok (.aload_n 0, 1) := by decide +kernel
theorem dX8_award_29 : decode cX8_award 29 = .ok (.getfield 22, 3) := by decide +kernel
theorem dX8_award_32 : decode cX8_award 32 = .ok (.getfield 130, 3) := by decide +kernel
theorem dX8_award_35 : decode cX8_award 35 = .ok (.iload_n 1, 1) := by decide +kernel
theorem dX8_award_36 : decode cX8_award 36 = .ok (.iload_n 2, 1) := by decide +kernel
theorem dX8_award_37 : decode cX8_award 37 = .ok (.iload_n 3, 1) := by decide +kernel
theorem dX8_award_38 : decode cX8_award 38 = .ok (.invokevirtual 145, 3) := by decide +kernel
theorem dX8_award_41 : decode cX8_award 41 = .ok (.ireturn, 1) := by decide +kernel
theorem dX8_time_0 : decode cX8_time 0 = .ok (.iload_n 1, 1) := by decide +kernel
theorem dX8_time_1 : decode cX8_time 1 = .ok (.invokestatic 80, 3) := by decide +kernel
theorem dX8_time_4 : decode cX8_time 4 = .ok (.aload_n 0, 1) := by decide +kernel
theorem dX8_time_5 : decode cX8_time 5 = .ok (.iload_n 2, 1) := by decide +kernel
theorem dX8_time_6 : decode cX8_time 6 = .ok (.invokevirtual 55, 3) := by decide +kernel
theorem dX8_time_9 : decode cX8_time 9 = .ok (.aload_n 0, 1) := by decide +kernel
theorem dX8_time_10 : decode cX8_time 10 = .ok (.iload_n 2, 1) := by decide +kernel
theorem dX8_time_11 : decode cX8_time 11 = .ok (.iconst 2, 1) := by decide +kernel
theorem dX8_time_12 : decode cX8_time 12 = .ok (.invokevirtual 59, 3) := by decide +kernel
theorem dX8_time_15 : decode cX8_time 15 = .ok (.aload_n 0, 1) := by decide +kernel
theorem dX8_time_16 : decode cX8_time 16 = .ok (.getfield 22, 3) := by decide +kernel
theorem dX8_time_19 : decode cX8_time 19 = .ok (.getfield 130, 3) := by decide +kernel
theorem dX8_time_22 : decode cX8_time 22 = .ok (.iload_n 1, 1) := by decide +kernel
theorem dX8_time_23 : decode cX8_time 23 = .ok (.iload_n 2, 1) := by decide +kernel
theorem dX8_time_24 : decode cX8_time 24 = .ok (.invokevirtual 148, 3) := by decide +kernel
theorem dX8_time_27 : decode cX8_time 27 = .ok (.ireturn, 1) := by decide +kernel
theorem dX8_allocate_0 : decode cX8_allocate 0 = .ok (.iload_n 1, 1) := by decide +kernel
theorem dX8_allocate_1 : decode cX8_allocate 1 = .ok (.invokestatic 80, 3) := by decide +kernel
theorem dX8_allocate_4 : decode cX8_allocate 4 = .ok (.iload_n 2, 1) := by decide +kernel
theorem dX8_allocate_5 : decode cX8_allocate 5 = .ok (.iconst 0, 1) := by decide +kernel
theorem dX8_allocate_6 : decode cX8_allocate 6 = .ok (.bipush 99, 2) := by decide +kernel
theorem dX8_allocate_8 : decode cX8_allocate 8 = .ok (.invokestatic 26, 3) := by decide +kernel
theorem dX8_allocate_11 : decode cX8_allocate 11 = .ok (.aload_n 0, 1) := by decide +kernel
theorem dX8_allocate_12 : decode cX8_allocate 12 = .ok (.getfield 22, 3) := by decide +kernel
theorem dX8_allocate_15 : decode cX8_allocate 15 = .ok (.getfield 151, 3) := by decide +kernel
theorem dX8_allocate_18 : decode cX8_allocate 18 = .ok (.iload_n 1, 1) := by decide +kernel
theorem dX8_allocate_19 : decode cX8_allocate 19 = .ok (.iload_n 2, 1) := by decide +kernel
theorem dX8_allocate_20 : decode cX8_allocate 20 = .ok (.invokevirtual 155, 3) := by decide +kernel
theorem dX8_allocate_23 : decode cX8_allocate 23 = .ok (.ifCond .ne 13, 3) := by decide +kernel
theorem dX8_allocate_26 : decode cX8_allocate 26 = .ok (.new 44, 3) := by decide +kernel
theorem dX8_allocate_29 : decode cX8_allocate 29 = .ok (.dup, 1) := by decide +kernel
theorem dX8_allocate_30 : decode cX8_allocate 30 = .ok (.ldc 159, 2) := by decide +kernel
theorem dX8_allocate_32 : decode cX8_allocate 32 = .ok (.invokespecial 48, 3) := by decide +kernel
theorem dX8_allocate_35 : decode cX8_allocate 35 = .ok (.athrow, 1) := by decide +kernel
theorem dX8_allocate_36 : decode cX8_allocate 36 = .ok (.aload_n 0, 1) := by decide +kernel
theorem dX8_allocate_37 : decode cX8_allocate 37 = .ok (.getfield 22, 3) := by decide +kernel
theorem dX8_allocate_40 : decode cX8_allocate 40 = .ok (.getfield 151, 3) := by decide +kernel
theorem dX8_allocate_43 : decode cX8_allocate 43 = .ok (.iload_n 1, 1) := by decide +kernel
theorem dX8_allocate_44 : decode cX8_allocate 44 = .ok (.iload_n 2, 1) := by decide +kernel
theorem dX8_allocate_45 : decode cX8_allocate 45 = .ok (.invokevirtual 161, 3) := by decide +kernel
theorem dX8_allocate_48 : decode cX8_allocate 48 = .ok (.ireturn, 1) := by decide +kernel
theorem dX8_seen_0 : decode cX8_seen 0 = .ok (.iload_n 1, 1) := by decide +kernel
theorem dX8_seen_1 : decode cX8_seen 1 = .ok (.invokestatic 80, 3) := by decide +kernel
theorem dX8_seen_4 : decode cX8_seen 4 = .ok (.iload_n 2, 1) := by decide +kernel
theorem dX8_seen_5 : decode cX8_seen 5 = .ok (.iconst 0, 1) := by decide +kernel
theorem dX8_seen_6 : decode cX8_seen 6 = .ok (.bipush 99, 2) := by decide +kernel
theorem dX8_seen_8 : decode cX8_seen 8 = .ok (.invokestatic 26, 3) := by decide +kernel
theorem dX8_seen_11 : decode cX8_seen 11 = .ok (.aload_n 0, 1) := by decide +kernel
theorem dX8_seen_12 : decode cX8_seen 12 = .ok (.getfield 22, 3) := by decide +kernel
theorem dX8_seen_15 : decode cX8_seen 15 = .ok (.getfield 151, 3) := by decide +kernel
theorem dX8_seen_18 : decode cX8_seen 18 = .ok (.iload_n 1, 1) := by decide +kernel
theorem dX8_seen_19 : decode cX8_seen 19 = .ok (.iload_n 2, 1) := by decide +kernel
theorem dX8_seen_20 : decode cX8_seen 20 = .ok (.invokevirtual 162, 3) := by decide +kernel
theorem dX8_seen_23 : decode cX8_seen 23 = .ok (.ireturn, 1) := by decide +kernel
theorem dX8_retire_0 : decode cX8_retire 0 = .ok (.iload_n 1, 1) := by decide +kernel
theorem dX8_retire_1 : decode cX8_retire 1 = .ok (.invokestatic 80, 3) := by decide +kernel
theorem dX8_retire_4 : decode cX8_retire 4 = .ok (.aload_n 0, 1) := by decide +kernel
theorem dX8_retire_5 : decode cX8_retire 5 = .ok (.getfield 22, 3) := by decide +kernel
theorem dX8_retire_8 : decode cX8_retire 8 = .ok (.getfield 86, 3) := by decide +kernel
theorem dX8_retire_11 : decode cX8_retire 11 = .ok (.iload_n 1, 1) := by decide +kernel
theorem dX8_retire_12 : decode cX8_retire 12 = .ok (.invokevirtual 90, 3) := by decide +kernel
theorem dX8_retire_15 : decode cX8_retire 15 = .ok (.ifCond .ne 13, 3) := by decide +kernel
theorem dX8_retire_18 : decode cX8_retire 18 = .ok (.new 44, 3) := by decide +kernel
theorem dX8_retire_21 : decode cX8_retire 21 = .ok (.dup, 1) := by decide +kernel
theorem dX8_retire_22 : decode cX8_retire 22 = .ok (.ldc 165, 2) := by decide +kernel
theorem dX8_retire_24 : decode cX8_retire 24 = .ok (.invokespecial 48, 3) := by decide +kernel
theorem dX8_retire_27 : decode cX8_retire 27 = .ok (.athrow, 1) := by decide +kernel
theorem dX8_retire_28 : decode cX8_retire 28 = .ok (.aload_n 0, 1) := by decide +kernel
theorem dX8_retire_29 : decode cX8_retire 29 = .ok (.getfield 22, 3) := by decide +kernel
theorem dX8_retire_32 : decode cX8_retire 32 = .ok (.getfield 86, 3) := by decide +kernel
theorem dX8_retire_35 : decode cX8_retire 35 = .ok (.iload_n 1, 1) := by decide +kernel
theorem dX8_retire_36 : decode cX8_retire 36 = .ok (.iload_n 2, 1) := by decide +kernel
theorem dX8_retire_37 : decode cX8_retire 37 = .ok (.invokevirtual 167, 3) := by decide +kernel
theorem dX8_retire_40 : decode cX8_retire 40 = .ok (.return_, 1) := by decide +kernel
theorem dX8_car_0 : decode cX8_car 0 = .ok (.iload_n 1, 1) := by decide +kernel
theorem dX8_car_1 : decode cX8_car 1 = .ok (.invokestatic 80, 3) := by decide +kernel
theorem dX8_car_4 : decode cX8_car 4 = .ok (.iload_n 2, 1) := by decide +kernel
theorem dX8_car_5 : decode cX8_car 5 = .ok (.iconst 0, 1) := by decide +kernel
theorem dX8_car_6 : decode cX8_car 6 = .ok (.iconst 5, 1) := by decide +kernel
theorem dX8_car_7 : decode cX8_car 7 = .ok (.invokestatic 26, 3) := by decide +kernel
theorem dX8_car_10 : decode cX8_car 10 = .ok (.iload_n 2, 1) := by decide +kernel
theorem dX8_car_11 : decode cX8_car 11 = .ok (.tableswitch 109 0 4 #[33, 45, 57, 77, 97], 33) := by decide +kernel
theorem dX8_car_44 : decode cX8_car 44 = .ok (.aload_n 0, 1) := by decide +kernel
theorem dX8_car_45 : decode cX8_car 45 = .ok (.getfield 22, 3) := by decide +kernel
theorem dX8_car_48 : decode cX8_car 48 = .ok (.getfield 171, 3) := by decide +kernel
theorem dX8_car_51 : decode cX8_car 51 = .ok (.iload_n 1, 1) := by decide +kernel
theorem dX8_car_52 : decode cX8_car 52 = .ok (.invokevirtual 175, 3) := by decide +kernel
theorem dX8_car_55 : decode cX8_car 55 = .ok (.ireturn, 1) := by decide +kernel
theorem dX8_car_56 : decode cX8_car 56 = .ok (.aload_n 0, 1) := by decide +kernel
theorem dX8_car_57 : decode cX8_car 57 = .ok (.getfield 22, 3) := by decide +kernel
theorem dX8_car_60 : decode cX8_car 60 = .ok (.getfield 86, 3) := by decide +kernel
theorem dX8_car_63 : decode cX8_car 63 = .ok (.iload_n 1, 1) := by decide +kernel
theorem dX8_car_64 : decode cX8_car 64 = .ok (.invokevirtual 180, 3) := by decide +kernel
theorem dX8_car_67 : decode cX8_car 67 = .ok (.ireturn, 1) := by decide +kernel
theorem dX8_car_68 : decode cX8_car 68 = .ok (.aload_n 0, 1) := by decide +kernel
theorem dX8_car_69 : decode cX8_car 69 = .ok (.getfield 22, 3) := by decide +kernel
theorem dX8_car_72 : decode cX8_car 72 = .ok (.getfield 86, 3) := by decide +kernel
theorem dX8_car_75 : decode cX8_car 75 = .ok (.iload_n 1, 1) := by decide +kernel
theorem dX8_car_76 : decode cX8_car 76 = .ok (.invokevirtual 183, 3) := by decide +kernel
theorem dX8_car_79 : decode cX8_car 79 = .ok (.ifCond .eq 7, 3) := by decide +kernel
theorem dX8_car_82 : decode cX8_car 82 = .ok (.iconst 1, 1) := by decide +kernel
theorem dX8_car_83 : decode cX8_car 83 = .ok (.goto 4, 3) := by decide +kernel
theorem dX8_car_86 : decode cX8_car 86 = .ok (.iconst 0, 1) := by decide +kernel
theorem dX8_car_87 : decode cX8_car 87 = .ok (.ireturn, 1) := by decide +kernel
theorem dX8_car_88 : decode cX8_car 88 = .ok (.aload_n 0, 1) := by decide +kernel
theorem dX8_car_89 : decode cX8_car 89 = .ok (.getfield 22, 3) := by decide +kernel
theorem dX8_car_92 : decode cX8_car 92 = .ok (.getfield 86, 3) := by decide +kernel
theorem dX8_car_95 : decode cX8_car 95 = .ok (.iload_n 1, 1) := by decide +kernel
theorem dX8_car_96 : decode cX8_car 96 = .ok (.invokevirtual 186, 3) := by decide +kernel
theorem dX8_car_99 : decode cX8_car 99 = .ok (.ifCond .eq 7, 3) := by decide +kernel
theorem dX8_car_102 : decode cX8_car 102 = .ok (.iconst 1, 1) := by decide +kernel
theorem dX8_car_103 : decode cX8_car 103 = .ok (.goto 4, 3) := by decide +kernel
theorem dX8_car_106 : decode cX8_car 106 = .ok (.iconst 0, 1) := by decide +kernel
theorem dX8_car_107 : decode cX8_car 107 = .ok (.ireturn, 1) := by decide +kernel
theorem dX8_car_108 : decode cX8_car 108 = .ok (.aload_n 0, 1) := by decide +kernel
theorem dX8_car_109 : decode cX8_car 109 = .ok (.getfield 22, 3) := by decide +kernel
theorem dX8_car_112 : decode cX8_car 112 = .ok (.getfield 171, 3) := by decide +kernel
theorem dX8_car_115 : decode cX8_car 115 = .ok (.iload_n 1, 1) := by decide +kernel
theorem dX8_car_116 : decode cX8_car 116 = .ok (.invokevirtual 189, 3) := by decide +kernel
theorem dX8_car_119 : decode cX8_car 119 = .ok (.ireturn, 1) := by decide +kernel
theorem dX8_car_120 : decode cX8_car 120 = .ok (.aload_n 0, 1) := by decide +kernel
theorem dX8_car_121 : decode cX8_car 121 = .ok (.getfield 22, 3) := by decide +kernel
theorem dX8_car_124 : decode cX8_car 124 = .ok (.getfield 171, 3) := by decide +kernel
theorem dX8_car_127 : decode cX8_car 127 = .ok (.iconst 0, 1) := by decide +kernel
theorem dX8_car_128 : decode cX8_car 128 = .ok (.invokevirtual 192, 3) := by decide +kernel
theorem dX8_car_131 : decode cX8_car 131 = .ok (.aload_n 0, 1) := by decide +kernel
theorem dX8_car_132 : decode cX8_car 132 = .ok (.getfield 22, 3) := by decide +kernel
theorem dX8_car_135 : decode cX8_car 135 = .ok (.getfield 171, 3) := by decide +kernel
theorem dX8_car_138 : decode cX8_car 138 = .ok (.iload_n 1, 1) := by decide +kernel
theorem dX8_car_139 : decode cX8_car 139 = .ok (.invokevirtual 196, 3) := by decide +kernel
theorem dX8_car_142 : decode cX8_car 142 = .ok (.ireturn, 1) := by decide +kernel
theorem dX8_totalAnew_0 : decode cX8_totalAnew 0 = .ok (.iload_n 1, 1) := by decide +kernel
theorem dX8_totalAnew_1 : decode cX8_totalAnew 1 = .ok (.invokestatic 80, 3) := by decide +kernel
theorem dX8_totalAnew_4 : decode cX8_totalAnew 4 = .ok (.aload_n 0, 1) := by decide +kernel
theorem dX8_totalAnew_5 : decode cX8_totalAnew 5 = .ok (.getfield 22, 3) := by decide +kernel
theorem dX8_totalAnew_8 : decode cX8_totalAnew 8 = .ok (.getfield 130, 3) := by decide +kernel
theorem dX8_totalAnew_11 : decode cX8_totalAnew 11 = .ok (.invokevirtual 198, 3) := by decide +kernel
theorem dX8_totalAnew_14 : decode cX8_totalAnew 14 = .ok (.aload_n 0, 1) := by decide +kernel
theorem dX8_totalAnew_15 : decode cX8_totalAnew 15 = .ok (.getfield 22, 3) := by decide +kernel
theorem dX8_totalAnew_18 : decode cX8_totalAnew 18 = .ok (.getfield 171, 3) := by decide +kernel
theorem dX8_totalAnew_21 : decode cX8_totalAnew 21 = .ok (.iload_n 1, 1) := by decide +kernel
theorem dX8_totalAnew_22 : decode cX8_totalAnew 22 = .ok (.invokevirtual 201, 3) := by decide +kernel
theorem dX8_totalAnew_25 : decode cX8_totalAnew 25 = .ok (.ireturn, 1) := by decide +kernel
theorem dX8_ranked_0 : decode cX8_ranked 0 = .ok (.iload_n 1, 1) := by decide +kernel
theorem dX8_ranked_1 : decode cX8_ranked 1 = .ok (.iconst 0, 1) := by decide +kernel
theorem dX8_ranked_2 : decode cX8_ranked 2 = .ok (.bipush 9, 2) := by decide +kernel
theorem dX8_ranked_4 : decode cX8_ranked 4 = .ok (.invokestatic 26, 3) := by decide +kernel
theorem dX8_ranked_7 : decode cX8_ranked 7 = .ok (.aload_n 0, 1) := by decide +kernel
theorem dX8_ranked_8 : decode cX8_ranked 8 = .ok (.getfield 22, 3) := by decide +kernel
theorem dX8_ranked_11 : decode cX8_ranked 11 = .ok (.getfield 171, 3) := by decide +kernel
theorem dX8_ranked_14 : decode cX8_ranked 14 = .ok (.iconst 0, 1) := by decide +kernel
theorem dX8_ranked_15 : decode cX8_ranked 15 = .ok (.invokevirtual 192, 3) := by decide +kernel
theorem dX8_ranked_18 : decode cX8_ranked 18 = .ok (.aload_n 0, 1) := by decide +kernel
theorem dX8_ranked_19 : decode cX8_ranked 19 = .ok (.getfield 22, 3) := by decide +kernel
theorem dX8_ranked_22 : decode cX8_ranked 22 = .ok (.getfield 171, 3) := by decide +kernel
theorem dX8_ranked_25 : decode cX8_ranked 25 = .ok (.iload_n 1, 1) := by decide +kernel
theorem dX8_ranked_26 : decode cX8_ranked 26 = .ok (.invokevirtual 204, 3) := by decide +kernel
theorem dX8_ranked_29 : decode cX8_ranked 29 = .ok (.ireturn, 1) := by decide +kernel
theorem dX8_close_0 : decode cX8_close 0 = .ok (.aload_n 0, 1) := by decide +kernel
theorem dX8_close_1 : decode cX8_close 1 = .ok (.getfield 10, 3) := by decide +kernel
theorem dX8_close_4 : decode cX8_close 4 = .ok (.invokevirtual 206, 3) := by decide +kernel
theorem dX8_close_7 : decode cX8_close 7 = .ok (.ifCond .ne 13, 3) := by decide +kernel
theorem dX8_close_10 : decode cX8_close 10 = .ok (.aload_n 0, 1) := by decide +kernel
theorem dX8_close_11 : decode cX8_close 11 = .ok (.getfield 22, 3) := by decide +kernel
theorem dX8_close_14 : decode cX8_close 14 = .ok (.invokevirtual 30, 3) := by decide +kernel
theorem dX8_close_17 : decode cX8_close 17 = .ok (.ifCond .ne 13, 3) := by decide +kernel
theorem dX8_close_20 : decode cX8_close 20 = .ok (.new 44, 3) := by decide +kernel
theorem dX8_close_23 : decode cX8_close 23 = .ok (.dup, 1) := by decide +kernel
theorem dX8_close_24 : decode cX8_close 24 = .ok (.ldc 209, 2) := by decide +kernel
theorem dX8_close_26 : decode cX8_close 26 = .ok (.invokespecial 48, 3) := by decide +kernel
theorem dX8_close_29 : decode cX8_close 29 = .ok (.athrow, 1) := by decide +kernel
theorem dX8_close_30 : decode cX8_close 30 = .ok (.aload_n 0, 1) := by decide +kernel
theorem dX8_close_31 : decode cX8_close 31 = .ok (.getfield 22, 3) := by decide +kernel
theorem dX8_close_34 : decode cX8_close 34 = .ok (.getfield 171, 3) := by decide +kernel
theorem dX8_close_37 : decode cX8_close 37 = .ok (.iconst 0, 1) := by decide +kernel
theorem dX8_close_38 : decode cX8_close 38 = .ok (.invokevirtual 192, 3) := by decide +kernel
theorem dX8_close_41 : decode cX8_close 41 = .ok (.iconst 0, 1) := by decide +kernel
theorem dX8_close_42 : decode cX8_close 42 = .ok (.istore_n 1, 1) := by decide +kernel
theorem dX8_close_43 : decode cX8_close 43 = .ok (.iload_n 1, 1) := by decide +kernel
theorem dX8_close_44 : decode cX8_close 44 = .ok (.bipush 10, 2) := by decide +kernel
theorem dX8_close_46 : decode cX8_close 46 = .ok (.if_icmp .ge 28, 3) := by decide +kernel
theorem dX8_close_49 : decode cX8_close 49 = .ok (.aload_n 0, 1) := by decide +kernel
theorem dX8_close_50 : decode cX8_close 50 = .ok (.getfield 10, 3) := by decide +kernel
theorem dX8_close_53 : decode cX8_close 53 = .ok (.iload_n 1, 1) := by decide +kernel
theorem dX8_close_54 : decode cX8_close 54 = .ok (.aload_n 0, 1) := by decide +kernel
theorem dX8_close_55 : decode cX8_close 55 = .ok (.getfield 22, 3) := by decide +kernel
theorem dX8_close_58 : decode cX8_close 58 = .ok (.getfield 171, 3) := by decide +kernel
theorem dX8_close_61 : decode cX8_close 61 = .ok (.iload_n 1, 1) := by decide +kernel
theorem dX8_close_62 : decode cX8_close 62 = .ok (.invokevirtual 196, 3) := by decide +kernel
theorem dX8_close_65 : decode cX8_close 65 = .ok (.invokevirtual 211, 3) := by decide +kernel
theorem dX8_close_68 : decode cX8_close 68 = .ok (.iinc 1 1, 3) := by decide +kernel
theorem dX8_close_71 : decode cX8_close 71 = .ok (.goto (-28), 3) := by decide +kernel
theorem dX8_close_74 : decode cX8_close 74 = .ok (.aload_n 0, 1) := by decide +kernel
theorem dX8_close_75 : decode cX8_close 75 = .ok (.invokestatic 16, 3) := by decide +kernel
theorem dX8_close_78 : decode cX8_close 78 = .ok (.putfield 22, 3) := by decide +kernel
theorem dX8_close_81 : decode cX8_close 81 = .ok (.aload_n 0, 1) := by decide +kernel
theorem dX8_close_82 : decode cX8_close 82 = .ok (.getfield 10, 3) := by decide +kernel
theorem dX8_close_85 : decode cX8_close 85 = .ok (.invokevirtual 214, 3) := by decide +kernel
theorem dX8_close_88 : decode cX8_close 88 = .ok (.ireturn, 1) := by decide +kernel
theorem dX8_points_0 : decode cX8_points 0 = .ok (.iload_n 1, 1) := by decide +kernel
theorem dX8_points_1 : decode cX8_points 1 = .ok (.invokestatic 80, 3) := by decide +kernel
theorem dX8_points_4 : decode cX8_points 4 = .ok (.aload_n 0, 1) := by decide +kernel
theorem dX8_points_5 : decode cX8_points 5 = .ok (.getfield 10, 3) := by decide +kernel
theorem dX8_points_8 : decode cX8_points 8 = .ok (.iload_n 1, 1) := by decide +kernel
theorem dX8_points_9 : decode cX8_points 9 = .ok (.invokevirtual 218, 3) := by decide +kernel
theorem dX8_points_12 : decode cX8_points 12 = .ok (.ireturn, 1) := by decide +kernel
theorem dX8_table_0 : decode cX8_table 0 = .ok (.iload_n 1, 1) := by decide +kernel
theorem dX8_table_1 : decode cX8_table 1 = .ok (.iconst 0, 1) := by decide +kernel
theorem dX8_table_2 : decode cX8_table 2 = .ok (.bipush 9, 2) := by decide +kernel
theorem dX8_table_4 : decode cX8_table 4 = .ok (.invokestatic 26, 3) := by decide +kernel
theorem dX8_table_7 : decode cX8_table 7 = .ok (.aload_n 0, 1) := by decide +kernel
theorem dX8_table_8 : decode cX8_table 8 = .ok (.getfield 10, 3) := by decide +kernel
theorem dX8_table_11 : decode cX8_table 11 = .ok (.iload_n 1, 1) := by decide +kernel
theorem dX8_table_12 : decode cX8_table 12 = .ok (.invokevirtual 221, 3) := by decide +kernel
theorem dX8_table_15 : decode cX8_table 15 = .ok (.ireturn, 1) := by decide +kernel
theorem dX8_needCar_0 : decode cX8_needCar 0 = .ok (.iload_n 0, 1) := by decide +kernel
theorem dX8_needCar_1 : decode cX8_needCar 1 = .ok (.ifCond .lt 9, 3) := by decide +kernel
theorem dX8_needCar_4 : decode cX8_needCar 4 = .ok (.iload_n 0, 1) := by decide +kernel
theorem dX8_needCar_5 : decode cX8_needCar 5 = .ok (.bipush 10, 2) := by decide +kernel
theorem dX8_needCar_7 : decode cX8_needCar 7 = .ok (.if_icmp .lt 13, 3) := by decide +kernel
theorem dX8_needCar_10 : decode cX8_needCar 10 = .ok (.new 222, 3) := by decide +kernel
theorem dX8_needCar_13 : decode cX8_needCar 13 = .ok (.dup, 1) := by decide +kernel
theorem dX8_needCar_14 : decode cX8_needCar 14 = .ok (.ldc 224, 2) := by decide +kernel
theorem dX8_needCar_16 : decode cX8_needCar 16 = .ok (.invokespecial 226, 3) := by decide +kernel
theorem dX8_needCar_19 : decode cX8_needCar 19 = .ok (.athrow, 1) := by decide +kernel
theorem dX8_needCar_20 : decode cX8_needCar 20 = .ok (.return_, 1) := by decide +kernel
theorem dX8_needItem_0 : decode cX8_needItem 0 = .ok (.aload_n 0, 1) := by decide +kernel
theorem dX8_needItem_1 : decode cX8_needItem 1 = .ok (.getfield 22, 3) := by decide +kernel
theorem dX8_needItem_4 : decode cX8_needItem 4 = .ok (.getfield 34, 3) := by decide +kernel
theorem dX8_needItem_7 : decode cX8_needItem 7 = .ok (.iload_n 1, 1) := by decide +kernel
theorem dX8_needItem_8 : decode cX8_needItem 8 = .ok (.invokevirtual 227, 3) := by decide +kernel
theorem dX8_needItem_11 : decode cX8_needItem 11 = .ok (.ifCond .ne 13, 3) := by decide +kernel
theorem dX8_needItem_14 : decode cX8_needItem 14 = .ok (.new 222, 3) := by decide +kernel
theorem dX8_needItem_17 : decode cX8_needItem 17 = .ok (.dup, 1) := by decide +kernel
theorem dX8_needItem_18 : decode cX8_needItem 18 = .ok (.ldc 230, 2) := by decide +kernel
theorem dX8_needItem_20 : decode cX8_needItem 20 = .ok (.invokespecial 226, 3) := by decide +kernel
theorem dX8_needItem_23 : decode cX8_needItem 23 = .ok (.athrow, 1) := by decide +kernel
theorem dX8_needItem_24 : decode cX8_needItem 24 = .ok (.return_, 1) := by decide +kernel
theorem dX8_needRange_0 : decode cX8_needRange 0 = .ok (.iload_n 0, 1) := by decide +kernel
theorem dX8_needRange_1 : decode cX8_needRange 1 = .ok (.iload_n 1, 1) := by decide +kernel
theorem dX8_needRange_2 : decode cX8_needRange 2 = .ok (.if_icmp .lt 8, 3) := by decide +kernel
theorem dX8_needRange_5 : decode cX8_needRange 5 = .ok (.iload_n 0, 1) := by decide +kernel
theorem dX8_needRange_6 : decode cX8_needRange 6 = .ok (.iload_n 2, 1) := by decide +kernel
theorem dX8_needRange_7 : decode cX8_needRange 7 = .ok (.if_icmp .le 13, 3) := by decide +kernel
theorem dX8_needRange_10 : decode cX8_needRange 10 = .ok (.new 232, 3) := by decide +kernel
theorem dX8_needRange_13 : decode cX8_needRange 13 = .ok (.dup, 1) := by decide +kernel
theorem dX8_needRange_14 : decode cX8_needRange 14 = .ok (.ldc 234, 2) := by decide +kernel
theorem dX8_needRange_16 : decode cX8_needRange 16 = .ok (.invokespecial 236, 3) := by decide +kernel
theorem dX8_needRange_19 : decode cX8_needRange 19 = .ok (.athrow, 1) := by decide +kernel
theorem dX8_needRange_20 : decode cX8_needRange 20 = .ok (.return_, 1) := by decide +kernel
theorem dX8_needKind_0 : decode cX8_needKind 0 = .ok (.aload_n 0, 1) := by decide +kernel
theorem dX8_needKind_1 : decode cX8_needKind 1 = .ok (.getfield 22, 3) := by decide +kernel
theorem dX8_needKind_4 : decode cX8_needKind 4 = .ok (.getfield 34, 3) := by decide +kernel
theorem dX8_needKind_7 : decode cX8_needKind 7 = .ok (.iload_n 1, 1) := by decide +kernel
theorem dX8_needKind_8 : decode cX8_needKind 8 = .ok (.invokevirtual 237, 3) := by decide +kernel
theorem dX8_needKind_11 : decode cX8_needKind 11 = .ok (.iload_n 2, 1) := by decide +kernel
theorem dX8_needKind_12 : decode cX8_needKind 12 = .ok (.if_icmp .eq 13, 3) := by decide +kernel
theorem dX8_needKind_15 : decode cX8_needKind 15 = .ok (.new 232, 3) := by decide +kernel
theorem dX8_needKind_18 : decode cX8_needKind 18 = .ok (.dup, 1) := by decide +kernel
theorem dX8_needKind_19 : decode cX8_needKind 19 = .ok (.ldc 240, 2) := by decide +kernel
theorem dX8_needKind_21 : decode cX8_needKind 21 = .ok (.invokespecial 236, 3) := by decide +kernel
theorem dX8_needKind_24 : decode cX8_needKind 24 = .ok (.athrow, 1) := by decide +kernel
theorem dX8_needKind_25 : decode cX8_needKind 25 = .ok (.return_, 1) := by decide +kernel
theorem dX8_needControl_0 : decode cX8_needControl 0 = .ok (.aload_n 0, 1) := by decide +kernel
theorem dX8_needControl_1 : decode cX8_needControl 1 = .ok (.getfield 22, 3) := by decide +kernel
theorem dX8_needControl_4 : decode cX8_needControl 4 = .ok (.getfield 34, 3) := by decide +kernel
theorem dX8_needControl_7 : decode cX8_needControl 7 = .ok (.iload_n 1, 1) := by decide +kernel
theorem dX8_needControl_8 : decode cX8_needControl 8 = .ok (.invokevirtual 237, 3) := by decide +kernel
theorem dX8_needControl_11 : decode cX8_needControl 11 = .ok (.iconst 2, 1) := by decide +kernel
theorem dX8_needControl_12 : decode cX8_needControl 12 = .ok (.if_icmp .ne 13, 3) := by decide +kernel
theorem dX8_needControl_15 : decode cX8_needControl 15 = .ok (.new 232, 3) := by decide +kernel
theorem dX8_needControl_18 : decode cX8_needControl 18 = .ok (.dup, 1) := by decide +kernel
theorem dX8_needControl_19 : decode cX8_needControl 19 = .ok (.ldc 242, 2) := by decide +kernel
theorem dX8_needControl_21 : decode cX8_needControl 21 = .ok (.invokespecial 236, 3) := by decide +kernel
theorem dX8_needControl_24 : decode cX8_needControl 24 = .ok (.athrow, 1) := by decide +kernel
theorem dX8_needControl_25 : decode cX8_needControl 25 = .ok (.return_, 1) := by decide +kernel
theorem dX8_needStart_0 : decode cX8_needStart 0 = .ok (.aload_n 0, 1) := by decide +kernel
theorem dX8_needStart_1 : decode cX8_needStart 1 = .ok (.getfield 22, 3) := by decide +kernel
theorem dX8_needStart_4 : decode cX8_needStart 4 = .ok (.getfield 86, 3) := by decide +kernel
theorem dX8_needStart_7 : decode cX8_needStart 7 = .ok (.iload_n 1, 1) := by decide +kernel
theorem dX8_needStart_8 : decode cX8_needStart 8 = .ok (.aload_n 0, 1) := by decide +kernel
theorem dX8_needStart_9 : decode cX8_needStart 9 = .ok (.getfield 22, 3) := by decide +kernel
theorem dX8_needStart_12 : decode cX8_needStart 12 = .ok (.getfield 34, 3) := by decide +kernel
theorem dX8_needStart_15 : decode cX8_needStart 15 = .ok (.iload_n 2, 1) := by decide +kernel
theorem dX8_needStart_16 : decode cX8_needStart 16 = .ok (.invokevirtual 244, 3) := by decide +kernel
theorem dX8_needStart_19 : decode cX8_needStart 19 = .ok (.invokevirtual 247, 3) := by decide +kernel
theorem dX8_needStart_22 : decode cX8_needStart 22 = .ok (.iconst (-1), 1) := by decide +kernel
theorem dX8_needStart_23 : decode cX8_needStart 23 = .ok (.if_icmp .ne 13, 3) := by decide +kernel
theorem dX8_needStart_26 : decode cX8_needStart 26 = .ok (.new 44, 3) := by decide +kernel
theorem dX8_needStart_29 : decode cX8_needStart 29 = .ok (.dup, 1) := by decide +kernel
theorem dX8_needStart_30 : decode cX8_needStart 30 = .ok (.ldc 250, 2) := by decide +kernel
theorem dX8_needStart_32 : decode cX8_needStart 32 = .ok (.invokespecial 48, 3) := by decide +kernel
theorem dX8_needStart_35 : decode cX8_needStart 35 = .ok (.athrow, 1) := by decide +kernel
theorem dX8_needStart_36 : decode cX8_needStart 36 = .ok (.return_, 1) := by decide +kernel
theorem dX9_init_0 : decode cX9_init 0 = .ok (.aload_n 0, 1) := by decide +kernel
theorem dX9_init_1 : decode cX9_init 1 = .ok (.invokespecial 1, 3) := by decide +kernel
theorem dX9_init_4 : decode cX9_init 4 = .ok (.aload_n 0, 1) := by decide +kernel
theorem dX9_init_5 : decode cX9_init 5 = .ok (.bipush 20, 2) := by decide +kernel
theorem dX9_init_7 : decode cX9_init 7 = .ok (.newarray .int, 2) := by decide +kernel
theorem dX9_init_9 : decode cX9_init 9 = .ok (.putfield 7, 3) := by decide +kernel
theorem dX9_init_12 : decode cX9_init 12 = .ok (.aload_n 0, 1) := by decide +kernel
theorem dX9_init_13 : decode cX9_init 13 = .ok (.bipush 20, 2) := by decide +kernel
theorem dX9_init_15 : decode cX9_init 15 = .ok (.newarray .int, 2) := by decide +kernel
theorem dX9_init_17 : decode cX9_init 17 = .ok (.putfield 13, 3) := by decide +kernel
theorem dX9_init_20 : decode cX9_init 20 = .ok (.aload_n 0, 1) := by decide +kernel
theorem dX9_init_21 : decode cX9_init 21 = .ok (.sipush 200, 3) := by decide +kernel
theorem dX9_init_24 : decode cX9_init 24 = .ok (.newarray .int, 2) := by decide +kernel
theorem dX9_init_26 : decode cX9_init 26 = .ok (.putfield 16, 3) := by decide +kernel
theorem dX9_init_29 : decode cX9_init 29 = .ok (.aload_n 0, 1) := by decide +kernel
theorem dX9_init_30 : decode cX9_init 30 = .ok (.bipush 20, 2) := by decide +kernel
theorem dX9_init_32 : decode cX9_init 32 = .ok (.newarray .int, 2) := by decide +kernel
theorem dX9_init_34 : decode cX9_init 34 = .ok (.putfield 19, 3) := by decide +kernel
theorem dX9_init_37 : decode cX9_init 37 = .ok (.aload_n 0, 1) := by decide +kernel
theorem dX9_init_38 : decode cX9_init 38 = .ok (.sipush 200, 3) := by decide +kernel
theorem dX9_init_41 : decode cX9_init 41 = .ok (.newarray .int, 2) := by decide +kernel
theorem dX9_init_43 : decode cX9_init 43 = .ok (.putfield 22, 3) := by decide +kernel
theorem dX9_init_46 : decode cX9_init 46 = .ok (.aload_n 0, 1) := by decide +kernel
theorem dX9_init_47 : decode cX9_init 47 = .ok (.sipush 200, 3) := by decide +kernel
theorem dX9_init_50 : decode cX9_init 50 = .ok (.newarray .int, 2) := by decide +kernel
theorem dX9_init_52 : decode cX9_init 52 = .ok (.putfield 25, 3) := by decide +kernel
theorem dX9_init_55 : decode cX9_init 55 = .ok (.aload_n 0, 1) := by decide +kernel
theorem dX9_init_56 : decode cX9_init 56 = .ok (.sipush 200, 3) := by decide +kernel
theorem dX9_init_59 : decode cX9_init 59 = .ok (.newarray .int, 2) := by decide +kernel
theorem dX9_init_61 : decode cX9_init 61 = .ok (.putfield 28, 3) := by decide +kernel
theorem dX9_init_64 : decode cX9_init 64 = .ok (.aload_n 0, 1) := by decide +kernel
theorem dX9_init_65 : decode cX9_init 65 = .ok (.sipush 200, 3) := by decide +kernel
theorem dX9_init_68 : decode cX9_init 68 = .ok (.newarray .int, 2) := by decide +kernel
theorem dX9_init_70 : decode cX9_init 70 = .ok (.putfield 31, 3) := by decide +kernel
theorem dX9_init_73 : decode cX9_init 73 = .ok (.aload_n 0, 1) := by decide +kernel
theorem dX9_init_74 : decode cX9_init 74 = .ok (.sipush 200, 3) := by decide +kernel
theorem dX9_init_77 : decode cX9_init 77 = .ok (.newarray .boolean, 2) := by decide +kernel
theorem dX9_init_79 : decode cX9_init 79 = .ok (.putfield 34, 3) := by decide +kernel
theorem dX9_init_82 : decode cX9_init 82 = .ok (.aload_n 0, 1) := by decide +kernel
theorem dX9_init_83 : decode cX9_init 83 = .ok (.sipush 200, 3) := by decide +kernel
theorem dX9_init_86 : decode cX9_init 86 = .ok (.newarray .int, 2) := by decide +kernel
theorem dX9_init_88 : decode cX9_init 88 = .ok (.putfield 38, 3) := by decide +kernel
theorem dX9_init_91 : decode cX9_init 91 = .ok (.aload_n 0, 1) := by decide +kernel
theorem dX9_init_92 : decode cX9_init 92 = .ok (.bipush 10, 2) := by decide +kernel
theorem dX9_init_94 : decode cX9_init 94 = .ok (.newarray .int, 2) := by decide +kernel
theorem dX9_init_96 : decode cX9_init 96 = .ok (.putfield 41, 3) := by decide +kernel
theorem dX9_init_99 : decode cX9_init 99 = .ok (.aload_n 0, 1) := by decide +kernel
theorem dX9_init_100 : decode cX9_init 100 = .ok (.bipush 10, 2) := by decide +kernel
theorem dX9_init_102 : decode cX9_init 102 = .ok (.newarray .int, 2) := by decide +kernel
theorem dX9_init_104 : decode cX9_init 104 = .ok (.putfield 44, 3) := by decide +kernel
theorem dX9_init_107 : decode cX9_init 107 = .ok (.aload_n 0, 1) := by decide +kernel
theorem dX9_init_108 : decode cX9_init 108 = .ok (.bipush 10, 2) := by decide +kernel
theorem dX9_init_110 : decode cX9_init 110 = .ok (.newarray .boolean, 2) := by decide +kernel
theorem dX9_init_112 : decode cX9_init 112 = .ok (.putfield 47, 3) := by decide +kernel
theorem dX9_init_115 : decode cX9_init 115 = .ok (.aload_n 0, 1) := by decide +kernel
theorem dX9_init_116 : decode cX9_init 116 = .ok (.bipush 10, 2) := by decide +kernel
theorem dX9_init_118 : decode cX9_init 118 = .ok (.newarray .boolean, 2) := by decide +kernel
theorem dX9_init_120 : decode cX9_init 120 = .ok (.putfield 50, 3) := by decide +kernel
theorem dX9_init_123 : decode cX9_init 123 = .ok (.aload_n 0, 1) := by decide +kernel
theorem dX9_init_124 : decode cX9_init 124 = .ok (.bipush 10, 2) := by decide +kernel
theorem dX9_init_126 : decode cX9_init 126 = .ok (.newarray .boolean, 2) := by decide +kernel
theorem dX9_init_128 : decode cX9_init 128 = .ok (.putfield 53, 3) := by decide +kernel
theorem dX9_init_131 : decode cX9_init 131 = .ok (.aload_n 0, 1) := by decide +kernel
theorem dX9_init_132 : decode cX9_init 132 = .ok (.sipush 1000, 3) := by decide +kernel
theorem dX9_init_135 : decode cX9_init 135 = .ok (.newarray .boolean, 2) := by decide +kernel
theorem dX9_init_137 : decode cX9_init 137 = .ok (.putfield 56, 3) := by decide +kernel
theorem dX9_init_140 : decode cX9_init 140 = .ok (.aload_n 0, 1) := by decide +kernel
theorem dX9_init_141 : decode cX9_init 141 = .ok (.sipush 1000, 3) := by decide +kernel
theorem dX9_init_144 : decode cX9_init 144 = .ok (.newarray .boolean, 2) := by decide +kernel
theorem dX9_init_146 : decode cX9_init 146 = .ok (.putfield 59, 3) := by decide +kernel
theorem dX9_init_149 : decode cX9_init 149 = .ok (.aload_n 0, 1) := by decide +kernel
theorem dX9_init_150 : decode cX9_init 150 = .ok (.bipush 10, 2) := by decide +kernel
theorem dX9_init_152 : decode cX9_init 152 = .ok (.newarray .int, 2) := by decide +kernel
theorem dX9_init_154 : decode cX9_init 154 = .ok (.putfield 62, 3) := by decide +kernel
theorem dX9_init_157 : decode cX9_init 157 = .ok (.aload_n 0, 1) := by decide +kernel
theorem dX9_init_158 : decode cX9_init 158 = .ok (.bipush 60, 2) := by decide +kernel
theorem dX9_init_160 : decode cX9_init 160 = .ok (.newarray .int, 2) := by decide +kernel
theorem dX9_init_162 : decode cX9_init 162 = .ok (.putfield 65, 3) := by decide +kernel
theorem dX9_init_165 : decode cX9_init 165 = .ok (.aload_n 0, 1) := by decide +kernel
theorem dX9_init_166 : decode cX9_init 166 = .ok (.bipush 10, 2) := by decide +kernel
theorem dX9_init_168 : decode cX9_init 168 = .ok (.newarray .int, 2) := by decide +kernel
theorem dX9_init_170 : decode cX9_init 170 = .ok (.putfield 68, 3) := by decide +kernel
theorem dX9_init_173 : decode cX9_init 173 = .ok (.aload_n 0, 1) := by decide +kernel
theorem dX9_init_174 : decode cX9_init 174 = .ok (.bipush 10, 2) := by decide +kernel
theorem dX9_init_176 : decode cX9_init 176 = .ok (.newarray .int, 2) := by decide +kernel
theorem dX9_init_178 : decode cX9_init 178 = .ok (.putfield 71, 3) := by decide +kernel
theorem dX9_init_181 : decode cX9_init 181 = .ok (.aload_n 0, 1) := by decide +kernel
theorem dX9_init_182 : decode cX9_init 182 = .ok (.invokevirtual 74, 3) := by decide +kernel
theorem dX9_init_185 : decode cX9_init 185 = .ok (.return_, 1) := by decide +kernel
theorem dX9_begins_0 : decode cX9_begins 0 = .ok (.aload_n 0, 1) := by decide +kernel
theorem dX9_begins_1 : decode cX9_begins 1 = .ok (.iconst 0, 1) := by decide +kernel
theorem dX9_begins_2 : decode cX9_begins 2 = .ok (.putfield 77, 3) := by decide +kernel
theorem dX9_begins_5 : decode cX9_begins 5 = .ok (.iconst 0, 1) := by decide +kernel
theorem dX9_begins_6 : decode cX9_begins 6 = .ok (.istore_n 1, 1) := by decide +kernel
theorem dX9_begins_7 : decode cX9_begins 7 = .ok (.iload_n 1, 1) := by decide +kernel
theorem dX9_begins_8 : decode cX9_begins 8 = .ok (.sipush 200, 3) := by decide +kernel
theorem dX9_begins_11 : decode cX9_begins 11 = .ok (.if_icmp .ge 61, 3) := by decide +kernel
theorem dX9_begins_14 : decode cX9_begins 14 = .ok (.aload_n 0, 1) := by decide +kernel
theorem dX9_begins_15 : decode cX9_begins 15 = .ok (.getfield 22, 3) := by decide +kernel
theorem dX9_begins_18 : decode cX9_begins 18 = .ok (.iload_n 1, 1) := by decide +kernel
theorem dX9_begins_19 : decode cX9_begins 19 = .ok (.iconst (-1), 1) := by decide +kernel
theorem dX9_begins_20 : decode cX9_begins 20 = .ok (.iastore, 1) := by decide +kernel
theorem dX9_begins_21 : decode cX9_begins 21 = .ok (.aload_n 0, 1) := by decide +kernel
theorem dX9_begins_22 : decode cX9_begins 22 = .ok (.getfield 25, 3) := by decide +kernel
theorem dX9_begins_25 : decode cX9_begins 25 = .ok (.iload_n 1, 1) := by decide +kernel
theorem dX9_begins_26 : decode cX9_begins 26 = .ok (.iconst 0, 1) := by decide +kernel
theorem dX9_begins_27 : decode cX9_begins 27 = .ok (.iastore, 1) := by decide +kernel
theorem dX9_begins_28 : decode cX9_begins 28 = .ok (.aload_n 0, 1) := by decide +kernel
theorem dX9_begins_29 : decode cX9_begins 29 = .ok (.getfield 28, 3) := by decide +kernel
theorem dX9_begins_32 : decode cX9_begins 32 = .ok (.iload_n 1, 1) := by decide +kernel
theorem dX9_begins_33 : decode cX9_begins 33 = .ok (.iconst (-1), 1) := by decide +kernel
theorem dX9_begins_34 : decode cX9_begins 34 = .ok (.iastore, 1) := by decide +kernel
theorem dX9_begins_35 : decode cX9_begins 35 = .ok (.aload_n 0, 1) := by decide +kernel
theorem dX9_begins_36 : decode cX9_begins 36 = .ok (.getfield 31, 3) := by decide +kernel
theorem dX9_begins_39 : decode cX9_begins 39 = .ok (.iload_n 1, 1) := by decide +kernel
theorem dX9_begins_40 : decode cX9_begins 40 = .ok (.iconst (-1), 1) := by decide +kernel
theorem dX9_begins_41 : decode cX9_begins 41 = .ok (.iastore, 1) := by decide +kernel
theorem dX9_begins_42 : decode cX9_begins 42 = .ok (.aload_n 0, 1) := by decide +kernel
theorem dX9_begins_43 : decode cX9_begins 43 = .ok (.getfield 34, 3) := by decide +kernel
theorem dX9_begins_46 : decode cX9_begins 46 = .ok (.iload_n 1, 1) := by decide +kernel
theorem dX9_begins_47 : decode cX9_begins 47 = .ok (.iconst 0, 1) := by decide +kernel
theorem dX9_begins_48 : decode cX9_begins 48 = .ok (.bastore, 1) := by decide +kernel
theorem dX9_begins_49 : decode cX9_begins 49 = .ok (.aload_n 0, 1) := by decide +kernel
theorem dX9_begins_50 : decode cX9_begins 50 = .ok (.getfield 38, 3) := by decide +kernel
theorem dX9_begins_53 : decode cX9_begins 53 = .ok (.iload_n 1, 1) := by decide +kernel
theorem dX9_begins_54 : decode cX9_begins 54 = .ok (.iconst (-1), 1) := by decide +kernel
theorem dX9_begins_55 : decode cX9_begins 55 = .ok (.iastore, 1) := by decide +kernel
theorem dX9_begins_56 : decode cX9_begins 56 = .ok (.aload_n 0, 1) := by decide +kernel
theorem dX9_begins_57 : decode cX9_begins 57 = .ok (.getfield 19, 3) := by decide +kernel
theorem dX9_begins_60 : decode cX9_begins 60 = .ok (.iload_n 1, 1) := by decide +kernel
theorem dX9_begins_61 : decode cX9_begins 61 = .ok (.bipush 10, 2) := by decide +kernel
theorem dX9_begins_63 : decode cX9_begins 63 = .ok (.idiv, 1) := by decide +kernel
theorem dX9_begins_64 : decode cX9_begins 64 = .ok (.iconst (-1), 1) := by decide +kernel
theorem dX9_begins_65 : decode cX9_begins 65 = .ok (.iastore, 1) := by decide +kernel
theorem dX9_begins_66 : decode cX9_begins 66 = .ok (.iinc 1 1, 3) := by decide +kernel
theorem dX9_begins_69 : decode cX9_begins 69 = .ok (.goto (-62), 3) := by decide +kernel
theorem dX9_begins_72 : decode cX9_begins 72 = .ok (.iconst 0, 1) := by decide +kernel
theorem dX9_begins_73 : decode cX9_begins 73 = .ok (.istore_n 1, 1) := by decide +kernel
theorem dX9_begins_74 : decode cX9_begins 74 = .ok (.iload_n 1, 1) := by decide +kernel
theorem dX9_begins_75 : decode cX9_begins 75 = .ok (.sipush 1000, 3) := by decide +kernel
theorem dX9_begins_78 : decode cX9_begins 78 = .ok (.if_icmp .ge 23, 3) := by decide +kernel
theorem dX9_begins_81 : decode cX9_begins 81 = .ok (.aload_n 0, 1) := by decide +kernel
theorem dX9_begins_82 : decode cX9_begins 82 = .ok (.getfield 56, 3) := by decide +kernel
theorem dX9_begins_85 : decode cX9_begins 85 = .ok (.iload_n 1, 1) := by decide +kernel
theorem dX9_begins_86 : decode cX9_begins 86 = .ok (.iconst 0, 1) := by decide +kernel
theorem dX9_begins_87 : decode cX9_begins 87 = .ok (.bastore, 1) := by decide +kernel
theorem dX9_begins_88 : decode cX9_begins 88 = .ok (.aload_n 0, 1) := by decide +kernel
theorem dX9_begins_89 : decode cX9_begins 89 = .ok (.getfield 59, 3) := by decide +kernel
theorem dX9_begins_92 : decode cX9_begins 92 = .ok (.iload_n 1, 1) := by decide +kernel
theorem dX9_begins_93 : decode cX9_begins 93 = .ok (.iconst 0, 1) := by decide +kernel
theorem dX9_begins_94 : decode cX9_begins 94 = .ok (.bastore, 1) := by decide +kernel
theorem dX9_begins_95 : decode cX9_begins 95 = .ok (.iinc 1 1, 3) := by decide +kernel
theorem dX9_begins_98 : decode cX9_begins 98 = .ok (.goto (-24), 3) := by decide +kernel
theorem dX9_begins_101 : decode cX9_begins 101 = .ok (.iconst 0, 1) := by decide +kernel
theorem dX9_begins_102 : decode cX9_begins 102 = .ok (.istore_n 1, 1) := by decide +kernel
theorem dX9_begins_103 : decode cX9_begins 103 = .ok (.iload_n 1, 1) := by decide +kernel
theorem dX9_begins_104 : decode cX9_begins 104 = .ok (.bipush 10, 2) := by decide +kernel
theorem dX9_begins_106 : decode cX9_begins 106 = .ok (.if_icmp .ge 51, 3) := by decide +kernel
theorem dX9_begins_109 : decode cX9_begins 109 = .ok (.aload_n 0, 1) := by decide +kernel
theorem dX9_begins_110 : decode cX9_begins 110 = .ok (.getfield 41, 3) := by decide +kernel
theorem dX9_begins_113 : decode cX9_begins 113 = .ok (.iload_n 1, 1) := by decide +kernel
theorem dX9_begins_114 : decode cX9_begins 114 = .ok (.iconst 0, 1) := by decide +kernel
theorem dX9_begins_115 : decode cX9_begins 115 = .ok (.iastore, 1) := by decide +kernel
theorem dX9_begins_116 : decode cX9_begins 116 = .ok (.aload_n 0, 1) := by decide +kernel
theorem dX9_begins_117 : decode cX9_begins 117 = .ok (.getfield 44, 3) := by decide +kernel
theorem dX9_begins_120 : decode cX9_begins 120 = .ok (.iload_n 1, 1) := by decide +kernel
theorem dX9_begins_121 : decode cX9_begins 121 = .ok (.iconst 0, 1) := by decide +kernel
theorem dX9_begins_122 : decode cX9_begins 122 = .ok (.iastore, 1) := by decide +kernel
theorem dX9_begins_123 : decode cX9_begins 123 = .ok (.aload_n 0, 1) := by decide +kernel
theorem dX9_begins_124 : decode cX9_begins 124 = .ok (.getfield 47, 3) := by decide +kernel
theorem dX9_begins_127 : decode cX9_begins 127 = .ok (.iload_n 1, 1) := by decide +kernel
theorem dX9_begins_128 : decode cX9_begins 128 = .ok (.iconst 0, 1) := by decide +kernel
theorem dX9_begins_129 : decode cX9_begins 129 = .ok (.bastore, 1) := by decide +kernel
theorem dX9_begins_130 : decode cX9_begins 130 = .ok (.aload_n 0, 1) := by decide +kernel
theorem dX9_begins_131 : decode cX9_begins 131 = .ok (.getfield 50, 3) := by decide +kernel
theorem dX9_begins_134 : decode cX9_begins 134 = .ok (.iload_n 1, 1) := by decide +kernel
theorem dX9_begins_135 : decode cX9_begins 135 = .ok (.iconst 0, 1) := by decide +kernel
theorem dX9_begins_136 : decode cX9_begins 136 = .ok (.bastore, 1) := by decide +kernel
theorem dX9_begins_137 : decode cX9_begins 137 = .ok (.aload_n 0, 1) := by decide +kernel
theorem dX9_begins_138 : decode cX9_begins 138 = .ok (.getfield 53, 3) := by decide +kernel
theorem dX9_begins_141 : decode cX9_begins 141 = .ok (.iload_n 1, 1) := by decide +kernel
theorem dX9_begins_142 : decode cX9_begins 142 = .ok (.iconst 0, 1) := by decide +kernel
theorem dX9_begins_143 : decode cX9_begins 143 = .ok (.bastore, 1) := by decide +kernel
theorem dX9_begins_144 : decode cX9_begins 144 = .ok (.aload_n 0, 1) := by decide +kernel
theorem dX9_begins_145 : decode cX9_begins 145 = .ok (.getfield 62, 3) := by decide +kernel
theorem dX9_begins_148 : decode cX9_begins 148 = .ok (.iload_n 1, 1) := by decide +kernel
theorem dX9_begins_149 : decode cX9_begins 149 = .ok (.iconst 0, 1) := by decide +kernel
theorem dX9_begins_150 : decode cX9_begins 150 = .ok (.iastore, 1) := by decide +kernel
theorem dX9_begins_151 : decode cX9_begins 151 = .ok (.iinc 1 1, 3) := by decide +kernel
theorem dX9_begins_154 : decode cX9_begins 154 = .ok (.goto (-51), 3) := by decide +kernel
theorem dX9_begins_157 : decode cX9_begins 157 = .ok (.return_, 1) := by decide +kernel
theorem dX9_thrown_0 : decode cX9_thrown 0 = .ok (.aload_n 0, 1) := by decide +kernel
theorem dX9_thrown_1 : decode cX9_thrown 1 = .ok (.getfield 81, 3) := by decide +kernel
theorem dX9_thrown_4 : decode cX9_thrown 4 = .ok (.ireturn, 1) := by decide +kernel
theorem dX9_holds_0 : decode cX9_holds 0 = .ok (.aload_n 0, 1) := by decide +kernel
theorem dX9_holds_1 : decode cX9_holds 1 = .ok (.iload_n 1, 1) := by decide +kernel
theorem dX9_holds_2 : decode cX9_holds 2 = .ok (.putfield 81, 3) := by decide +kernel
theorem dX9_holds_5 : decode cX9_holds 5 = .ok (.iload_n 1, 1) := by decide +kernel
theorem dX9_holds_6 : decode cX9_holds 6 = .ok (.ifCond .ne 7, 3) := by decide +kernel
theorem dX9_holds_9 : decode cX9_holds 9 = .ok (.iconst 1, 1) := by decide +kernel
theorem dX9_holds_10 : decode cX9_holds 10 = .ok (.goto 4, 3) := by decide +kernel
theorem dX9_holds_13 : decode cX9_holds 13 = .ok (.iconst 0, 1) := by decide +kernel
theorem dX9_holds_14 : decode cX9_holds 14 = .ok (.ireturn, 1) := by decide +kernel
theorem dX9_isIn_0 : decode cX9_isIn 0 = .ok (.iload_n 0, 1) := by decide +kernel
theorem dX9_isIn_1 : decode cX9_isIn 1 = .ok (.iload_n 1, 1) := by decide +kernel
theorem dX9_isIn_2 : decode cX9_isIn 2 = .ok (.if_icmp .lt 12, 3) := by decide +kernel
theorem dX9_isIn_5 : decode cX9_isIn 5 = .ok (.iload_n 0, 1) := by decide +kernel
theorem dX9_isIn_6 : decode cX9_isIn 6 = .ok (.iload_n 2, 1) := by decide +kernel
theorem dX9_isIn_7 : decode cX9_isIn 7 = .ok (.if_icmp .gt 7, 3) := by decide +kernel
theorem dX9_isIn_10 : decode cX9_isIn 10 = .ok (.iconst 1, 1) := by decide +kernel
theorem dX9_isIn_11 : decode cX9_isIn 11 = .ok (.goto 4, 3) := by decide +kernel
theorem dX9_isIn_14 : decode cX9_isIn 14 = .ok (.iconst 0, 1) := by decide +kernel
theorem dX9_isIn_15 : decode cX9_isIn 15 = .ok (.ireturn, 1) := by decide +kernel
theorem dX9_isCar_0 : decode cX9_isCar 0 = .ok (.iload_n 0, 1) := by decide +kernel
theorem dX9_isCar_1 : decode cX9_isCar 1 = .ok (.iconst 0, 1) := by decide +kernel
theorem dX9_isCar_2 : decode cX9_isCar 2 = .ok (.bipush 9, 2) := by decide +kernel
theorem dX9_isCar_4 : decode cX9_isCar 4 = .ok (.invokestatic 84, 3) := by decide +kernel
theorem dX9_isCar_7 : decode cX9_isCar 7 = .ok (.ireturn, 1) := by decide +kernel
theorem dX9_isItem_0 : decode cX9_isItem 0 = .ok (.iload_n 1, 1) := by decide +kernel
theorem dX9_isItem_1 : decode cX9_isItem 1 = .ok (.iconst 0, 1) := by decide +kernel
theorem dX9_isItem_2 : decode cX9_isItem 2 = .ok (.aload_n 0, 1) := by decide +kernel
theorem dX9_isItem_3 : decode cX9_isItem 3 = .ok (.getfield 77, 3) := by decide +kernel
theorem dX9_isItem_6 : decode cX9_isItem 6 = .ok (.iconst 1, 1) := by decide +kernel
theorem dX9_isItem_7 : decode cX9_isItem 7 = .ok (.isub, 1) := by decide +kernel
theorem dX9_isItem_8 : decode cX9_isItem 8 = .ok (.invokestatic 84, 3) := by decide +kernel
theorem dX9_isItem_11 : decode cX9_isItem 11 = .ok (.ireturn, 1) := by decide +kernel
theorem dX9_canAdd_0 : decode cX9_canAdd 0 = .ok (.aload_n 0, 1) := by decide +kernel
theorem dX9_canAdd_1 : decode cX9_canAdd 1 = .ok (.getfield 77, 3) := by decide +kernel
theorem dX9_canAdd_4 : decode cX9_canAdd 4 = .ok (.ifCond .ne 11, 3) := by decide +kernel
theorem dX9_canAdd_7 : decode cX9_canAdd 7 = .ok (.iload_n 1, 1) := by decide +kernel
theorem dX9_canAdd_8 : decode cX9_canAdd 8 = .ok (.ifCond .eq 7, 3) := by decide +kernel
theorem dX9_canAdd_11 : decode cX9_canAdd 11 = .ok (.iconst 1, 1) := by decide +kernel
theorem dX9_canAdd_12 : decode cX9_canAdd 12 = .ok (.goto 4, 3) := by decide +kernel
theorem dX9_canAdd_15 : decode cX9_canAdd 15 = .ok (.iconst 0, 1) := by decide +kernel
theorem dX9_canAdd_16 : decode cX9_canAdd 16 = .ok (.istore_n 2, 1) := by decide +kernel
theorem dX9_canAdd_17 : decode cX9_canAdd 17 = .ok (.aload_n 0, 1) := by decide +kernel
theorem dX9_canAdd_18 : decode cX9_canAdd 18 = .ok (.getfield 77, 3) := by decide +kernel
theorem dX9_canAdd_21 : decode cX9_canAdd 21 = .ok (.ifCond .le 27, 3) := by decide +kernel
theorem dX9_canAdd_24 : decode cX9_canAdd 24 = .ok (.aload_n 0, 1) := by decide +kernel
theorem dX9_canAdd_25 : decode cX9_canAdd 25 = .ok (.getfield 7, 3) := by decide +kernel
theorem dX9_canAdd_28 : decode cX9_canAdd 28 = .ok (.aload_n 0, 1) := by decide +kernel
theorem dX9_canAdd_29 : decode cX9_canAdd 29 = .ok (.getfield 77, 3) := by decide +kernel
theorem dX9_canAdd_32 : decode cX9_canAdd 32 = .ok (.iconst 1, 1) := by decide +kernel
theorem dX9_canAdd_33 : decode cX9_canAdd 33 = .ok (.isub, 1) := by decide +kernel
theorem dX9_canAdd_34 : decode cX9_canAdd 34 = .ok (.iaload, 1) := by decide +kernel
theorem dX9_canAdd_35 : decode cX9_canAdd 35 = .ok (.iconst 2, 1) := by decide +kernel
theorem dX9_canAdd_36 : decode cX9_canAdd 36 = .ok (.if_icmp .ne 12, 3) := by decide +kernel
theorem dX9_canAdd_39 : decode cX9_canAdd 39 = .ok (.iload_n 1, 1) := by decide +kernel
theorem dX9_canAdd_40 : decode cX9_canAdd 40 = .ok (.iconst 1, 1) := by decide +kernel
theorem dX9_canAdd_41 : decode cX9_canAdd 41 = .ok (.if_icmp .eq 7, 3) := by decide +kernel
theorem dX9_canAdd_44 : decode cX9_canAdd 44 = .ok (.iconst 1, 1) := by decide +kernel
theorem dX9_canAdd_45 : decode cX9_canAdd 45 = .ok (.goto 4, 3) := by decide +kernel
theorem dX9_canAdd_48 : decode cX9_canAdd 48 = .ok (.iconst 0, 1) := by decide +kernel
theorem dX9_canAdd_49 : decode cX9_canAdd 49 = .ok (.istore_n 3, 1) := by decide +kernel
theorem dX9_canAdd_50 : decode cX9_canAdd 50 = .ok (.aload_n 0, 1) := by decide +kernel
theorem dX9_canAdd_51 : decode cX9_canAdd 51 = .ok (.getfield 77, 3) := by decide +kernel
theorem dX9_canAdd_54 : decode cX9_canAdd 54 = .ok (.bipush 20, 2) := by decide +kernel
theorem dX9_canAdd_56 : decode cX9_canAdd 56 = .ok (.if_icmp .ge 25, 3) := by decide +kernel
theorem dX9_canAdd_59 : decode cX9_canAdd 59 = .ok (.iload_n 2, 1) := by decide +kernel
theorem dX9_canAdd_60 : decode cX9_canAdd 60 = .ok (.ifCond .ne 21, 3) := by decide +kernel
theorem dX9_canAdd_63 : decode cX9_canAdd 63 = .ok (.iload_n 3, 1) := by decide +kernel
theorem dX9_canAdd_64 : decode cX9_canAdd 64 = .ok (.ifCond .ne 17, 3) := by decide +kernel
theorem dX9_canAdd_67 : decode cX9_canAdd 67 = .ok (.aload_n 0, 1) := by decide +kernel
theorem dX9_canAdd_68 : decode cX9_canAdd 68 = .ok (.getfield 19, 3) := by decide +kernel
theorem dX9_canAdd_71 : decode cX9_canAdd 71 = .ok (.iconst 0, 1) := by decide +kernel
theorem dX9_canAdd_72 : decode cX9_canAdd 72 = .ok (.iaload, 1) := by decide +kernel
theorem dX9_canAdd_73 : decode cX9_canAdd 73 = .ok (.iconst (-1), 1) := by decide +kernel
theorem dX9_canAdd_74 : decode cX9_canAdd 74 = .ok (.if_icmp .ne 7, 3) := by decide +kernel
theorem dX9_canAdd_77 : decode cX9_canAdd 77 = .ok (.iconst 1, 1) := by decide +kernel
theorem dX9_canAdd_78 : decode cX9_canAdd 78 = .ok (.goto 4, 3) := by decide +kernel
theorem dX9_canAdd_81 : decode cX9_canAdd 81 = .ok (.iconst 0, 1) := by decide +kernel
theorem dX9_canAdd_82 : decode cX9_canAdd 82 = .ok (.ireturn, 1) := by decide +kernel
theorem dX9_item_0 : decode cX9_item 0 = .ok (.iload_n 1, 1) := by decide +kernel
theorem dX9_item_1 : decode cX9_item 1 = .ok (.iconst 0, 1) := by decide +kernel
theorem dX9_item_2 : decode cX9_item 2 = .ok (.iconst 2, 1) := by decide +kernel
theorem dX9_item_3 : decode cX9_item 3 = .ok (.invokestatic 84, 3) := by decide +kernel
theorem dX9_item_6 : decode cX9_item 6 = .ok (.ifCond .eq 27, 3) := by decide +kernel
theorem dX9_item_9 : decode cX9_item 9 = .ok (.iload_n 2, 1) := by decide +kernel
theorem dX9_item_10 : decode cX9_item 10 = .ok (.iconst 0, 1) := by decide +kernel
theorem dX9_item_11 : decode cX9_item 11 = .ok (.iload_n 1, 1) := by decide +kernel
theorem dX9_item_12 : decode cX9_item 12 = .ok (.iconst 2, 1) := by decide +kernel
theorem dX9_item_13 : decode cX9_item 13 = .ok (.if_icmp .ne 7, 3) := by decide +kernel
theorem dX9_item_16 : decode cX9_item 16 = .ok (.iconst 0, 1) := by decide +kernel
theorem dX9_item_17 : decode cX9_item 17 = .ok (.goto 6, 3) := by decide +kernel
theorem dX9_item_20 : decode cX9_item 20 = .ok (.sipush 2000, 3) := by decide +kernel
theorem dX9_item_23 : decode cX9_item 23 = .ok (.invokestatic 84, 3) := by decide +kernel
theorem dX9_item_26 : decode cX9_item 26 = .ok (.ifCond .eq 7, 3) := by decide +kernel
theorem dX9_item_29 : decode cX9_item 29 = .ok (.iconst 1, 1) := by decide +kernel
theorem dX9_item_30 : decode cX9_item 30 = .ok (.goto 4, 3) := by decide +kernel
theorem dX9_item_33 : decode cX9_item 33 = .ok (.iconst 0, 1) := by decide +kernel
theorem dX9_item_34 : decode cX9_item 34 = .ok (.istore_n 3, 1) := by decide +kernel
theorem dX9_item_35 : decode cX9_item 35 = .ok (.aload_n 0, 1) := by decide +kernel
theorem dX9_item_36 : decode cX9_item 36 = .ok (.iload_n 3, 1) := by decide +kernel
theorem dX9_item_37 : decode cX9_item 37 = .ok (.ifCond .ne 7, 3) := by decide +kernel
theorem dX9_item_40 : decode cX9_item 40 = .ok (.iconst 1, 1) := by decide +kernel
theorem dX9_item_41 : decode cX9_item 41 = .ok (.goto 16, 3) := by decide +kernel
theorem dX9_item_44 : decode cX9_item 44 = .ok (.aload_n 0, 1) := by decide +kernel
theorem dX9_item_45 : decode cX9_item 45 = .ok (.iload_n 1, 1) := by decide +kernel
theorem dX9_item_46 : decode cX9_item 46 = .ok (.invokevirtual 88, 3) := by decide +kernel
theorem dX9_item_49 : decode cX9_item 49 = .ok (.ifCond .eq 7, 3) := by decide +kernel
theorem dX9_item_52 : decode cX9_item 52 = .ok (.iconst 0, 1) := by decide +kernel
theorem dX9_item_53 : decode cX9_item 53 = .ok (.goto 4, 3) := by decide +kernel
theorem dX9_item_56 : decode cX9_item 56 = .ok (.iconst 2, 1) := by decide +kernel
theorem dX9_item_57 : decode cX9_item 57 = .ok (.invokevirtual 92, 3) := by decide +kernel
theorem dX9_item_60 : decode cX9_item 60 = .ok (.ifCond .ne 5, 3) := by decide +kernel
theorem dX9_item_63 : decode cX9_item 63 = .ok (.iconst 0, 1) := by decide +kernel
theorem dX9_item_64 : decode cX9_item 64 = .ok (.ireturn, 1) := by decide +kernel
theorem dX9_item_65 : decode cX9_item 65 = .ok (.aload_n 0, 1) := by decide +kernel
theorem dX9_item_66 : decode cX9_item 66 = .ok (.getfield 7, 3) := by decide +kernel
theorem dX9_item_69 : decode cX9_item 69 = .ok (.aload_n 0, 1) := by decide +kernel
theorem dX9_item_70 : decode cX9_item 70 = .ok (.getfield 77, 3) := by decide +kernel
theorem dX9_item_73 : decode cX9_item 73 = .ok (.iload_n 1, 1) := by decide +kernel
theorem dX9_item_74 : decode cX9_item 74 = .ok (.iastore, 1) := by decide +kernel
theorem dX9_item_75 : decode cX9_item 75 = .ok (.aload_n 0, 1) := by decide +kernel
theorem dX9_item_76 : decode cX9_item 76 = .ok (.getfield 13, 3) := by decide +kernel
theorem dX9_item_79 : decode cX9_item 79 = .ok (.aload_n 0, 1) := by decide +kernel
theorem dX9_item_80 : decode cX9_item 80 = .ok (.getfield 77, 3) := by decide +kernel
theorem dX9_item_83 : decode cX9_item 83 = .ok (.iload_n 2, 1) := by decide +kernel
theorem dX9_item_84 : decode cX9_item 84 = .ok (.iastore, 1) := by decide +kernel
theorem dX9_item_85 : decode cX9_item 85 = .ok (.aload_n 0, 1) := by decide +kernel
theorem dX9_item_86 : decode cX9_item 86 = .ok (.dup, 1) := by decide +kernel
theorem dX9_item_87 : decode cX9_item 87 = .ok (.getfield 77, 3) := by decide +kernel
theorem dX9_item_90 : decode cX9_item 90 = .ok (.iconst 1, 1) := by decide +kernel
theorem dX9_item_91 : decode cX9_item 91 = .ok (.iadd, 1) := by decide +kernel
theorem dX9_item_92 : decode cX9_item 92 = .ok (.putfield 77, 3) := by decide +kernel
theorem dX9_item_95 : decode cX9_item 95 = .ok (.aload_n 0, 1) := by decide +kernel
theorem dX9_item_96 : decode cX9_item 96 = .ok (.getfield 77, 3) := by decide +kernel
theorem dX9_item_99 : decode cX9_item 99 = .ok (.iconst 1, 1) := by decide +kernel
theorem dX9_item_100 : decode cX9_item 100 = .ok (.isub, 1) := by decide +kernel
theorem dX9_item_101 : decode cX9_item 101 = .ok (.ireturn, 1) := by decide +kernel
theorem dX9_areOpenAhead_0 : decode cX9_areOpenAhead 0 = .ok (.iconst 1, 1) := by decide +kernel
theorem dX9_areOpenAhead_1 : decode cX9_areOpenAhead 1 = .ok (.istore_n 2, 1) := by decide +kernel
theorem dX9_areOpenAhead_2 : decode cX9_areOpenAhead 2 = .ok (.iconst 0, 1) := by decide +kernel
theorem dX9_areOpenAhead_3 : decode cX9_areOpenAhead 3 = .ok (.istore_n 3, 1) := by decide +kernel
theorem dX9_areOpenAhead_4 : decode cX9_areOpenAhead 4 = .ok (.iload_n 3, 1) := by decide +kernel
theorem dX9_areOpenAhead_5 : decode cX9_areOpenAhead 5 = .ok (.iload_n 1, 1) := by decide +kernel
theorem dX9_areOpenAhead_6 : decode cX9_areOpenAhead 6 = .ok (.if_icmp .ge 38, 3) := by decide +kernel
theorem dX9_areOpenAhead_9 : decode cX9_areOpenAhead 9 = .ok (.iload_n 2, 1) := by decide +kernel
theorem dX9_areOpenAhead_10 : decode cX9_areOpenAhead 10 = .ok (.ifCond .eq 26, 3) := by decide +kernel
theorem dX9_areOpenAhead_13 : decode cX9_areOpenAhead 13 = .ok (.aload_n 0, 1) := by decide +kernel
theorem dX9_areOpenAhead_14 : decode cX9_areOpenAhead 14 = .ok (.getfield 7, 3) := by decide +kernel
theorem dX9_areOpenAhead_17 : decode cX9_areOpenAhead 17 = .ok (.iload_n 3, 1) := by decide +kernel
theorem dX9_areOpenAhead_18 : decode cX9_areOpenAhead 18 = .ok (.iaload, 1) := by decide +kernel
theorem dX9_areOpenAhead_19 : decode cX9_areOpenAhead 19 = .ok (.ifCond .ne 13, 3) := by decide +kernel
theorem dX9_areOpenAhead_22 : decode cX9_areOpenAhead 22 = .ok (.aload_n 0, 1) := by decide +kernel
theorem dX9_areOpenAhead_23 : decode cX9_areOpenAhead 23 = .ok (.getfield 19, 3) := by decide +kernel
theorem dX9_areOpenAhead_26 : decode cX9_areOpenAhead 26 = .ok (.iload_n 3, 1) := by decide +kernel
theorem dX9_areOpenAhead_27 : decode cX9_areOpenAhead 27 = .ok (.iaload, 1) := by decide +kernel
theorem dX9_areOpenAhead_28 : decode cX9_areOpenAhead 28 = .ok (.iconst (-1), 1) := by decide +kernel
theorem dX9_areOpenAhead_29 : decode cX9_areOpenAhead 29 = .ok (.if_icmp .eq 7, 3) := by decide +kernel
theorem dX9_areOpenAhead_32 : decode cX9_areOpenAhead 32 = .ok (.iconst 1, 1) := by decide +kernel
theorem dX9_areOpenAhead_33 : decode cX9_areOpenAhead 33 = .ok (.goto 4, 3) := by decide +kernel
theorem dX9_areOpenAhead_36 : decode cX9_areOpenAhead 36 = .ok (.iconst 0, 1) := by decide +kernel
theorem dX9_areOpenAhead_37 : decode cX9_areOpenAhead 37 = .ok (.istore_n 2, 1) := by decide +kernel
theorem dX9_areOpenAhead_38 : decode cX9_areOpenAhead 38 = .ok (.iinc 3 1, 3) := by decide +kernel
theorem dX9_areOpenAhead_41 : decode cX9_areOpenAhead 41 = .ok (.goto (-37), 3) := by decide +kernel
theorem dX9_areOpenAhead_44 : decode cX9_areOpenAhead 44 = .ok (.iload_n 2, 1) := by decide +kernel
theorem dX9_areOpenAhead_45 : decode cX9_areOpenAhead 45 = .ok (.ireturn, 1) := by decide +kernel
theorem dX9_joins_0 : decode cX9_joins 0 = .ok (.aload_n 0, 1) := by decide +kernel
theorem dX9_joins_1 : decode cX9_joins 1 = .ok (.getfield 16, 3) := by decide +kernel
theorem dX9_joins_4 : decode cX9_joins 4 = .ok (.bipush 10, 2) := by decide +kernel
theorem dX9_joins_6 : decode cX9_joins 6 = .ok (.iload_n 1, 1) := by decide +kernel
theorem dX9_joins_7 : decode cX9_joins 7 = .ok (.imul, 1) := by decide +kernel
theorem dX9_joins_8 : decode cX9_joins 8 = .ok (.aload_n 0, 1) := by decide +kernel
theorem dX9_joins_9 : decode cX9_joins 9 = .ok (.getfield 19, 3) := by decide +kernel
theorem dX9_joins_12 : decode cX9_joins 12 = .ok (.iload_n 1, 1) := by decide +kernel
theorem dX9_joins_13 : decode cX9_joins 13 = .ok (.iaload, 1) := by decide +kernel
theorem dX9_joins_14 : decode cX9_joins 14 = .ok (.iadd, 1) := by decide +kernel
theorem dX9_joins_15 : decode cX9_joins 15 = .ok (.iload_n 2, 1) := by decide +kernel
theorem dX9_joins_16 : decode cX9_joins 16 = .ok (.iastore, 1) := by decide +kernel
theorem dX9_joins_17 : decode cX9_joins 17 = .ok (.aload_n 0, 1) := by decide +kernel
theorem dX9_joins_18 : decode cX9_joins 18 = .ok (.getfield 19, 3) := by decide +kernel
theorem dX9_joins_21 : decode cX9_joins 21 = .ok (.iload_n 1, 1) := by decide +kernel
theorem dX9_joins_22 : decode cX9_joins 22 = .ok (.dup2, 1) := by decide +kernel
theorem dX9_joins_23 : decode cX9_joins 23 = .ok (.iaload, 1) := by decide +kernel
theorem dX9_joins_24 : decode cX9_joins 24 = .ok (.iconst 1, 1) := by decide +kernel
theorem dX9_joins_25 : decode cX9_joins 25 = .ok (.iadd, 1) := by decide +kernel
theorem dX9_joins_26 : decode cX9_joins 26 = .ok (.iastore, 1) := by decide +kernel
theorem dX9_joins_27 : decode cX9_joins 27 = .ok (.return_, 1) := by decide +kernel
theorem dX9_open_0 : decode cX9_open 0 = .ok (.aload_n 0, 1) := by decide +kernel
theorem dX9_open_1 : decode cX9_open 1 = .ok (.iload_n 1, 1) := by decide +kernel
theorem dX9_open_2 : decode cX9_open 2 = .ok (.invokevirtual 95, 3) := by decide +kernel
theorem dX9_open_5 : decode cX9_open 5 = .ok (.istore_n 3, 1) := by decide +kernel
theorem dX9_open_6 : decode cX9_open 6 = .ok (.iload_n 3, 1) := by decide +kernel
theorem dX9_open_7 : decode cX9_open 7 = .ok (.ifCond .eq 25, 3) := by decide +kernel
theorem dX9_open_10 : decode cX9_open 10 = .ok (.iload_n 2, 1) := by decide +kernel
theorem dX9_open_11 : decode cX9_open 11 = .ok (.iconst 0, 1) := by decide +kernel
theorem dX9_open_12 : decode cX9_open 12 = .ok (.iconst 2, 1) := by decide +kernel
theorem dX9_open_13 : decode cX9_open 13 = .ok (.invokestatic 84, 3) := by decide +kernel
theorem dX9_open_16 : decode cX9_open 16 = .ok (.ifCond .eq 16, 3) := by decide +kernel
theorem dX9_open_19 : decode cX9_open 19 = .ok (.aload_n 0, 1) := by decide +kernel
theorem dX9_open_20 : decode cX9_open 20 = .ok (.getfield 7, 3) := by decide +kernel
theorem dX9_open_23 : decode cX9_open 23 = .ok (.iload_n 1, 1) := by decide +kernel
theorem dX9_open_24 : decode cX9_open 24 = .ok (.iaload, 1) := by decide +kernel
theorem dX9_open_25 : decode cX9_open 25 = .ok (.ifCond .ne 7, 3) := by decide +kernel
theorem dX9_open_28 : decode cX9_open 28 = .ok (.iconst 1, 1) := by decide +kernel
theorem dX9_open_29 : decode cX9_open 29 = .ok (.goto 4, 3) := by decide +kernel
theorem dX9_open_32 : decode cX9_open 32 = .ok (.iconst 0, 1) := by decide +kernel
theorem dX9_open_33 : decode cX9_open 33 = .ok (.istore 4, 2) := by decide +kernel
theorem dX9_open_35 : decode cX9_open 35 = .ok (.aload_n 0, 1) := by decide +kernel
theorem dX9_open_36 : decode cX9_open 36 = .ok (.iload_n 3, 1) := by decide +kernel
theorem dX9_open_37 : decode cX9_open 37 = .ok (.ifCond .ne 7, 3) := by decide +kernel
theorem dX9_open_40 : decode cX9_open 40 = .ok (.iconst 1, 1) := by decide +kernel
theorem dX9_open_41 : decode cX9_open 41 = .ok (.goto 35, 3) := by decide +kernel
theorem dX9_open_44 : decode cX9_open 44 = .ok (.iload 4, 2) := by decide +kernel
theorem dX9_open_46 : decode cX9_open 46 = .ok (.ifCond .ne 7, 3) := by decide +kernel
theorem dX9_open_49 : decode cX9_open 49 = .ok (.iconst 2, 1) := by decide +kernel
theorem dX9_open_50 : decode cX9_open 50 = .ok (.goto 26, 3) := by decide +kernel
theorem dX9_open_53 : decode cX9_open 53 = .ok (.aload_n 0, 1) := by decide +kernel
theorem dX9_open_54 : decode cX9_open 54 = .ok (.getfield 19, 3) := by decide +kernel
theorem dX9_open_57 : decode cX9_open 57 = .ok (.iload_n 1, 1) := by decide +kernel
theorem dX9_open_58 : decode cX9_open 58 = .ok (.iaload, 1) := by decide +kernel
theorem dX9_open_59 : decode cX9_open 59 = .ok (.iconst (-1), 1) := by decide +kernel
theorem dX9_open_60 : decode cX9_open 60 = .ok (.if_icmp .ne 11, 3) := by decide +kernel
theorem dX9_open_63 : decode cX9_open 63 = .ok (.aload_n 0, 1) := by decide +kernel
theorem dX9_open_64 : decode cX9_open 64 = .ok (.iload_n 1, 1) := by decide +kernel
theorem dX9_open_65 : decode cX9_open 65 = .ok (.invokevirtual 98, 3) := by decide +kernel
theorem dX9_open_68 : decode cX9_open 68 = .ok (.ifCond .ne 7, 3) := by decide +kernel
theorem dX9_open_71 : decode cX9_open 71 = .ok (.iconst 3, 1) := by decide +kernel
theorem dX9_open_72 : decode cX9_open 72 = .ok (.goto 4, 3) := by decide +kernel
theorem dX9_open_75 : decode cX9_open 75 = .ok (.iconst 0, 1) := by decide +kernel
theorem dX9_open_76 : decode cX9_open 76 = .ok (.invokevirtual 92, 3) := by decide +kernel
theorem dX9_open_79 : decode cX9_open 79 = .ok (.ifCond .ne 5, 3) := by decide +kernel
theorem dX9_open_82 : decode cX9_open 82 = .ok (.iconst 0, 1) := by decide +kernel
theorem dX9_open_83 : decode cX9_open 83 = .ok (.ireturn, 1) := by decide +kernel
theorem dX9_open_84 : decode cX9_open 84 = .ok (.aload_n 0, 1) := by decide +kernel
theorem dX9_open_85 : decode cX9_open 85 = .ok (.iload_n 1, 1) := by decide +kernel
theorem dX9_open_86 : decode cX9_open 86 = .ok (.ifCond .ne 7, 3) := by decide +kernel
theorem dX9_open_89 : decode cX9_open 89 = .ok (.iconst 1, 1) := by decide +kernel
theorem dX9_open_90 : decode cX9_open 90 = .ok (.goto 4, 3) := by decide +kernel
theorem dX9_open_93 : decode cX9_open 93 = .ok (.iconst 0, 1) := by decide +kernel
theorem dX9_open_94 : decode cX9_open 94 = .ok (.invokevirtual 101, 3) := by decide +kernel
theorem dX9_open_97 : decode cX9_open 97 = .ok (.aload_n 0, 1) := by decide +kernel
theorem dX9_open_98 : decode cX9_open 98 = .ok (.getfield 19, 3) := by decide +kernel
theorem dX9_open_101 : decode cX9_open 101 = .ok (.iload_n 1, 1) := by decide +kernel
theorem dX9_open_102 : decode cX9_open 102 = .ok (.iconst 0, 1) := by decide +kernel
theorem dX9_open_103 : decode cX9_open 103 = .ok (.iastore, 1) := by decide +kernel
theorem dX9_open_104 : decode cX9_open 104 = .ok (.iload_n 2, 1) := by decide +kernel
theorem dX9_open_105 : decode cX9_open 105 = .ok (.ifCond .ne 37, 3) := by decide +kernel
theorem dX9_open_108 : decode cX9_open 108 = .ok (.iconst 0, 1) := by decide +kernel
theorem dX9_open_109 : decode cX9_open 109 = .ok (.istore 5, 2) := by decide +kernel
theorem dX9_open_111 : decode cX9_open 111 = .ok (.iload 5, 2) := by decide +kernel
theorem dX9_open_113 : decode cX9_open 113 = .ok (.bipush 10, 2) := by decide +kernel
theorem dX9_open_115 : decode cX9_open 115 = .ok (.if_icmp .ge 27, 3) := by decide +kernel
theorem dX9_open_118 : decode cX9_open 118 = .ok (.aload_n 0, 1) := by decide +kernel
theorem dX9_open_119 : decode cX9_open 119 = .ok (.getfield 68, 3) := by decide +kernel
theorem dX9_open_122 : decode cX9_open 122 = .ok (.iload 5, 2) := by decide +kernel
theorem dX9_open_124 : decode cX9_open 124 = .ok (.iaload, 1) := by decide +kernel
theorem dX9_open_125 : decode cX9_open 125 = .ok (.iconst (-1), 1) := by decide +kernel
theorem dX9_open_126 : decode cX9_open 126 = .ok (.if_icmp .eq 10, 3) := by decide +kernel
theorem dX9_open_129 : decode cX9_open 129 = .ok (.aload_n 0, 1) := by decide +kernel
theorem dX9_open_130 : decode cX9_open 130 = .ok (.iload_n 1, 1) := by decide +kernel
theorem dX9_open_131 : decode cX9_open 131 = .ok (.iload 5, 2) := by decide +kernel
theorem dX9_open_133 : decode cX9_open 133 = .ok (.invokevirtual 105, 3) := by decide +kernel
theorem dX9_open_136 : decode cX9_open 136 = .ok (.iinc 5 1, 3) := by decide +kernel
theorem dX9_open_139 : decode cX9_open 139 = .ok (.goto (-28), 3) := by decide +kernel
theorem dX9_open_142 : decode cX9_open 142 = .ok (.iconst 0, 1) := by decide +kernel
theorem dX9_open_143 : decode cX9_open 143 = .ok (.istore 5, 2) := by decide +kernel
theorem dX9_open_145 : decode cX9_open 145 = .ok (.iload 5, 2) := by decide +kernel
theorem dX9_open_147 : decode cX9_open 147 = .ok (.bipush 10, 2) := by decide +kernel
theorem dX9_open_149 : decode cX9_open 149 = .ok (.if_icmp .ge 34, 3) := by decide +kernel
theorem dX9_open_152 : decode cX9_open 152 = .ok (.iload_n 2, 1) := by decide +kernel
theorem dX9_open_153 : decode cX9_open 153 = .ok (.ifCond .eq 30, 3) := by decide +kernel
theorem dX9_open_156 : decode cX9_open 156 = .ok (.aload_n 0, 1) := by decide +kernel
theorem dX9_open_157 : decode cX9_open 157 = .ok (.iload 5, 2) := by decide +kernel
theorem dX9_open_159 : decode cX9_open 159 = .ok (.invokevirtual 109, 3) := by decide +kernel
theorem dX9_open_162 : decode cX9_open 162 = .ok (.istore 6, 2) := by decide +kernel
theorem dX9_open_164 : decode cX9_open 164 = .ok (.iload 6, 2) := by decide +kernel
theorem dX9_open_166 : decode cX9_open 166 = .ok (.iconst (-1), 1) := by decide +kernel
theorem dX9_open_167 : decode cX9_open 167 = .ok (.if_icmp .eq 10, 3) := by decide +kernel
theorem dX9_open_170 : decode cX9_open 170 = .ok (.aload_n 0, 1) := by decide +kernel
theorem dX9_open_171 : decode cX9_open 171 = .ok (.iload_n 1, 1) := by decide +kernel
theorem dX9_open_172 : decode cX9_open 172 = .ok (.iload 6, 2) := by decide +kernel
theorem dX9_open_174 : decode cX9_open 174 = .ok (.invokevirtual 105, 3) := by decide +kernel
theorem dX9_open_177 : decode cX9_open 177 = .ok (.iinc 5 1, 3) := by decide +kernel
theorem dX9_open_180 : decode cX9_open 180 = .ok (.goto (-35), 3) := by decide +kernel
theorem dX9_open_183 : decode cX9_open 183 = .ok (.aload_n 0, 1) := by decide +kernel
theorem dX9_open_184 : decode cX9_open 184 = .ok (.getfield 19, 3) := by decide +kernel
theorem dX9_open_187 : decode cX9_open 187 = .ok (.iload_n 1, 1) := by decide +kernel
theorem dX9_open_188 : decode cX9_open 188 = .ok (.iaload, 1) := by decide +kernel
theorem dX9_open_189 : decode cX9_open 189 = .ok (.iconst 5, 1) := by decide +kernel
theorem dX9_open_190 : decode cX9_open 190 = .ok (.if_icmp .ge 12, 3) := by decide +kernel
theorem dX9_open_193 : decode cX9_open 193 = .ok (.aload_n 0, 1) := by decide +kernel
theorem dX9_open_194 : decode cX9_open 194 = .ok (.getfield 19, 3) := by decide +kernel
theorem dX9_open_197 : decode cX9_open 197 = .ok (.iload_n 1, 1) := by decide +kernel
theorem dX9_open_198 : decode cX9_open 198 = .ok (.iaload, 1) := by decide +kernel
theorem dX9_open_199 : decode cX9_open 199 = .ok (.goto 4, 3) := by decide +kernel
theorem dX9_open_202 : decode cX9_open 202 = .ok (.iconst 5, 1) := by decide +kernel
theorem dX9_open_203 : decode cX9_open 203 = .ok (.istore 5, 2) := by decide +kernel
theorem dX9_open_205 : decode cX9_open 205 = .ok (.iconst 0, 1) := by decide +kernel
theorem dX9_open_206 : decode cX9_open 206 = .ok (.istore 6, 2) := by decide +kernel
theorem dX9_open_208 : decode cX9_open 208 = .ok (.iload 6, 2) := by decide +kernel
theorem dX9_open_210 : decode cX9_open 210 = .ok (.iload 5, 2) := by decide +kernel
theorem dX9_open_212 : decode cX9_open 212 = .ok (.iconst 2, 1) := by decide +kernel
theorem dX9_open_213 : decode cX9_open 213 = .ok (.idiv, 1) := by decide +kernel
theorem dX9_open_214 : decode cX9_open 214 = .ok (.if_icmp .ge 76, 3) := by decide +kernel
theorem dX9_open_217 : decode cX9_open 217 = .ok (.iload_n 2, 1) := by decide +kernel
theorem dX9_open_218 : decode cX9_open 218 = .ok (.iconst 2, 1) := by decide +kernel
theorem dX9_open_219 : decode cX9_open 219 = .ok (.if_icmp .ne 71, 3) := by decide +kernel
theorem dX9_open_222 : decode cX9_open 222 = .ok (.aload_n 0, 1) := by decide +kernel
theorem dX9_open_223 : decode cX9_open 223 = .ok (.getfield 16, 3) := by decide +kernel
theorem dX9_open_226 : decode cX9_open 226 = .ok (.bipush 10, 2) := by decide +kernel
theorem dX9_open_228 : decode cX9_open 228 = .ok (.iload_n 1, 1) := by decide +kernel
theorem dX9_open_229 : decode cX9_open 229 = .ok (.imul, 1) := by decide +kernel
theorem dX9_open_230 : decode cX9_open 230 = .ok (.iload 6, 2) := by decide +kernel
theorem dX9_open_232 : decode cX9_open 232 = .ok (.iadd, 1) := by decide +kernel
theorem dX9_open_233 : decode cX9_open 233 = .ok (.iaload, 1) := by decide +kernel
theorem dX9_open_234 : decode cX9_open 234 = .ok (.istore 7, 2) := by decide +kernel
theorem dX9_open_236 : decode cX9_open 236 = .ok (.aload_n 0, 1) := by decide +kernel
theorem dX9_open_237 : decode cX9_open 237 = .ok (.getfield 16, 3) := by decide +kernel
theorem dX9_open_240 : decode cX9_open 240 = .ok (.bipush 10, 2) := by decide +kernel
theorem dX9_open_242 : decode cX9_open 242 = .ok (.iload_n 1, 1) := by decide +kernel
theorem dX9_open_243 : decode cX9_open 243 = .ok (.imul, 1) := by decide +kernel
theorem dX9_open_244 : decode cX9_open 244 = .ok (.iload 6, 2) := by decide +kernel
theorem dX9_open_246 : decode cX9_open 246 = .ok (.iadd, 1) := by decide +kernel
theorem dX9_open_247 : decode cX9_open 247 = .ok (.aload_n 0, 1) := by decide +kernel
theorem dX9_open_248 : decode cX9_open 248 = .ok (.getfield 16, 3) := by decide +kernel
theorem dX9_open_251 : decode cX9_open 251 = .ok (.bipush 10, 2) := by decide +kernel
theorem dX9_open_253 : decode cX9_open 253 = .ok (.iload_n 1, 1) := by decide +kernel
theorem dX9_open_254 : decode cX9_open 254 = .ok (.imul, 1) := by decide +kernel
theorem dX9_open_255 : decode cX9_open 255 = .ok (.iload 5, 2) := by decide +kernel
theorem dX9_open_257 : decode cX9_open 257 = .ok (.iadd, 1) := by decide +kernel
theorem dX9_open_258 : decode cX9_open 258 = .ok (.iconst 1, 1) := by decide +kernel
theorem dX9_open_259 : decode cX9_open 259 = .ok (.isub, 1) := by decide +kernel
theorem dX9_open_260 : decode cX9_open 260 = .ok (.iload 6, 2) := by decide +kernel
theorem dX9_open_262 : decode cX9_open 262 = .ok (.isub, 1) := by decide +kernel
theorem dX9_open_263 : decode cX9_open 263 = .ok (.iaload, 1) := by decide +kernel
theorem dX9_open_264 : decode cX9_open 264 = .ok (.iastore, 1) := by decide +kernel
theorem dX9_open_265 : decode cX9_open 265 = .ok (.aload_n 0, 1) := by decide +kernel
theorem dX9_open_266 : decode cX9_open 266 = .ok (.getfield 16, 3) := by decide +kernel
theorem dX9_open_269 : decode cX9_open 269 = .ok (.bipush 10, 2) := by decide +kernel
theorem dX9_open_271 : decode cX9_open 271 = .ok (.iload_n 1, 1) := by decide +kernel
theorem dX9_open_272 : decode cX9_open 272 = .ok (.imul, 1) := by decide +kernel
theorem dX9_open_273 : decode cX9_open 273 = .ok (.iload 5, 2) := by decide +kernel
theorem dX9_open_275 : decode cX9_open 275 = .ok (.iadd, 1) := by decide +kernel
theorem dX9_open_276 : decode cX9_open 276 = .ok (.iconst 1, 1) := by decide +kernel
theorem dX9_open_277 : decode cX9_open 277 = .ok (.isub, 1) := by decide +kernel
theorem dX9_open_278 : decode cX9_open 278 = .ok (.iload 6, 2) := by decide +kernel
theorem dX9_open_280 : decode cX9_open 280 = .ok (.isub, 1) := by decide +kernel
theorem dX9_open_281 : decode cX9_open 281 = .ok (.iload 7, 2) := by decide +kernel
theorem dX9_open_283 : decode cX9_open 283 = .ok (.iastore, 1) := by decide +kernel
theorem dX9_open_284 : decode cX9_open 284 = .ok (.iinc 6 1, 3) := by decide +kernel
theorem dX9_open_287 : decode cX9_open 287 = .ok (.goto (-79), 3) := by decide +kernel
theorem dX9_open_290 : decode cX9_open 290 = .ok (.iconst 0, 1) := by decide +kernel
theorem dX9_open_291 : decode cX9_open 291 = .ok (.istore 6, 2) := by decide +kernel
theorem dX9_open_293 : decode cX9_open 293 = .ok (.iload 6, 2) := by decide +kernel
theorem dX9_open_295 : decode cX9_open 295 = .ok (.bipush 10, 2) := by decide +kernel
theorem dX9_open_297 : decode cX9_open 297 = .ok (.if_icmp .ge 69, 3) := by decide +kernel
