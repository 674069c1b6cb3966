theorem dX9_open_300 : decode cX9_open 300 = .ok (.iload_n 1, 1) := by decide +kernel
theorem dX9_open_301 : decode cX9_open 301 = .ok (.ifCond .le 65, 3) := by decide +kernel
theorem dX9_open_304 : decode cX9_open 304 = .ok (.aload_n 0, 1) := by decide +kernel
theorem dX9_open_305 : decode cX9_open 305 = .ok (.getfield 50, 3) := by decide +kernel
theorem dX9_open_308 : decode cX9_open 308 = .ok (.iload 6, 2) := by decide +kernel
theorem dX9_open_310 : decode cX9_open 310 = .ok (.baload, 1) := by decide +kernel
theorem dX9_open_311 : decode cX9_open 311 = .ok (.ifCond .eq 49, 3) := by decide +kernel
theorem dX9_open_314 : decode cX9_open 314 = .ok (.aload_n 0, 1) := by decide +kernel
theorem dX9_open_315 : decode cX9_open 315 = .ok (.getfield 53, 3) := by decide +kernel
theorem dX9_open_318 : decode cX9_open 318 = .ok (.iload 6, 2) := by decide +kernel
theorem dX9_open_320 : decode cX9_open 320 = .ok (.baload, 1) := by decide +kernel
theorem dX9_open_321 : decode cX9_open 321 = .ok (.ifCond .eq 39, 3) := by decide +kernel
theorem dX9_open_324 : decode cX9_open 324 = .ok (.aload_n 0, 1) := by decide +kernel
theorem dX9_open_325 : decode cX9_open 325 = .ok (.getfield 47, 3) := by decide +kernel
theorem dX9_open_328 : decode cX9_open 328 = .ok (.iload 6, 2) := by decide +kernel
theorem dX9_open_330 : decode cX9_open 330 = .ok (.baload, 1) := by decide +kernel
theorem dX9_open_331 : decode cX9_open 331 = .ok (.ifCond .ne 29, 3) := by decide +kernel
theorem dX9_open_334 : decode cX9_open 334 = .ok (.aload_n 0, 1) := by decide +kernel
theorem dX9_open_335 : decode cX9_open 335 = .ok (.getfield 22, 3) := by decide +kernel
theorem dX9_open_338 : decode cX9_open 338 = .ok (.iload 6, 2) := by decide +kernel
theorem dX9_open_340 : decode cX9_open 340 = .ok (.iaload, 1) := by decide +kernel
theorem dX9_open_341 : decode cX9_open 341 = .ok (.iconst (-1), 1) := by decide +kernel
theorem dX9_open_342 : decode cX9_open 342 = .ok (.if_icmp .eq 18, 3) := by decide +kernel
theorem dX9_open_345 : decode cX9_open 345 = .ok (.aload_n 0, 1) := by decide +kernel
theorem dX9_open_346 : decode cX9_open 346 = .ok (.getfield 50, 3) := by decide +kernel
theorem dX9_open_349 : decode cX9_open 349 = .ok (.iload 6, 2) := by decide +kernel
theorem dX9_open_351 : decode cX9_open 351 = .ok (.iconst 0, 1) := by decide +kernel
theorem dX9_open_352 : decode cX9_open 352 = .ok (.bastore, 1) := by decide +kernel
theorem dX9_open_353 : decode cX9_open 353 = .ok (.aload_n 0, 1) := by decide +kernel
theorem dX9_open_354 : decode cX9_open 354 = .ok (.iload_n 1, 1) := by decide +kernel
theorem dX9_open_355 : decode cX9_open 355 = .ok (.iload 6, 2) := by decide +kernel
theorem dX9_open_357 : decode cX9_open 357 = .ok (.invokevirtual 105, 3) := by decide +kernel
theorem dX9_open_360 : decode cX9_open 360 = .ok (.iinc 6 1, 3) := by decide +kernel
theorem dX9_open_363 : decode cX9_open 363 = .ok (.goto (-70), 3) := by decide +kernel
theorem dX9_open_366 : decode cX9_open 366 = .ok (.aload_n 0, 1) := by decide +kernel
theorem dX9_open_367 : decode cX9_open 367 = .ok (.getfield 19, 3) := by decide +kernel
theorem dX9_open_370 : decode cX9_open 370 = .ok (.iload_n 1, 1) := by decide +kernel
theorem dX9_open_371 : decode cX9_open 371 = .ok (.iaload, 1) := by decide +kernel
theorem dX9_open_372 : decode cX9_open 372 = .ok (.ireturn, 1) := by decide +kernel
theorem dX9_starts_0 : decode cX9_starts 0 = .ok (.aload_n 0, 1) := by decide +kernel
theorem dX9_starts_1 : decode cX9_starts 1 = .ok (.iload_n 1, 1) := by decide +kernel
theorem dX9_starts_2 : decode cX9_starts 2 = .ok (.invokevirtual 95, 3) := by decide +kernel
theorem dX9_starts_5 : decode cX9_starts 5 = .ok (.istore_n 3, 1) := by decide +kernel
theorem dX9_starts_6 : decode cX9_starts 6 = .ok (.iload_n 3, 1) := by decide +kernel
theorem dX9_starts_7 : decode cX9_starts 7 = .ok (.ifCond .eq 26, 3) := by decide +kernel
theorem dX9_starts_10 : decode cX9_starts 10 = .ok (.iload_n 2, 1) := by decide +kernel
theorem dX9_starts_11 : decode cX9_starts 11 = .ok (.iconst 0, 1) := by decide +kernel
theorem dX9_starts_12 : decode cX9_starts 12 = .ok (.bipush 9, 2) := by decide +kernel
theorem dX9_starts_14 : decode cX9_starts 14 = .ok (.invokestatic 84, 3) := by decide +kernel
theorem dX9_starts_17 : decode cX9_starts 17 = .ok (.ifCond .eq 16, 3) := by decide +kernel
theorem dX9_starts_20 : decode cX9_starts 20 = .ok (.aload_n 0, 1) := by decide +kernel
theorem dX9_starts_21 : decode cX9_starts 21 = .ok (.getfield 7, 3) := by decide +kernel
theorem dX9_starts_24 : decode cX9_starts 24 = .ok (.iload_n 1, 1) := by decide +kernel
theorem dX9_starts_25 : decode cX9_starts 25 = .ok (.iaload, 1) := by decide +kernel
theorem dX9_starts_26 : decode cX9_starts 26 = .ok (.ifCond .ne 7, 3) := by decide +kernel
theorem dX9_starts_29 : decode cX9_starts 29 = .ok (.iconst 1, 1) := by decide +kernel
theorem dX9_starts_30 : decode cX9_starts 30 = .ok (.goto 4, 3) := by decide +kernel
theorem dX9_starts_33 : decode cX9_starts 33 = .ok (.iconst 0, 1) := by decide +kernel
theorem dX9_starts_34 : decode cX9_starts 34 = .ok (.istore 4, 2) := by decide +kernel
theorem dX9_starts_36 : decode cX9_starts 36 = .ok (.aload_n 0, 1) := by decide +kernel
theorem dX9_starts_37 : decode cX9_starts 37 = .ok (.iload_n 3, 1) := by decide +kernel
theorem dX9_starts_38 : decode cX9_starts 38 = .ok (.ifCond .ne 7, 3) := by decide +kernel
theorem dX9_starts_41 : decode cX9_starts 41 = .ok (.iconst 1, 1) := by decide +kernel
theorem dX9_starts_42 : decode cX9_starts 42 = .ok (.goto 13, 3) := by decide +kernel
theorem dX9_starts_45 : decode cX9_starts 45 = .ok (.iload 4, 2) := by decide +kernel
theorem dX9_starts_47 : decode cX9_starts 47 = .ok (.ifCond .eq 7, 3) := by decide +kernel
theorem dX9_starts_50 : decode cX9_starts 50 = .ok (.iconst 0, 1) := by decide +kernel
theorem dX9_starts_51 : decode cX9_starts 51 = .ok (.goto 4, 3) := by decide +kernel
theorem dX9_starts_54 : decode cX9_starts 54 = .ok (.iconst 2, 1) := by decide +kernel
theorem dX9_starts_55 : decode cX9_starts 55 = .ok (.invokevirtual 92, 3) := by decide +kernel
theorem dX9_starts_58 : decode cX9_starts 58 = .ok (.ifCond .ne 5, 3) := by decide +kernel
theorem dX9_starts_61 : decode cX9_starts 61 = .ok (.iconst 0, 1) := by decide +kernel
theorem dX9_starts_62 : decode cX9_starts 62 = .ok (.ireturn, 1) := by decide +kernel
theorem dX9_starts_63 : decode cX9_starts 63 = .ok (.iload_n 2, 1) := by decide +kernel
theorem dX9_starts_64 : decode cX9_starts 64 = .ok (.aload_n 0, 1) := by decide +kernel
theorem dX9_starts_65 : decode cX9_starts 65 = .ok (.getfield 19, 3) := by decide +kernel
theorem dX9_starts_68 : decode cX9_starts 68 = .ok (.iload_n 1, 1) := by decide +kernel
theorem dX9_starts_69 : decode cX9_starts 69 = .ok (.iaload, 1) := by decide +kernel
theorem dX9_starts_70 : decode cX9_starts 70 = .ok (.if_icmp .ge 17, 3) := by decide +kernel
theorem dX9_starts_73 : decode cX9_starts 73 = .ok (.aload_n 0, 1) := by decide +kernel
theorem dX9_starts_74 : decode cX9_starts 74 = .ok (.getfield 16, 3) := by decide +kernel
theorem dX9_starts_77 : decode cX9_starts 77 = .ok (.bipush 10, 2) := by decide +kernel
theorem dX9_starts_79 : decode cX9_starts 79 = .ok (.iload_n 1, 1) := by decide +kernel
theorem dX9_starts_80 : decode cX9_starts 80 = .ok (.imul, 1) := by decide +kernel
theorem dX9_starts_81 : decode cX9_starts 81 = .ok (.iload_n 2, 1) := by decide +kernel
theorem dX9_starts_82 : decode cX9_starts 82 = .ok (.iadd, 1) := by decide +kernel
theorem dX9_starts_83 : decode cX9_starts 83 = .ok (.iaload, 1) := by decide +kernel
theorem dX9_starts_84 : decode cX9_starts 84 = .ok (.goto 4, 3) := by decide +kernel
theorem dX9_starts_87 : decode cX9_starts 87 = .ok (.iconst (-1), 1) := by decide +kernel
theorem dX9_starts_88 : decode cX9_starts 88 = .ok (.ireturn, 1) := by decide +kernel
theorem dX9_ahead_0 : decode cX9_ahead 0 = .ok (.aload_n 0, 1) := by decide +kernel
theorem dX9_ahead_1 : decode cX9_ahead 1 = .ok (.getfield 7, 3) := by decide +kernel
theorem dX9_ahead_4 : decode cX9_ahead 4 = .ok (.iload_n 1, 1) := by decide +kernel
theorem dX9_ahead_5 : decode cX9_ahead 5 = .ok (.iconst 1, 1) := by decide +kernel
theorem dX9_ahead_6 : decode cX9_ahead 6 = .ok (.isub, 1) := by decide +kernel
theorem dX9_ahead_7 : decode cX9_ahead 7 = .ok (.iaload, 1) := by decide +kernel
theorem dX9_ahead_8 : decode cX9_ahead 8 = .ok (.iconst 2, 1) := by decide +kernel
theorem dX9_ahead_9 : decode cX9_ahead 9 = .ok (.if_icmp .ne 9, 3) := by decide +kernel
theorem dX9_ahead_12 : decode cX9_ahead 12 = .ok (.iload_n 1, 1) := by decide +kernel
theorem dX9_ahead_13 : decode cX9_ahead 13 = .ok (.iconst 2, 1) := by decide +kernel
theorem dX9_ahead_14 : decode cX9_ahead 14 = .ok (.isub, 1) := by decide +kernel
theorem dX9_ahead_15 : decode cX9_ahead 15 = .ok (.goto 6, 3) := by decide +kernel
theorem dX9_ahead_18 : decode cX9_ahead 18 = .ok (.iload_n 1, 1) := by decide +kernel
theorem dX9_ahead_19 : decode cX9_ahead 19 = .ok (.iconst 1, 1) := by decide +kernel
theorem dX9_ahead_20 : decode cX9_ahead 20 = .ok (.isub, 1) := by decide +kernel
theorem dX9_ahead_21 : decode cX9_ahead 21 = .ok (.ireturn, 1) := by decide +kernel
theorem dX9_legOf_0 : decode cX9_legOf 0 = .ok (.iload_n 1, 1) := by decide +kernel
theorem dX9_legOf_1 : decode cX9_legOf 1 = .ok (.istore_n 2, 1) := by decide +kernel
theorem dX9_legOf_2 : decode cX9_legOf 2 = .ok (.aload_n 0, 1) := by decide +kernel
theorem dX9_legOf_3 : decode cX9_legOf 3 = .ok (.getfield 7, 3) := by decide +kernel
theorem dX9_legOf_6 : decode cX9_legOf 6 = .ok (.iload_n 2, 1) := by decide +kernel
theorem dX9_legOf_7 : decode cX9_legOf 7 = .ok (.iaload, 1) := by decide +kernel
theorem dX9_legOf_8 : decode cX9_legOf 8 = .ok (.ifCond .eq 9, 3) := by decide +kernel
theorem dX9_legOf_11 : decode cX9_legOf 11 = .ok (.iinc 2 (-1), 3) := by decide +kernel
theorem dX9_legOf_14 : decode cX9_legOf 14 = .ok (.goto (-12), 3) := by decide +kernel
theorem dX9_legOf_17 : decode cX9_legOf 17 = .ok (.iload_n 2, 1) := by decide +kernel
theorem dX9_legOf_18 : decode cX9_legOf 18 = .ok (.ireturn, 1) := by decide +kernel
theorem dX9_placeIn_0 : decode cX9_placeIn 0 = .ok (.iconst (-1), 1) := by decide +kernel
theorem dX9_placeIn_1 : decode cX9_placeIn 1 = .ok (.istore_n 3, 1) := by decide +kernel
theorem dX9_placeIn_2 : decode cX9_placeIn 2 = .ok (.iconst 0, 1) := by decide +kernel
theorem dX9_placeIn_3 : decode cX9_placeIn 3 = .ok (.istore 4, 2) := by decide +kernel
theorem dX9_placeIn_5 : decode cX9_placeIn 5 = .ok (.iload 4, 2) := by decide +kernel
theorem dX9_placeIn_7 : decode cX9_placeIn 7 = .ok (.aload_n 0, 1) := by decide +kernel
theorem dX9_placeIn_8 : decode cX9_placeIn 8 = .ok (.getfield 19, 3) := by decide +kernel
theorem dX9_placeIn_11 : decode cX9_placeIn 11 = .ok (.iload_n 1, 1) := by decide +kernel
theorem dX9_placeIn_12 : decode cX9_placeIn 12 = .ok (.iaload, 1) := by decide +kernel
theorem dX9_placeIn_13 : decode cX9_placeIn 13 = .ok (.if_icmp .ge 32, 3) := by decide +kernel
theorem dX9_placeIn_16 : decode cX9_placeIn 16 = .ok (.aload_n 0, 1) := by decide +kernel
theorem dX9_placeIn_17 : decode cX9_placeIn 17 = .ok (.getfield 16, 3) := by decide +kernel
theorem dX9_placeIn_20 : decode cX9_placeIn 20 = .ok (.bipush 10, 2) := by decide +kernel
theorem dX9_placeIn_22 : decode cX9_placeIn 22 = .ok (.iload_n 1, 1) := by decide +kernel
theorem dX9_placeIn_23 : decode cX9_placeIn 23 = .ok (.imul, 1) := by decide +kernel
theorem dX9_placeIn_24 : decode cX9_placeIn 24 = .ok (.iload 4, 2) := by decide +kernel
theorem dX9_placeIn_26 : decode cX9_placeIn 26 = .ok (.iadd, 1) := by decide +kernel
theorem dX9_placeIn_27 : decode cX9_placeIn 27 = .ok (.iaload, 1) := by decide +kernel
theorem dX9_placeIn_28 : decode cX9_placeIn 28 = .ok (.iload_n 2, 1) := by decide +kernel
theorem dX9_placeIn_29 : decode cX9_placeIn 29 = .ok (.if_icmp .ne 8, 3) := by decide +kernel
theorem dX9_placeIn_32 : decode cX9_placeIn 32 = .ok (.iload 4, 2) := by decide +kernel
theorem dX9_placeIn_34 : decode cX9_placeIn 34 = .ok (.goto 4, 3) := by decide +kernel
theorem dX9_placeIn_37 : decode cX9_placeIn 37 = .ok (.iload_n 3, 1) := by decide +kernel
theorem dX9_placeIn_38 : decode cX9_placeIn 38 = .ok (.istore_n 3, 1) := by decide +kernel
theorem dX9_placeIn_39 : decode cX9_placeIn 39 = .ok (.iinc 4 1, 3) := by decide +kernel
theorem dX9_placeIn_42 : decode cX9_placeIn 42 = .ok (.goto (-37), 3) := by decide +kernel
theorem dX9_placeIn_45 : decode cX9_placeIn 45 = .ok (.iload_n 3, 1) := by decide +kernel
theorem dX9_placeIn_46 : decode cX9_placeIn 46 = .ok (.ireturn, 1) := by decide +kernel
theorem dX9_dueAt_0 : decode cX9_dueAt 0 = .ok (.aload_n 0, 1) := by decide +kernel
theorem dX9_dueAt_1 : decode cX9_dueAt 1 = .ok (.getfield 47, 3) := by decide +kernel
theorem dX9_dueAt_4 : decode cX9_dueAt 4 = .ok (.iload_n 1, 1) := by decide +kernel
theorem dX9_dueAt_5 : decode cX9_dueAt 5 = .ok (.baload, 1) := by decide +kernel
theorem dX9_dueAt_6 : decode cX9_dueAt 6 = .ok (.ifCond .ne 12, 3) := by decide +kernel
theorem dX9_dueAt_9 : decode cX9_dueAt 9 = .ok (.aload_n 0, 1) := by decide +kernel
theorem dX9_dueAt_10 : decode cX9_dueAt 10 = .ok (.getfield 50, 3) := by decide +kernel
theorem dX9_dueAt_13 : decode cX9_dueAt 13 = .ok (.iload_n 1, 1) := by decide +kernel
theorem dX9_dueAt_14 : decode cX9_dueAt 14 = .ok (.baload, 1) := by decide +kernel
theorem dX9_dueAt_15 : decode cX9_dueAt 15 = .ok (.ifCond .eq 5, 3) := by decide +kernel
theorem dX9_dueAt_18 : decode cX9_dueAt 18 = .ok (.iconst (-1), 1) := by decide +kernel
theorem dX9_dueAt_19 : decode cX9_dueAt 19 = .ok (.ireturn, 1) := by decide +kernel
theorem dX9_dueAt_20 : decode cX9_dueAt 20 = .ok (.aload_n 0, 1) := by decide +kernel
theorem dX9_dueAt_21 : decode cX9_dueAt 21 = .ok (.getfield 7, 3) := by decide +kernel
theorem dX9_dueAt_24 : decode cX9_dueAt 24 = .ok (.iload_n 2, 1) := by decide +kernel
theorem dX9_dueAt_25 : decode cX9_dueAt 25 = .ok (.iaload, 1) := by decide +kernel
theorem dX9_dueAt_26 : decode cX9_dueAt 26 = .ok (.ifCond .ne 30, 3) := by decide +kernel
theorem dX9_dueAt_29 : decode cX9_dueAt 29 = .ok (.aload_n 0, 1) := by decide +kernel
theorem dX9_dueAt_30 : decode cX9_dueAt 30 = .ok (.iload_n 2, 1) := by decide +kernel
theorem dX9_dueAt_31 : decode cX9_dueAt 31 = .ok (.iload_n 1, 1) := by decide +kernel
theorem dX9_dueAt_32 : decode cX9_dueAt 32 = .ok (.invokevirtual 113, 3) := by decide +kernel
theorem dX9_dueAt_35 : decode cX9_dueAt 35 = .ok (.istore_n 3, 1) := by decide +kernel
theorem dX9_dueAt_36 : decode cX9_dueAt 36 = .ok (.iload_n 3, 1) := by decide +kernel
theorem dX9_dueAt_37 : decode cX9_dueAt 37 = .ok (.iconst (-1), 1) := by decide +kernel
theorem dX9_dueAt_38 : decode cX9_dueAt 38 = .ok (.if_icmp .ne 7, 3) := by decide +kernel
theorem dX9_dueAt_41 : decode cX9_dueAt 41 = .ok (.iconst (-1), 1) := by decide +kernel
theorem dX9_dueAt_42 : decode cX9_dueAt 42 = .ok (.goto 13, 3) := by decide +kernel
theorem dX9_dueAt_45 : decode cX9_dueAt 45 = .ok (.aload_n 0, 1) := by decide +kernel
theorem dX9_dueAt_46 : decode cX9_dueAt 46 = .ok (.getfield 13, 3) := by decide +kernel
theorem dX9_dueAt_49 : decode cX9_dueAt 49 = .ok (.iload_n 2, 1) := by decide +kernel
theorem dX9_dueAt_50 : decode cX9_dueAt 50 = .ok (.iaload, 1) := by decide +kernel
theorem dX9_dueAt_51 : decode cX9_dueAt 51 = .ok (.iconst 2, 1) := by decide +kernel
theorem dX9_dueAt_52 : decode cX9_dueAt 52 = .ok (.iload_n 3, 1) := by decide +kernel
theorem dX9_dueAt_53 : decode cX9_dueAt 53 = .ok (.imul, 1) := by decide +kernel
theorem dX9_dueAt_54 : decode cX9_dueAt 54 = .ok (.iadd, 1) := by decide +kernel
theorem dX9_dueAt_55 : decode cX9_dueAt 55 = .ok (.ireturn, 1) := by decide +kernel
theorem dX9_dueAt_56 : decode cX9_dueAt 56 = .ok (.aload_n 0, 1) := by decide +kernel
theorem dX9_dueAt_57 : decode cX9_dueAt 57 = .ok (.iload_n 2, 1) := by decide +kernel
theorem dX9_dueAt_58 : decode cX9_dueAt 58 = .ok (.invokevirtual 117, 3) := by decide +kernel
theorem dX9_dueAt_61 : decode cX9_dueAt 61 = .ok (.istore_n 3, 1) := by decide +kernel
theorem dX9_dueAt_62 : decode cX9_dueAt 62 = .ok (.aload_n 0, 1) := by decide +kernel
theorem dX9_dueAt_63 : decode cX9_dueAt 63 = .ok (.getfield 22, 3) := by decide +kernel
theorem dX9_dueAt_66 : decode cX9_dueAt 66 = .ok (.bipush 10, 2) := by decide +kernel
theorem dX9_dueAt_68 : decode cX9_dueAt 68 = .ok (.iload_n 3, 1) := by decide +kernel
theorem dX9_dueAt_69 : decode cX9_dueAt 69 = .ok (.imul, 1) := by decide +kernel
theorem dX9_dueAt_70 : decode cX9_dueAt 70 = .ok (.iload_n 1, 1) := by decide +kernel
theorem dX9_dueAt_71 : decode cX9_dueAt 71 = .ok (.iadd, 1) := by decide +kernel
theorem dX9_dueAt_72 : decode cX9_dueAt 72 = .ok (.iaload, 1) := by decide +kernel
theorem dX9_dueAt_73 : decode cX9_dueAt 73 = .ok (.istore 4, 2) := by decide +kernel
theorem dX9_dueAt_75 : decode cX9_dueAt 75 = .ok (.iload 4, 2) := by decide +kernel
theorem dX9_dueAt_77 : decode cX9_dueAt 77 = .ok (.iconst (-1), 1) := by decide +kernel
theorem dX9_dueAt_78 : decode cX9_dueAt 78 = .ok (.if_icmp .ne 7, 3) := by decide +kernel
theorem dX9_dueAt_81 : decode cX9_dueAt 81 = .ok (.iconst (-1), 1) := by decide +kernel
theorem dX9_dueAt_82 : decode cX9_dueAt 82 = .ok (.goto 37, 3) := by decide +kernel
theorem dX9_dueAt_85 : decode cX9_dueAt 85 = .ok (.iload 4, 2) := by decide +kernel
theorem dX9_dueAt_87 : decode cX9_dueAt 87 = .ok (.iload_n 3, 1) := by decide +kernel
theorem dX9_dueAt_88 : decode cX9_dueAt 88 = .ok (.iload_n 2, 1) := by decide +kernel
theorem dX9_dueAt_89 : decode cX9_dueAt 89 = .ok (.iconst 2, 1) := by decide +kernel
theorem dX9_dueAt_90 : decode cX9_dueAt 90 = .ok (.isub, 1) := by decide +kernel
theorem dX9_dueAt_91 : decode cX9_dueAt 91 = .ok (.if_icmp .ne 7, 3) := by decide +kernel
theorem dX9_dueAt_94 : decode cX9_dueAt 94 = .ok (.iconst 3, 1) := by decide +kernel
theorem dX9_dueAt_95 : decode cX9_dueAt 95 = .ok (.goto 4, 3) := by decide +kernel
theorem dX9_dueAt_98 : decode cX9_dueAt 98 = .ok (.iconst 0, 1) := by decide +kernel
theorem dX9_dueAt_99 : decode cX9_dueAt 99 = .ok (.iadd, 1) := by decide +kernel
theorem dX9_dueAt_100 : decode cX9_dueAt 100 = .ok (.aload_n 0, 1) := by decide +kernel
theorem dX9_dueAt_101 : decode cX9_dueAt 101 = .ok (.getfield 13, 3) := by decide +kernel
theorem dX9_dueAt_104 : decode cX9_dueAt 104 = .ok (.iload_n 2, 1) := by decide +kernel
theorem dX9_dueAt_105 : decode cX9_dueAt 105 = .ok (.iaload, 1) := by decide +kernel
theorem dX9_dueAt_106 : decode cX9_dueAt 106 = .ok (.iadd, 1) := by decide +kernel
theorem dX9_dueAt_107 : decode cX9_dueAt 107 = .ok (.aload_n 0, 1) := by decide +kernel
theorem dX9_dueAt_108 : decode cX9_dueAt 108 = .ok (.getfield 25, 3) := by decide +kernel
theorem dX9_dueAt_111 : decode cX9_dueAt 111 = .ok (.bipush 10, 2) := by decide +kernel
theorem dX9_dueAt_113 : decode cX9_dueAt 113 = .ok (.iload_n 2, 1) := by decide +kernel
theorem dX9_dueAt_114 : decode cX9_dueAt 114 = .ok (.imul, 1) := by decide +kernel
theorem dX9_dueAt_115 : decode cX9_dueAt 115 = .ok (.iload_n 1, 1) := by decide +kernel
theorem dX9_dueAt_116 : decode cX9_dueAt 116 = .ok (.iadd, 1) := by decide +kernel
theorem dX9_dueAt_117 : decode cX9_dueAt 117 = .ok (.iaload, 1) := by decide +kernel
theorem dX9_dueAt_118 : decode cX9_dueAt 118 = .ok (.iadd, 1) := by decide +kernel
theorem dX9_dueAt_119 : decode cX9_dueAt 119 = .ok (.ireturn, 1) := by decide +kernel
theorem dX9_due_0 : decode cX9_due 0 = .ok (.iload_n 1, 1) := by decide +kernel
theorem dX9_due_1 : decode cX9_due 1 = .ok (.invokestatic 120, 3) := by decide +kernel
theorem dX9_due_4 : decode cX9_due 4 = .ok (.ifCond .eq 15, 3) := by decide +kernel
theorem dX9_due_7 : decode cX9_due 7 = .ok (.aload_n 0, 1) := by decide +kernel
theorem dX9_due_8 : decode cX9_due 8 = .ok (.iload_n 2, 1) := by decide +kernel
theorem dX9_due_9 : decode cX9_due 9 = .ok (.invokevirtual 95, 3) := by decide +kernel
theorem dX9_due_12 : decode cX9_due 12 = .ok (.ifCond .eq 7, 3) := by decide +kernel
theorem dX9_due_15 : decode cX9_due 15 = .ok (.iconst 1, 1) := by decide +kernel
theorem dX9_due_16 : decode cX9_due 16 = .ok (.goto 4, 3) := by decide +kernel
theorem dX9_due_19 : decode cX9_due 19 = .ok (.iconst 0, 1) := by decide +kernel
theorem dX9_due_20 : decode cX9_due 20 = .ok (.istore_n 3, 1) := by decide +kernel
theorem dX9_due_21 : decode cX9_due 21 = .ok (.aload_n 0, 1) := by decide +kernel
theorem dX9_due_22 : decode cX9_due 22 = .ok (.iload_n 3, 1) := by decide +kernel
theorem dX9_due_23 : decode cX9_due 23 = .ok (.ifCond .ne 7, 3) := by decide +kernel
theorem dX9_due_26 : decode cX9_due 26 = .ok (.iconst 1, 1) := by decide +kernel
theorem dX9_due_27 : decode cX9_due 27 = .ok (.goto 18, 3) := by decide +kernel
theorem dX9_due_30 : decode cX9_due 30 = .ok (.aload_n 0, 1) := by decide +kernel
theorem dX9_due_31 : decode cX9_due 31 = .ok (.getfield 7, 3) := by decide +kernel
theorem dX9_due_34 : decode cX9_due 34 = .ok (.iload_n 2, 1) := by decide +kernel
theorem dX9_due_35 : decode cX9_due 35 = .ok (.iaload, 1) := by decide +kernel
theorem dX9_due_36 : decode cX9_due 36 = .ok (.iconst 2, 1) := by decide +kernel
theorem dX9_due_37 : decode cX9_due 37 = .ok (.if_icmp .ne 7, 3) := by decide +kernel
theorem dX9_due_40 : decode cX9_due 40 = .ok (.iconst 2, 1) := by decide +kernel
theorem dX9_due_41 : decode cX9_due 41 = .ok (.goto 4, 3) := by decide +kernel
theorem dX9_due_44 : decode cX9_due 44 = .ok (.iconst 0, 1) := by decide +kernel
theorem dX9_due_45 : decode cX9_due 45 = .ok (.invokevirtual 92, 3) := by decide +kernel
theorem dX9_due_48 : decode cX9_due 48 = .ok (.ifCond .ne 5, 3) := by decide +kernel
theorem dX9_due_51 : decode cX9_due 51 = .ok (.iconst 0, 1) := by decide +kernel
theorem dX9_due_52 : decode cX9_due 52 = .ok (.ireturn, 1) := by decide +kernel
theorem dX9_due_53 : decode cX9_due 53 = .ok (.aload_n 0, 1) := by decide +kernel
theorem dX9_due_54 : decode cX9_due 54 = .ok (.iload_n 1, 1) := by decide +kernel
theorem dX9_due_55 : decode cX9_due 55 = .ok (.iload_n 2, 1) := by decide +kernel
theorem dX9_due_56 : decode cX9_due 56 = .ok (.invokevirtual 123, 3) := by decide +kernel
theorem dX9_due_59 : decode cX9_due 59 = .ok (.ireturn, 1) := by decide +kernel
theorem dX9_stamp_0 : decode cX9_stamp 0 = .ok (.iload_n 1, 1) := by decide +kernel
theorem dX9_stamp_1 : decode cX9_stamp 1 = .ok (.invokestatic 120, 3) := by decide +kernel
theorem dX9_stamp_4 : decode cX9_stamp 4 = .ok (.ifCond .eq 15, 3) := by decide +kernel
theorem dX9_stamp_7 : decode cX9_stamp 7 = .ok (.aload_n 0, 1) := by decide +kernel
theorem dX9_stamp_8 : decode cX9_stamp 8 = .ok (.iload_n 2, 1) := by decide +kernel
theorem dX9_stamp_9 : decode cX9_stamp 9 = .ok (.invokevirtual 95, 3) := by decide +kernel
theorem dX9_stamp_12 : decode cX9_stamp 12 = .ok (.ifCond .eq 7, 3) := by decide +kernel
theorem dX9_stamp_15 : decode cX9_stamp 15 = .ok (.iconst 1, 1) := by decide +kernel
theorem dX9_stamp_16 : decode cX9_stamp 16 = .ok (.goto 4, 3) := by decide +kernel
theorem dX9_stamp_19 : decode cX9_stamp 19 = .ok (.iconst 0, 1) := by decide +kernel
theorem dX9_stamp_20 : decode cX9_stamp 20 = .ok (.istore 4, 2) := by decide +kernel
theorem dX9_stamp_22 : decode cX9_stamp 22 = .ok (.iload 4, 2) := by decide +kernel
theorem dX9_stamp_24 : decode cX9_stamp 24 = .ok (.ifCond .eq 28, 3) := by decide +kernel
theorem dX9_stamp_27 : decode cX9_stamp 27 = .ok (.aload_n 0, 1) := by decide +kernel
theorem dX9_stamp_28 : decode cX9_stamp 28 = .ok (.getfield 7, 3) := by decide +kernel
theorem dX9_stamp_31 : decode cX9_stamp 31 = .ok (.iload_n 2, 1) := by decide +kernel
theorem dX9_stamp_32 : decode cX9_stamp 32 = .ok (.iaload, 1) := by decide +kernel
theorem dX9_stamp_33 : decode cX9_stamp 33 = .ok (.iconst 2, 1) := by decide +kernel
theorem dX9_stamp_34 : decode cX9_stamp 34 = .ok (.if_icmp .eq 18, 3) := by decide +kernel
theorem dX9_stamp_37 : decode cX9_stamp 37 = .ok (.iload_n 3, 1) := by decide +kernel
theorem dX9_stamp_38 : decode cX9_stamp 38 = .ok (.iconst 0, 1) := by decide +kernel
theorem dX9_stamp_39 : decode cX9_stamp 39 = .ok (.sipush 2000, 3) := by decide +kernel
theorem dX9_stamp_42 : decode cX9_stamp 42 = .ok (.invokestatic 84, 3) := by decide +kernel
theorem dX9_stamp_45 : decode cX9_stamp 45 = .ok (.ifCond .eq 7, 3) := by decide +kernel
theorem dX9_stamp_48 : decode cX9_stamp 48 = .ok (.iconst 1, 1) := by decide +kernel
theorem dX9_stamp_49 : decode cX9_stamp 49 = .ok (.goto 4, 3) := by decide +kernel
theorem dX9_stamp_52 : decode cX9_stamp 52 = .ok (.iconst 0, 1) := by decide +kernel
theorem dX9_stamp_53 : decode cX9_stamp 53 = .ok (.istore 5, 2) := by decide +kernel
theorem dX9_stamp_55 : decode cX9_stamp 55 = .ok (.iload 5, 2) := by decide +kernel
theorem dX9_stamp_57 : decode cX9_stamp 57 = .ok (.ifCond .eq 32, 3) := by decide +kernel
theorem dX9_stamp_60 : decode cX9_stamp 60 = .ok (.aload_n 0, 1) := by decide +kernel
theorem dX9_stamp_61 : decode cX9_stamp 61 = .ok (.iload_n 1, 1) := by decide +kernel
theorem dX9_stamp_62 : decode cX9_stamp 62 = .ok (.iload_n 2, 1) := by decide +kernel
theorem dX9_stamp_63 : decode cX9_stamp 63 = .ok (.invokevirtual 123, 3) := by decide +kernel
theorem dX9_stamp_66 : decode cX9_stamp 66 = .ok (.iconst (-1), 1) := by decide +kernel
theorem dX9_stamp_67 : decode cX9_stamp 67 = .ok (.if_icmp .eq 22, 3) := by decide +kernel
theorem dX9_stamp_70 : decode cX9_stamp 70 = .ok (.aload_n 0, 1) := by decide +kernel
theorem dX9_stamp_71 : decode cX9_stamp 71 = .ok (.getfield 22, 3) := by decide +kernel
theorem dX9_stamp_74 : decode cX9_stamp 74 = .ok (.bipush 10, 2) := by decide +kernel
theorem dX9_stamp_76 : decode cX9_stamp 76 = .ok (.iload_n 2, 1) := by decide +kernel
theorem dX9_stamp_77 : decode cX9_stamp 77 = .ok (.imul, 1) := by decide +kernel
theorem dX9_stamp_78 : decode cX9_stamp 78 = .ok (.iload_n 1, 1) := by decide +kernel
theorem dX9_stamp_79 : decode cX9_stamp 79 = .ok (.iadd, 1) := by decide +kernel
theorem dX9_stamp_80 : decode cX9_stamp 80 = .ok (.iaload, 1) := by decide +kernel
theorem dX9_stamp_81 : decode cX9_stamp 81 = .ok (.iconst (-1), 1) := by decide +kernel
theorem dX9_stamp_82 : decode cX9_stamp 82 = .ok (.if_icmp .ne 7, 3) := by decide +kernel
theorem dX9_stamp_85 : decode cX9_stamp 85 = .ok (.iconst 1, 1) := by decide +kernel
theorem dX9_stamp_86 : decode cX9_stamp 86 = .ok (.goto 4, 3) := by decide +kernel
theorem dX9_stamp_89 : decode cX9_stamp 89 = .ok (.iconst 0, 1) := by decide +kernel
theorem dX9_stamp_90 : decode cX9_stamp 90 = .ok (.istore 6, 2) := by decide +kernel
theorem dX9_stamp_92 : decode cX9_stamp 92 = .ok (.aload_n 0, 1) := by decide +kernel
theorem dX9_stamp_93 : decode cX9_stamp 93 = .ok (.iload 4, 2) := by decide +kernel
theorem dX9_stamp_95 : decode cX9_stamp 95 = .ok (.ifCond .ne 7, 3) := by decide +kernel
theorem dX9_stamp_98 : decode cX9_stamp 98 = .ok (.iconst 1, 1) := by decide +kernel
theorem dX9_stamp_99 : decode cX9_stamp 99 = .ok (.goto 22, 3) := by decide +kernel
theorem dX9_stamp_102 : decode cX9_stamp 102 = .ok (.iload 5, 2) := by decide +kernel
theorem dX9_stamp_104 : decode cX9_stamp 104 = .ok (.ifCond .ne 7, 3) := by decide +kernel
theorem dX9_stamp_107 : decode cX9_stamp 107 = .ok (.iconst 2, 1) := by decide +kernel
theorem dX9_stamp_108 : decode cX9_stamp 108 = .ok (.goto 13, 3) := by decide +kernel
theorem dX9_stamp_111 : decode cX9_stamp 111 = .ok (.iload 6, 2) := by decide +kernel
theorem dX9_stamp_113 : decode cX9_stamp 113 = .ok (.ifCond .eq 7, 3) := by decide +kernel
theorem dX9_stamp_116 : decode cX9_stamp 116 = .ok (.iconst 0, 1) := by decide +kernel
theorem dX9_stamp_117 : decode cX9_stamp 117 = .ok (.goto 4, 3) := by decide +kernel
theorem dX9_stamp_120 : decode cX9_stamp 120 = .ok (.iconst 3, 1) := by decide +kernel
theorem dX9_stamp_121 : decode cX9_stamp 121 = .ok (.invokevirtual 92, 3) := by decide +kernel
theorem dX9_stamp_124 : decode cX9_stamp 124 = .ok (.ifCond .ne 5, 3) := by decide +kernel
theorem dX9_stamp_127 : decode cX9_stamp 127 = .ok (.iconst 0, 1) := by decide +kernel
theorem dX9_stamp_128 : decode cX9_stamp 128 = .ok (.ireturn, 1) := by decide +kernel
theorem dX9_stamp_129 : decode cX9_stamp 129 = .ok (.iload_n 3, 1) := by decide +kernel
theorem dX9_stamp_130 : decode cX9_stamp 130 = .ok (.aload_n 0, 1) := by decide +kernel
theorem dX9_stamp_131 : decode cX9_stamp 131 = .ok (.iload_n 1, 1) := by decide +kernel
theorem dX9_stamp_132 : decode cX9_stamp 132 = .ok (.iload_n 2, 1) := by decide +kernel
theorem dX9_stamp_133 : decode cX9_stamp 133 = .ok (.invokevirtual 123, 3) := by decide +kernel
theorem dX9_stamp_136 : decode cX9_stamp 136 = .ok (.isub, 1) := by decide +kernel
theorem dX9_stamp_137 : decode cX9_stamp 137 = .ok (.istore 7, 2) := by decide +kernel
theorem dX9_stamp_139 : decode cX9_stamp 139 = .ok (.iload 7, 2) := by decide +kernel
theorem dX9_stamp_141 : decode cX9_stamp 141 = .ok (.ifCond .le 11, 3) := by decide +kernel
theorem dX9_stamp_144 : decode cX9_stamp 144 = .ok (.bipush 100, 2) := by decide +kernel
theorem dX9_stamp_146 : decode cX9_stamp 146 = .ok (.iload 7, 2) := by decide +kernel
theorem dX9_stamp_148 : decode cX9_stamp 148 = .ok (.imul, 1) := by decide +kernel
theorem dX9_stamp_149 : decode cX9_stamp 149 = .ok (.goto 9, 3) := by decide +kernel
theorem dX9_stamp_152 : decode cX9_stamp 152 = .ok (.sipush (-600), 3) := by decide +kernel
theorem dX9_stamp_155 : decode cX9_stamp 155 = .ok (.iload 7, 2) := by decide +kernel
theorem dX9_stamp_157 : decode cX9_stamp 157 = .ok (.imul, 1) := by decide +kernel
theorem dX9_stamp_158 : decode cX9_stamp 158 = .ok (.istore 8, 2) := by decide +kernel
theorem dX9_stamp_160 : decode cX9_stamp 160 = .ok (.aload_n 0, 1) := by decide +kernel
theorem dX9_stamp_161 : decode cX9_stamp 161 = .ok (.getfield 22, 3) := by decide +kernel
theorem dX9_stamp_164 : decode cX9_stamp 164 = .ok (.bipush 10, 2) := by decide +kernel
theorem dX9_stamp_166 : decode cX9_stamp 166 = .ok (.iload_n 2, 1) := by decide +kernel
theorem dX9_stamp_167 : decode cX9_stamp 167 = .ok (.imul, 1) := by decide +kernel
theorem dX9_stamp_168 : decode cX9_stamp 168 = .ok (.iload_n 1, 1) := by decide +kernel
theorem dX9_stamp_169 : decode cX9_stamp 169 = .ok (.iadd, 1) := by decide +kernel
theorem dX9_stamp_170 : decode cX9_stamp 170 = .ok (.iload_n 3, 1) := by decide +kernel
theorem dX9_stamp_171 : decode cX9_stamp 171 = .ok (.iastore, 1) := by decide +kernel
theorem dX9_stamp_172 : decode cX9_stamp 172 = .ok (.aload_n 0, 1) := by decide +kernel
theorem dX9_stamp_173 : decode cX9_stamp 173 = .ok (.getfield 41, 3) := by decide +kernel
theorem dX9_stamp_176 : decode cX9_stamp 176 = .ok (.iload_n 1, 1) := by decide +kernel
theorem dX9_stamp_177 : decode cX9_stamp 177 = .ok (.dup2, 1) := by decide +kernel
theorem dX9_stamp_178 : decode cX9_stamp 178 = .ok (.iaload, 1) := by decide +kernel
theorem dX9_stamp_179 : decode cX9_stamp 179 = .ok (.iload 8, 2) := by decide +kernel
theorem dX9_stamp_181 : decode cX9_stamp 181 = .ok (.iadd, 1) := by decide +kernel
theorem dX9_stamp_182 : decode cX9_stamp 182 = .ok (.iastore, 1) := by decide +kernel
theorem dX9_stamp_183 : decode cX9_stamp 183 = .ok (.aload_n 0, 1) := by decide +kernel
theorem dX9_stamp_184 : decode cX9_stamp 184 = .ok (.getfield 44, 3) := by decide +kernel
theorem dX9_stamp_187 : decode cX9_stamp 187 = .ok (.iload_n 1, 1) := by decide +kernel
theorem dX9_stamp_188 : decode cX9_stamp 188 = .ok (.dup2, 1) := by decide +kernel
theorem dX9_stamp_189 : decode cX9_stamp 189 = .ok (.iaload, 1) := by decide +kernel
theorem dX9_stamp_190 : decode cX9_stamp 190 = .ok (.iload 7, 2) := by decide +kernel
theorem dX9_stamp_192 : decode cX9_stamp 192 = .ok (.ifCond .le 8, 3) := by decide +kernel
theorem dX9_stamp_195 : decode cX9_stamp 195 = .ok (.iload 7, 2) := by decide +kernel
theorem dX9_stamp_197 : decode cX9_stamp 197 = .ok (.goto 4, 3) := by decide +kernel
theorem dX9_stamp_200 : decode cX9_stamp 200 = .ok (.iconst 0, 1) := by decide +kernel
theorem dX9_stamp_201 : decode cX9_stamp 201 = .ok (.iadd, 1) := by decide +kernel
theorem dX9_stamp_202 : decode cX9_stamp 202 = .ok (.iastore, 1) := by decide +kernel
theorem dX9_stamp_203 : decode cX9_stamp 203 = .ok (.aload_n 0, 1) := by decide +kernel
theorem dX9_stamp_204 : decode cX9_stamp 204 = .ok (.getfield 47, 3) := by decide +kernel
theorem dX9_stamp_207 : decode cX9_stamp 207 = .ok (.iload_n 1, 1) := by decide +kernel
theorem dX9_stamp_208 : decode cX9_stamp 208 = .ok (.aload_n 0, 1) := by decide +kernel
theorem dX9_stamp_209 : decode cX9_stamp 209 = .ok (.getfield 47, 3) := by decide +kernel
theorem dX9_stamp_212 : decode cX9_stamp 212 = .ok (.iload_n 1, 1) := by decide +kernel
theorem dX9_stamp_213 : decode cX9_stamp 213 = .ok (.baload, 1) := by decide +kernel
theorem dX9_stamp_214 : decode cX9_stamp 214 = .ok (.ifCond .ne 14, 3) := by decide +kernel
theorem dX9_stamp_217 : decode cX9_stamp 217 = .ok (.aload_n 0, 1) := by decide +kernel
theorem dX9_stamp_218 : decode cX9_stamp 218 = .ok (.getfield 44, 3) := by decide +kernel
theorem dX9_stamp_221 : decode cX9_stamp 221 = .ok (.iload_n 1, 1) := by decide +kernel
theorem dX9_stamp_222 : decode cX9_stamp 222 = .ok (.iaload, 1) := by decide +kernel
theorem dX9_stamp_223 : decode cX9_stamp 223 = .ok (.bipush 30, 2) := by decide +kernel
theorem dX9_stamp_225 : decode cX9_stamp 225 = .ok (.if_icmp .le 7, 3) := by decide +kernel
theorem dX9_stamp_228 : decode cX9_stamp 228 = .ok (.iconst 1, 1) := by decide +kernel
theorem dX9_stamp_229 : decode cX9_stamp 229 = .ok (.goto 4, 3) := by decide +kernel
theorem dX9_stamp_232 : decode cX9_stamp 232 = .ok (.iconst 0, 1) := by decide +kernel
theorem dX9_stamp_233 : decode cX9_stamp 233 = .ok (.bastore, 1) := by decide +kernel
theorem dX9_stamp_234 : decode cX9_stamp 234 = .ok (.iload 8, 2) := by decide +kernel
theorem dX9_stamp_236 : decode cX9_stamp 236 = .ok (.ireturn, 1) := by decide +kernel
theorem dX9_delay_0 : decode cX9_delay 0 = .ok (.iload_n 2, 1) := by decide +kernel
theorem dX9_delay_1 : decode cX9_delay 1 = .ok (.invokestatic 120, 3) := by decide +kernel
theorem dX9_delay_4 : decode cX9_delay 4 = .ok (.ifCond .eq 15, 3) := by decide +kernel
theorem dX9_delay_7 : decode cX9_delay 7 = .ok (.aload_n 0, 1) := by decide +kernel
theorem dX9_delay_8 : decode cX9_delay 8 = .ok (.iload_n 1, 1) := by decide +kernel
theorem dX9_delay_9 : decode cX9_delay 9 = .ok (.invokevirtual 95, 3) := by decide +kernel
theorem dX9_delay_12 : decode cX9_delay 12 = .ok (.ifCond .eq 7, 3) := by decide +kernel
theorem dX9_delay_15 : decode cX9_delay 15 = .ok (.iconst 1, 1) := by decide +kernel
theorem dX9_delay_16 : decode cX9_delay 16 = .ok (.goto 4, 3) := by decide +kernel
theorem dX9_delay_19 : decode cX9_delay 19 = .ok (.iconst 0, 1) := by decide +kernel
theorem dX9_delay_20 : decode cX9_delay 20 = .ok (.istore 4, 2) := by decide +kernel
theorem dX9_delay_22 : decode cX9_delay 22 = .ok (.iload 4, 2) := by decide +kernel
theorem dX9_delay_24 : decode cX9_delay 24 = .ok (.ifCond .eq 27, 3) := by decide +kernel
theorem dX9_delay_27 : decode cX9_delay 27 = .ok (.aload_n 0, 1) := by decide +kernel
theorem dX9_delay_28 : decode cX9_delay 28 = .ok (.getfield 7, 3) := by decide +kernel
theorem dX9_delay_31 : decode cX9_delay 31 = .ok (.iload_n 1, 1) := by decide +kernel
theorem dX9_delay_32 : decode cX9_delay 32 = .ok (.iaload, 1) := by decide +kernel
theorem dX9_delay_33 : decode cX9_delay 33 = .ok (.iconst 1, 1) := by decide +kernel
theorem dX9_delay_34 : decode cX9_delay 34 = .ok (.if_icmp .ne 17, 3) := by decide +kernel
theorem dX9_delay_37 : decode cX9_delay 37 = .ok (.iload_n 3, 1) := by decide +kernel
theorem dX9_delay_38 : decode cX9_delay 38 = .ok (.iconst 1, 1) := by decide +kernel
theorem dX9_delay_39 : decode cX9_delay 39 = .ok (.bipush 60, 2) := by decide +kernel
theorem dX9_delay_41 : decode cX9_delay 41 = .ok (.invokestatic 84, 3) := by decide +kernel
theorem dX9_delay_44 : decode cX9_delay 44 = .ok (.ifCond .eq 7, 3) := by decide +kernel
theorem dX9_delay_47 : decode cX9_delay 47 = .ok (.iconst 1, 1) := by decide +kernel
theorem dX9_delay_48 : decode cX9_delay 48 = .ok (.goto 4, 3) := by decide +kernel
theorem dX9_delay_51 : decode cX9_delay 51 = .ok (.iconst 0, 1) := by decide +kernel
theorem dX9_delay_52 : decode cX9_delay 52 = .ok (.istore 5, 2) := by decide +kernel
theorem dX9_delay_54 : decode cX9_delay 54 = .ok (.iload 5, 2) := by decide +kernel
theorem dX9_delay_56 : decode cX9_delay 56 = .ok (.ifCond .eq 16, 3) := by decide +kernel
theorem dX9_delay_59 : decode cX9_delay 59 = .ok (.aload_n 0, 1) := by decide +kernel
theorem dX9_delay_60 : decode cX9_delay 60 = .ok (.aload_n 0, 1) := by decide +kernel
theorem dX9_delay_61 : decode cX9_delay 61 = .ok (.iload_n 1, 1) := by decide +kernel
theorem dX9_delay_62 : decode cX9_delay 62 = .ok (.invokevirtual 126, 3) := by decide +kernel
theorem dX9_delay_65 : decode cX9_delay 65 = .ok (.iload_n 2, 1) := by decide +kernel
theorem dX9_delay_66 : decode cX9_delay 66 = .ok (.invokevirtual 113, 3) := by decide +kernel
theorem dX9_delay_69 : decode cX9_delay 69 = .ok (.goto 4, 3) := by decide +kernel
theorem dX9_delay_72 : decode cX9_delay 72 = .ok (.iconst (-1), 1) := by decide +kernel
theorem dX9_delay_73 : decode cX9_delay 73 = .ok (.istore 6, 2) := by decide +kernel
theorem dX9_delay_75 : decode cX9_delay 75 = .ok (.aload_n 0, 1) := by decide +kernel
theorem dX9_delay_76 : decode cX9_delay 76 = .ok (.iload 4, 2) := by decide +kernel
theorem dX9_delay_78 : decode cX9_delay 78 = .ok (.ifCond .ne 7, 3) := by decide +kernel
theorem dX9_delay_81 : decode cX9_delay 81 = .ok (.iconst 1, 1) := by decide +kernel
theorem dX9_delay_82 : decode cX9_delay 82 = .ok (.goto 23, 3) := by decide +kernel
theorem dX9_delay_85 : decode cX9_delay 85 = .ok (.iload 5, 2) := by decide +kernel
theorem dX9_delay_87 : decode cX9_delay 87 = .ok (.ifCond .ne 7, 3) := by decide +kernel
theorem dX9_delay_90 : decode cX9_delay 90 = .ok (.iconst 2, 1) := by decide +kernel
theorem dX9_delay_91 : decode cX9_delay 91 = .ok (.goto 14, 3) := by decide +kernel
theorem dX9_delay_94 : decode cX9_delay 94 = .ok (.iload 6, 2) := by decide +kernel
theorem dX9_delay_96 : decode cX9_delay 96 = .ok (.iconst (-1), 1) := by decide +kernel
theorem dX9_delay_97 : decode cX9_delay 97 = .ok (.if_icmp .ne 7, 3) := by decide +kernel
theorem dX9_delay_100 : decode cX9_delay 100 = .ok (.iconst 3, 1) := by decide +kernel
theorem dX9_delay_101 : decode cX9_delay 101 = .ok (.goto 4, 3) := by decide +kernel
theorem dX9_delay_104 : decode cX9_delay 104 = .ok (.iconst 0, 1) := by decide +kernel
theorem dX9_delay_105 : decode cX9_delay 105 = .ok (.invokevirtual 92, 3) := by decide +kernel
theorem dX9_delay_108 : decode cX9_delay 108 = .ok (.ifCond .ne 5, 3) := by decide +kernel
theorem dX9_delay_111 : decode cX9_delay 111 = .ok (.iconst 0, 1) := by decide +kernel
theorem dX9_delay_112 : decode cX9_delay 112 = .ok (.ireturn, 1) := by decide +kernel
theorem dX9_delay_113 : decode cX9_delay 113 = .ok (.iconst 0, 1) := by decide +kernel
theorem dX9_delay_114 : decode cX9_delay 114 = .ok (.istore 7, 2) := by decide +kernel
theorem dX9_delay_116 : decode cX9_delay 116 = .ok (.iload 6, 2) := by decide +kernel
theorem dX9_delay_118 : decode cX9_delay 118 = .ok (.istore 8, 2) := by decide +kernel
theorem dX9_delay_120 : decode cX9_delay 120 = .ok (.iload 8, 2) := by decide +kernel
theorem dX9_delay_122 : decode cX9_delay 122 = .ok (.aload_n 0, 1) := by decide +kernel
theorem dX9_delay_123 : decode cX9_delay 123 = .ok (.getfield 19, 3) := by decide +kernel
theorem dX9_delay_126 : decode cX9_delay 126 = .ok (.aload_n 0, 1) := by decide +kernel
theorem dX9_delay_127 : decode cX9_delay 127 = .ok (.iload_n 1, 1) := by decide +kernel
theorem dX9_delay_128 : decode cX9_delay 128 = .ok (.invokevirtual 126, 3) := by decide +kernel
theorem dX9_delay_131 : decode cX9_delay 131 = .ok (.iaload, 1) := by decide +kernel
theorem dX9_delay_132 : decode cX9_delay 132 = .ok (.if_icmp .ge 79, 3) := by decide +kernel
theorem dX9_delay_135 : decode cX9_delay 135 = .ok (.bipush 10, 2) := by decide +kernel
theorem dX9_delay_137 : decode cX9_delay 137 = .ok (.iload_n 1, 1) := by decide +kernel
theorem dX9_delay_138 : decode cX9_delay 138 = .ok (.imul, 1) := by decide +kernel
theorem dX9_delay_139 : decode cX9_delay 139 = .ok (.aload_n 0, 1) := by decide +kernel
theorem dX9_delay_140 : decode cX9_delay 140 = .ok (.getfield 16, 3) := by decide +kernel
theorem dX9_delay_143 : decode cX9_delay 143 = .ok (.bipush 10, 2) := by decide +kernel
theorem dX9_delay_145 : decode cX9_delay 145 = .ok (.aload_n 0, 1) := by decide +kernel
theorem dX9_delay_146 : decode cX9_delay 146 = .ok (.iload_n 1, 1) := by decide +kernel
theorem dX9_delay_147 : decode cX9_delay 147 = .ok (.invokevirtual 126, 3) := by decide +kernel
theorem dX9_delay_150 : decode cX9_delay 150 = .ok (.imul, 1) := by decide +kernel
theorem dX9_delay_151 : decode cX9_delay 151 = .ok (.iload 8, 2) := by decide +kernel
theorem dX9_delay_153 : decode cX9_delay 153 = .ok (.iadd, 1) := by decide +kernel
theorem dX9_delay_154 : decode cX9_delay 154 = .ok (.iaload, 1) := by decide +kernel
theorem dX9_delay_155 : decode cX9_delay 155 = .ok (.iadd, 1) := by decide +kernel
theorem dX9_delay_156 : decode cX9_delay 156 = .ok (.istore 9, 2) := by decide +kernel
theorem dX9_delay_158 : decode cX9_delay 158 = .ok (.aload_n 0, 1) := by decide +kernel
theorem dX9_delay_159 : decode cX9_delay 159 = .ok (.getfield 25, 3) := by decide +kernel
theorem dX9_delay_162 : decode cX9_delay 162 = .ok (.iload 9, 2) := by decide +kernel
theorem dX9_delay_164 : decode cX9_delay 164 = .ok (.dup2, 1) := by decide +kernel
theorem dX9_delay_165 : decode cX9_delay 165 = .ok (.iaload, 1) := by decide +kernel
theorem dX9_delay_166 : decode cX9_delay 166 = .ok (.aload_n 0, 1) := by decide +kernel
theorem dX9_delay_167 : decode cX9_delay 167 = .ok (.getfield 22, 3) := by decide +kernel
theorem dX9_delay_170 : decode cX9_delay 170 = .ok (.iload 9, 2) := by decide +kernel
theorem dX9_delay_172 : decode cX9_delay 172 = .ok (.iaload, 1) := by decide +kernel
theorem dX9_delay_173 : decode cX9_delay 173 = .ok (.iconst (-1), 1) := by decide +kernel
theorem dX9_delay_174 : decode cX9_delay 174 = .ok (.if_icmp .ne 7, 3) := by decide +kernel
theorem dX9_delay_177 : decode cX9_delay 177 = .ok (.iload_n 3, 1) := by decide +kernel
theorem dX9_delay_178 : decode cX9_delay 178 = .ok (.goto 4, 3) := by decide +kernel
theorem dX9_delay_181 : decode cX9_delay 181 = .ok (.iconst 0, 1) := by decide +kernel
theorem dX9_delay_182 : decode cX9_delay 182 = .ok (.iadd, 1) := by decide +kernel
theorem dX9_delay_183 : decode cX9_delay 183 = .ok (.iastore, 1) := by decide +kernel
theorem dX9_delay_184 : decode cX9_delay 184 = .ok (.iload 7, 2) := by decide +kernel
theorem dX9_delay_186 : decode cX9_delay 186 = .ok (.aload_n 0, 1) := by decide +kernel
theorem dX9_delay_187 : decode cX9_delay 187 = .ok (.getfield 22, 3) := by decide +kernel
theorem dX9_delay_190 : decode cX9_delay 190 = .ok (.iload 9, 2) := by decide +kernel
theorem dX9_delay_192 : decode cX9_delay 192 = .ok (.iaload, 1) := by decide +kernel
theorem dX9_delay_193 : decode cX9_delay 193 = .ok (.iconst (-1), 1) := by decide +kernel
theorem dX9_delay_194 : decode cX9_delay 194 = .ok (.if_icmp .ne 7, 3) := by decide +kernel
theorem dX9_delay_197 : decode cX9_delay 197 = .ok (.iconst 1, 1) := by decide +kernel
theorem dX9_delay_198 : decode cX9_delay 198 = .ok (.goto 4, 3) := by decide +kernel
theorem dX9_delay_201 : decode cX9_delay 201 = .ok (.iconst 0, 1) := by decide +kernel
theorem dX9_delay_202 : decode cX9_delay 202 = .ok (.iadd, 1) := by decide +kernel
theorem dX9_delay_203 : decode cX9_delay 203 = .ok (.istore 7, 2) := by decide +kernel
theorem dX9_delay_205 : decode cX9_delay 205 = .ok (.iinc 8 1, 3) := by decide +kernel
theorem dX9_delay_208 : decode cX9_delay 208 = .ok (.goto (-88), 3) := by decide +kernel
theorem dX9_delay_211 : decode cX9_delay 211 = .ok (.iload 7, 2) := by decide +kernel
theorem dX9_delay_213 : decode cX9_delay 213 = .ok (.ireturn, 1) := by decide +kernel
theorem dX9_startOf_0 : decode cX9_startOf 0 = .ok (.aload_n 0, 1) := by decide +kernel
theorem dX9_startOf_1 : decode cX9_startOf 1 = .ok (.getfield 22, 3) := by decide +kernel
theorem dX9_startOf_4 : decode cX9_startOf 4 = .ok (.bipush 10, 2) := by decide +kernel
theorem dX9_startOf_6 : decode cX9_startOf 6 = .ok (.iload_n 2, 1) := by decide +kernel
theorem dX9_startOf_7 : decode cX9_startOf 7 = .ok (.iconst 1, 1) := by decide +kernel
theorem dX9_startOf_8 : decode cX9_startOf 8 = .ok (.isub, 1) := by decide +kernel
theorem dX9_startOf_9 : decode cX9_startOf 9 = .ok (.imul, 1) := by decide +kernel
theorem dX9_startOf_10 : decode cX9_startOf 10 = .ok (.iload_n 1, 1) := by decide +kernel
theorem dX9_startOf_11 : decode cX9_startOf 11 = .ok (.iadd, 1) := by decide +kernel
theorem dX9_startOf_12 : decode cX9_startOf 12 = .ok (.iaload, 1) := by decide +kernel
theorem dX9_startOf_13 : decode cX9_startOf 13 = .ok (.istore_n 3, 1) := by decide +kernel
theorem dX9_startOf_14 : decode cX9_startOf 14 = .ok (.iload_n 3, 1) := by decide +kernel
theorem dX9_startOf_15 : decode cX9_startOf 15 = .ok (.iconst (-1), 1) := by decide +kernel
theorem dX9_startOf_16 : decode cX9_startOf 16 = .ok (.if_icmp .ne 7, 3) := by decide +kernel
theorem dX9_startOf_19 : decode cX9_startOf 19 = .ok (.iconst (-1), 1) := by decide +kernel
theorem dX9_startOf_20 : decode cX9_startOf 20 = .ok (.goto 10, 3) := by decide +kernel
theorem dX9_startOf_23 : decode cX9_startOf 23 = .ok (.sipush 600, 3) := by decide +kernel
theorem dX9_startOf_26 : decode cX9_startOf 26 = .ok (.iload_n 3, 1) := by decide +kernel
theorem dX9_startOf_27 : decode cX9_startOf 27 = .ok (.iconst 3, 1) := by decide +kernel
theorem dX9_startOf_28 : decode cX9_startOf 28 = .ok (.iadd, 1) := by decide +kernel
theorem dX9_startOf_29 : decode cX9_startOf 29 = .ok (.imul, 1) := by decide +kernel
theorem dX9_startOf_30 : decode cX9_startOf 30 = .ok (.ireturn, 1) := by decide +kernel
theorem dX9_floor_0 : decode cX9_floor 0 = .ok (.iload_n 0, 1) := by decide +kernel
theorem dX9_floor_1 : decode cX9_floor 1 = .ok (.ifCond .lt 9, 3) := by decide +kernel
theorem dX9_floor_4 : decode cX9_floor 4 = .ok (.iload_n 0, 1) := by decide +kernel
theorem dX9_floor_5 : decode cX9_floor 5 = .ok (.iload_n 1, 1) := by decide +kernel
theorem dX9_floor_6 : decode cX9_floor 6 = .ok (.idiv, 1) := by decide +kernel
theorem dX9_floor_7 : decode cX9_floor 7 = .ok (.goto 11, 3) := by decide +kernel
theorem dX9_floor_10 : decode cX9_floor 10 = .ok (.iload_n 1, 1) := by decide +kernel
theorem dX9_floor_11 : decode cX9_floor 11 = .ok (.iconst 1, 1) := by decide +kernel
theorem dX9_floor_12 : decode cX9_floor 12 = .ok (.isub, 1) := by decide +kernel
theorem dX9_floor_13 : decode cX9_floor 13 = .ok (.iload_n 0, 1) := by decide +kernel
theorem dX9_floor_14 : decode cX9_floor 14 = .ok (.isub, 1) := by decide +kernel
theorem dX9_floor_15 : decode cX9_floor 15 = .ok (.iload_n 1, 1) := by decide +kernel
theorem dX9_floor_16 : decode cX9_floor 16 = .ok (.idiv, 1) := by decide +kernel
theorem dX9_floor_17 : decode cX9_floor 17 = .ok (.ineg, 1) := by decide +kernel
theorem dX9_floor_18 : decode cX9_floor 18 = .ok (.ireturn, 1) := by decide +kernel
theorem dX9_meanOf_0 : decode cX9_meanOf 0 = .ok (.iconst 0, 1) := by decide +kernel
theorem dX9_meanOf_1 : decode cX9_meanOf 1 = .ok (.istore_n 2, 1) := by decide +kernel
theorem dX9_meanOf_2 : decode cX9_meanOf 2 = .ok (.iconst 0, 1) := by decide +kernel
theorem dX9_meanOf_3 : decode cX9_meanOf 3 = .ok (.istore_n 3, 1) := by decide +kernel
theorem dX9_meanOf_4 : decode cX9_meanOf 4 = .ok (.bipush 10, 2) := by decide +kernel
theorem dX9_meanOf_6 : decode cX9_meanOf 6 = .ok (.iload_n 1, 1) := by decide +kernel
theorem dX9_meanOf_7 : decode cX9_meanOf 7 = .ok (.imul, 1) := by decide +kernel
theorem dX9_meanOf_8 : decode cX9_meanOf 8 = .ok (.istore 4, 2) := by decide +kernel
theorem dX9_meanOf_10 : decode cX9_meanOf 10 = .ok (.iload 4, 2) := by decide +kernel
theorem dX9_meanOf_12 : decode cX9_meanOf 12 = .ok (.bipush 10, 2) := by decide +kernel
theorem dX9_meanOf_14 : decode cX9_meanOf 14 = .ok (.iload_n 1, 1) := by decide +kernel
theorem dX9_meanOf_15 : decode cX9_meanOf 15 = .ok (.imul, 1) := by decide +kernel
theorem dX9_meanOf_16 : decode cX9_meanOf 16 = .ok (.bipush 10, 2) := by decide +kernel
theorem dX9_meanOf_18 : decode cX9_meanOf 18 = .ok (.iadd, 1) := by decide +kernel
theorem dX9_meanOf_19 : decode cX9_meanOf 19 = .ok (.if_icmp .ge 78, 3) := by decide +kernel
theorem dX9_meanOf_22 : decode cX9_meanOf 22 = .ok (.aload_n 0, 1) := by decide +kernel
theorem dX9_meanOf_23 : decode cX9_meanOf 23 = .ok (.getfield 28, 3) := by decide +kernel
theorem dX9_meanOf_26 : decode cX9_meanOf 26 = .ok (.iload 4, 2) := by decide +kernel
theorem dX9_meanOf_28 : decode cX9_meanOf 28 = .ok (.iaload, 1) := by decide +kernel
theorem dX9_meanOf_29 : decode cX9_meanOf 29 = .ok (.iconst (-1), 1) := by decide +kernel
theorem dX9_meanOf_30 : decode cX9_meanOf 30 = .ok (.if_icmp .eq 18, 3) := by decide +kernel
theorem dX9_meanOf_33 : decode cX9_meanOf 33 = .ok (.aload_n 0, 1) := by decide +kernel
theorem dX9_meanOf_34 : decode cX9_meanOf 34 = .ok (.getfield 31, 3) := by decide +kernel
theorem dX9_meanOf_37 : decode cX9_meanOf 37 = .ok (.iload 4, 2) := by decide +kernel
theorem dX9_meanOf_39 : decode cX9_meanOf 39 = .ok (.iaload, 1) := by decide +kernel
theorem dX9_meanOf_40 : decode cX9_meanOf 40 = .ok (.iconst (-1), 1) := by decide +kernel
theorem dX9_meanOf_41 : decode cX9_meanOf 41 = .ok (.if_icmp .eq 7, 3) := by decide +kernel
theorem dX9_meanOf_44 : decode cX9_meanOf 44 = .ok (.iconst 1, 1) := by decide +kernel
theorem dX9_meanOf_45 : decode cX9_meanOf 45 = .ok (.goto 4, 3) := by decide +kernel
theorem dX9_meanOf_48 : decode cX9_meanOf 48 = .ok (.iconst 0, 1) := by decide +kernel
theorem dX9_meanOf_49 : decode cX9_meanOf 49 = .ok (.istore 5, 2) := by decide +kernel
theorem dX9_meanOf_51 : decode cX9_meanOf 51 = .ok (.iload_n 2, 1) := by decide +kernel
theorem dX9_meanOf_52 : decode cX9_meanOf 52 = .ok (.iload 5, 2) := by decide +kernel
theorem dX9_meanOf_54 : decode cX9_meanOf 54 = .ok (.ifCond .eq 21, 3) := by decide +kernel
theorem dX9_meanOf_57 : decode cX9_meanOf 57 = .ok (.aload_n 0, 1) := by decide +kernel
theorem dX9_meanOf_58 : decode cX9_meanOf 58 = .ok (.getfield 28, 3) := by decide +kernel
theorem dX9_meanOf_61 : decode cX9_meanOf 61 = .ok (.iload 4, 2) := by decide +kernel
theorem dX9_meanOf_63 : decode cX9_meanOf 63 = .ok (.iaload, 1) := by decide +kernel
theorem dX9_meanOf_64 : decode cX9_meanOf 64 = .ok (.aload_n 0, 1) := by decide +kernel
theorem dX9_meanOf_65 : decode cX9_meanOf 65 = .ok (.getfield 31, 3) := by decide +kernel
theorem dX9_meanOf_68 : decode cX9_meanOf 68 = .ok (.iload 4, 2) := by decide +kernel
theorem dX9_meanOf_70 : decode cX9_meanOf 70 = .ok (.iaload, 1) := by decide +kernel
theorem dX9_meanOf_71 : decode cX9_meanOf 71 = .ok (.isub, 1) := by decide +kernel
theorem dX9_meanOf_72 : decode cX9_meanOf 72 = .ok (.goto 4, 3) := by decide +kernel
theorem dX9_meanOf_75 : decode cX9_meanOf 75 = .ok (.iconst 0, 1) := by decide +kernel
theorem dX9_meanOf_76 : decode cX9_meanOf 76 = .ok (.iadd, 1) := by decide +kernel
theorem dX9_meanOf_77 : decode cX9_meanOf 77 = .ok (.istore_n 2, 1) := by decide +kernel
theorem dX9_meanOf_78 : decode cX9_meanOf 78 = .ok (.iload_n 3, 1) := by decide +kernel
theorem dX9_meanOf_79 : decode cX9_meanOf 79 = .ok (.iload 5, 2) := by decide +kernel
theorem dX9_meanOf_81 : decode cX9_meanOf 81 = .ok (.ifCond .eq 7, 3) := by decide +kernel
theorem dX9_meanOf_84 : decode cX9_meanOf 84 = .ok (.iconst 1, 1) := by decide +kernel
theorem dX9_meanOf_85 : decode cX9_meanOf 85 = .ok (.goto 4, 3) := by decide +kernel
theorem dX9_meanOf_88 : decode cX9_meanOf 88 = .ok (.iconst 0, 1) := by decide +kernel
theorem dX9_meanOf_89 : decode cX9_meanOf 89 = .ok (.iadd, 1) := by decide +kernel
theorem dX9_meanOf_90 : decode cX9_meanOf 90 = .ok (.istore_n 3, 1) := by decide +kernel
theorem dX9_meanOf_91 : decode cX9_meanOf 91 = .ok (.iinc 4 1, 3) := by decide +kernel
theorem dX9_meanOf_94 : decode cX9_meanOf 94 = .ok (.goto (-84), 3) := by decide +kernel
theorem dX9_meanOf_97 : decode cX9_meanOf 97 = .ok (.iload_n 3, 1) := by decide +kernel
theorem dX9_meanOf_98 : decode cX9_meanOf 98 = .ok (.ifCond .ne 7, 3) := by decide +kernel
theorem dX9_meanOf_101 : decode cX9_meanOf 101 = .ok (.iconst 0, 1) := by decide +kernel
theorem dX9_meanOf_102 : decode cX9_meanOf 102 = .ok (.goto 8, 3) := by decide +kernel
theorem dX9_meanOf_105 : decode cX9_meanOf 105 = .ok (.iload_n 2, 1) := by decide +kernel
theorem dX9_meanOf_106 : decode cX9_meanOf 106 = .ok (.iload_n 3, 1) := by decide +kernel
theorem dX9_meanOf_107 : decode cX9_meanOf 107 = .ok (.invokestatic 129, 3) := by decide +kernel
theorem dX9_meanOf_110 : decode cX9_meanOf 110 = .ok (.ireturn, 1) := by decide +kernel
theorem dX9_ownTime_0 : decode cX9_ownTime 0 = .ok (.bipush 10, 2) := by decide +kernel
theorem dX9_ownTime_2 : decode cX9_ownTime 2 = .ok (.iload_n 2, 1) := by decide +kernel
theorem dX9_ownTime_3 : decode cX9_ownTime 3 = .ok (.imul, 1) := by decide +kernel
theorem dX9_ownTime_4 : decode cX9_ownTime 4 = .ok (.iload_n 1, 1) := by decide +kernel
theorem dX9_ownTime_5 : decode cX9_ownTime 5 = .ok (.iadd, 1) := by decide +kernel
theorem dX9_ownTime_6 : decode cX9_ownTime 6 = .ok (.istore_n 3, 1) := by decide +kernel
theorem dX9_ownTime_7 : decode cX9_ownTime 7 = .ok (.aload_n 0, 1) := by decide +kernel
theorem dX9_ownTime_8 : decode cX9_ownTime 8 = .ok (.getfield 28, 3) := by decide +kernel
theorem dX9_ownTime_11 : decode cX9_ownTime 11 = .ok (.iload_n 3, 1) := by decide +kernel
theorem dX9_ownTime_12 : decode cX9_ownTime 12 = .ok (.iaload, 1) := by decide +kernel
theorem dX9_ownTime_13 : decode cX9_ownTime 13 = .ok (.iconst (-1), 1) := by decide +kernel
theorem dX9_ownTime_14 : decode cX9_ownTime 14 = .ok (.if_icmp .ne 15, 3) := by decide +kernel
theorem dX9_ownTime_17 : decode cX9_ownTime 17 = .ok (.aload_n 0, 1) := by decide +kernel
theorem dX9_ownTime_18 : decode cX9_ownTime 18 = .ok (.getfield 31, 3) := by decide +kernel
theorem dX9_ownTime_21 : decode cX9_ownTime 21 = .ok (.iload_n 3, 1) := by decide +kernel
theorem dX9_ownTime_22 : decode cX9_ownTime 22 = .ok (.iaload, 1) := by decide +kernel
theorem dX9_ownTime_23 : decode cX9_ownTime 23 = .ok (.iconst (-1), 1) := by decide +kernel
theorem dX9_ownTime_24 : decode cX9_ownTime 24 = .ok (.if_icmp .ne 5, 3) := by decide +kernel
theorem dX9_ownTime_27 : decode cX9_ownTime 27 = .ok (.iconst (-1), 1) := by decide +kernel
theorem dX9_ownTime_28 : decode cX9_ownTime 28 = .ok (.ireturn, 1) := by decide +kernel
theorem dX9_ownTime_29 : decode cX9_ownTime 29 = .ok (.aload_n 0, 1) := by decide +kernel
theorem dX9_ownTime_30 : decode cX9_ownTime 30 = .ok (.getfield 28, 3) := by decide +kernel
theorem dX9_ownTime_33 : decode cX9_ownTime 33 = .ok (.iload_n 3, 1) := by decide +kernel
theorem dX9_ownTime_34 : decode cX9_ownTime 34 = .ok (.iaload, 1) := by decide +kernel
theorem dX9_ownTime_35 : decode cX9_ownTime 35 = .ok (.iconst (-1), 1) := by decide +kernel
theorem dX9_ownTime_36 : decode cX9_ownTime 36 = .ok (.if_icmp .eq 12, 3) := by decide +kernel
theorem dX9_ownTime_39 : decode cX9_ownTime 39 = .ok (.aload_n 0, 1) := by decide +kernel
theorem dX9_ownTime_40 : decode cX9_ownTime 40 = .ok (.getfield 28, 3) := by decide +kernel
theorem dX9_ownTime_43 : decode cX9_ownTime 43 = .ok (.iload_n 3, 1) := by decide +kernel
theorem dX9_ownTime_44 : decode cX9_ownTime 44 = .ok (.iaload, 1) := by decide +kernel
theorem dX9_ownTime_45 : decode cX9_ownTime 45 = .ok (.goto 15, 3) := by decide +kernel
theorem dX9_ownTime_48 : decode cX9_ownTime 48 = .ok (.aload_n 0, 1) := by decide +kernel
theorem dX9_ownTime_49 : decode cX9_ownTime 49 = .ok (.getfield 31, 3) := by decide +kernel
theorem dX9_ownTime_52 : decode cX9_ownTime 52 = .ok (.iload_n 3, 1) := by decide +kernel
theorem dX9_ownTime_53 : decode cX9_ownTime 53 = .ok (.iaload, 1) := by decide +kernel
theorem dX9_ownTime_54 : decode cX9_ownTime 54 = .ok (.aload_n 0, 1) := by decide +kernel
theorem dX9_ownTime_55 : decode cX9_ownTime 55 = .ok (.iload_n 2, 1) := by decide +kernel
theorem dX9_ownTime_56 : decode cX9_ownTime 56 = .ok (.invokevirtual 132, 3) := by decide +kernel
theorem dX9_ownTime_59 : decode cX9_ownTime 59 = .ok (.iadd, 1) := by decide +kernel
theorem dX9_ownTime_60 : decode cX9_ownTime 60 = .ok (.aload_n 0, 1) := by decide +kernel
theorem dX9_ownTime_61 : decode cX9_ownTime 61 = .ok (.iload_n 1, 1) := by decide +kernel
theorem dX9_ownTime_62 : decode cX9_ownTime 62 = .ok (.iload_n 2, 1) := by decide +kernel
theorem dX9_ownTime_63 : decode cX9_ownTime 63 = .ok (.invokevirtual 135, 3) := by decide +kernel
theorem dX9_ownTime_66 : decode cX9_ownTime 66 = .ok (.isub, 1) := by decide +kernel
theorem dX9_ownTime_67 : decode cX9_ownTime 67 = .ok (.istore 4, 2) := by decide +kernel
theorem dX9_ownTime_69 : decode cX9_ownTime 69 = .ok (.iload 4, 2) := by decide +kernel
theorem dX9_ownTime_71 : decode cX9_ownTime 71 = .ok (.ifCond .ge 7, 3) := by decide +kernel
theorem dX9_ownTime_74 : decode cX9_ownTime 74 = .ok (.iconst 0, 1) := by decide +kernel
theorem dX9_ownTime_75 : decode cX9_ownTime 75 = .ok (.goto 5, 3) := by decide +kernel
theorem dX9_ownTime_78 : decode cX9_ownTime 78 = .ok (.iload 4, 2) := by decide +kernel
theorem dX9_ownTime_80 : decode cX9_ownTime 80 = .ok (.ireturn, 1) := by decide +kernel
theorem dX9_nextTime_0 : decode cX9_nextTime 0 = .ok (.aload_n 0, 1) := by decide +kernel
theorem dX9_nextTime_1 : decode cX9_nextTime 1 = .ok (.iload_n 1, 1) := by decide +kernel
theorem dX9_nextTime_2 : decode cX9_nextTime 2 = .ok (.invokevirtual 126, 3) := by decide +kernel
theorem dX9_nextTime_5 : decode cX9_nextTime 5 = .ok (.istore 4, 2) := by decide +kernel
theorem dX9_nextTime_7 : decode cX9_nextTime 7 = .ok (.iload_n 2, 1) := by decide +kernel
theorem dX9_nextTime_8 : decode cX9_nextTime 8 = .ok (.iload_n 3, 1) := by decide +kernel
theorem dX9_nextTime_9 : decode cX9_nextTime 9 = .ok (.iadd, 1) := by decide +kernel
theorem dX9_nextTime_10 : decode cX9_nextTime 10 = .ok (.istore 5, 2) := by decide +kernel
theorem dX9_nextTime_12 : decode cX9_nextTime 12 = .ok (.iload 5, 2) := by decide +kernel
theorem dX9_nextTime_14 : decode cX9_nextTime 14 = .ok (.ifCond .lt 73, 3) := by decide +kernel
theorem dX9_nextTime_17 : decode cX9_nextTime 17 = .ok (.iload 5, 2) := by decide +kernel
theorem dX9_nextTime_19 : decode cX9_nextTime 19 = .ok (.aload_n 0, 1) := by decide +kernel
theorem dX9_nextTime_20 : decode cX9_nextTime 20 = .ok (.getfield 19, 3) := by decide +kernel
theorem dX9_nextTime_23 : decode cX9_nextTime 23 = .ok (.iload 4, 2) := by decide +kernel
theorem dX9_nextTime_25 : decode cX9_nextTime 25 = .ok (.iaload, 1) := by decide +kernel
theorem dX9_nextTime_26 : decode cX9_nextTime 26 = .ok (.if_icmp .ge 61, 3) := by decide +kernel
theorem dX9_nextTime_29 : decode cX9_nextTime 29 = .ok (.aload_n 0, 1) := by decide +kernel
theorem dX9_nextTime_30 : decode cX9_nextTime 30 = .ok (.getfield 16, 3) := by decide +kernel
theorem dX9_nextTime_33 : decode cX9_nextTime 33 = .ok (.bipush 10, 2) := by decide +kernel
theorem dX9_nextTime_35 : decode cX9_nextTime 35 = .ok (.iload 4, 2) := by decide +kernel
theorem dX9_nextTime_37 : decode cX9_nextTime 37 = .ok (.imul, 1) := by decide +kernel
theorem dX9_nextTime_38 : decode cX9_nextTime 38 = .ok (.iload 5, 2) := by decide +kernel
theorem dX9_nextTime_40 : decode cX9_nextTime 40 = .ok (.iadd, 1) := by decide +kernel
theorem dX9_nextTime_41 : decode cX9_nextTime 41 = .ok (.iaload, 1) := by decide +kernel
theorem dX9_nextTime_42 : decode cX9_nextTime 42 = .ok (.istore 6, 2) := by decide +kernel
theorem dX9_nextTime_44 : decode cX9_nextTime 44 = .ok (.aload_n 0, 1) := by decide +kernel
theorem dX9_nextTime_45 : decode cX9_nextTime 45 = .ok (.getfield 34, 3) := by decide +kernel
theorem dX9_nextTime_48 : decode cX9_nextTime 48 = .ok (.bipush 10, 2) := by decide +kernel
theorem dX9_nextTime_50 : decode cX9_nextTime 50 = .ok (.iload_n 1, 1) := by decide +kernel
theorem dX9_nextTime_51 : decode cX9_nextTime 51 = .ok (.imul, 1) := by decide +kernel
theorem dX9_nextTime_52 : decode cX9_nextTime 52 = .ok (.iload 6, 2) := by decide +kernel
theorem dX9_nextTime_54 : decode cX9_nextTime 54 = .ok (.iadd, 1) := by decide +kernel
theorem dX9_nextTime_55 : decode cX9_nextTime 55 = .ok (.baload, 1) := by decide +kernel
theorem dX9_nextTime_56 : decode cX9_nextTime 56 = .ok (.ifCond .ne 22, 3) := by decide +kernel
theorem dX9_nextTime_59 : decode cX9_nextTime 59 = .ok (.aload_n 0, 1) := by decide +kernel
theorem dX9_nextTime_60 : decode cX9_nextTime 60 = .ok (.iload 6, 2) := by decide +kernel
theorem dX9_nextTime_62 : decode cX9_nextTime 62 = .ok (.iload_n 1, 1) := by decide +kernel
theorem dX9_nextTime_63 : decode cX9_nextTime 63 = .ok (.invokevirtual 138, 3) := by decide +kernel
theorem dX9_nextTime_66 : decode cX9_nextTime 66 = .ok (.iconst (-1), 1) := by decide +kernel
theorem dX9_nextTime_67 : decode cX9_nextTime 67 = .ok (.if_icmp .eq 11, 3) := by decide +kernel
theorem dX9_nextTime_70 : decode cX9_nextTime 70 = .ok (.aload_n 0, 1) := by decide +kernel
theorem dX9_nextTime_71 : decode cX9_nextTime 71 = .ok (.iload 6, 2) := by decide +kernel
theorem dX9_nextTime_73 : decode cX9_nextTime 73 = .ok (.iload_n 1, 1) := by decide +kernel
theorem dX9_nextTime_74 : decode cX9_nextTime 74 = .ok (.invokevirtual 138, 3) := by decide +kernel
theorem dX9_nextTime_77 : decode cX9_nextTime 77 = .ok (.ireturn, 1) := by decide +kernel
theorem dX9_nextTime_78 : decode cX9_nextTime 78 = .ok (.iload 5, 2) := by decide +kernel
theorem dX9_nextTime_80 : decode cX9_nextTime 80 = .ok (.iload_n 3, 1) := by decide +kernel
theorem dX9_nextTime_81 : decode cX9_nextTime 81 = .ok (.iadd, 1) := by decide +kernel
theorem dX9_nextTime_82 : decode cX9_nextTime 82 = .ok (.istore 5, 2) := by decide +kernel
theorem dX9_nextTime_84 : decode cX9_nextTime 84 = .ok (.goto (-72), 3) := by decide +kernel
theorem dX9_nextTime_87 : decode cX9_nextTime 87 = .ok (.iconst (-1), 1) := by decide +kernel
theorem dX9_nextTime_88 : decode cX9_nextTime 88 = .ok (.ireturn, 1) := by decide +kernel
theorem dX9_notional_0 : decode cX9_notional 0 = .ok (.aload_n 0, 1) := by decide +kernel
theorem dX9_notional_1 : decode cX9_notional 1 = .ok (.aload_n 0, 1) := by decide +kernel
theorem dX9_notional_2 : decode cX9_notional 2 = .ok (.iload_n 2, 1) := by decide +kernel
theorem dX9_notional_3 : decode cX9_notional 3 = .ok (.invokevirtual 126, 3) := by decide +kernel
theorem dX9_notional_6 : decode cX9_notional 6 = .ok (.iload_n 1, 1) := by decide +kernel
theorem dX9_notional_7 : decode cX9_notional 7 = .ok (.invokevirtual 113, 3) := by decide +kernel
theorem dX9_notional_10 : decode cX9_notional 10 = .ok (.istore_n 3, 1) := by decide +kernel
theorem dX9_notional_11 : decode cX9_notional 11 = .ok (.aload_n 0, 1) := by decide +kernel
theorem dX9_notional_12 : decode cX9_notional 12 = .ok (.iload_n 2, 1) := by decide +kernel
theorem dX9_notional_13 : decode cX9_notional 13 = .ok (.iload_n 3, 1) := by decide +kernel
theorem dX9_notional_14 : decode cX9_notional 14 = .ok (.iconst (-1), 1) := by decide +kernel
theorem dX9_notional_15 : decode cX9_notional 15 = .ok (.invokevirtual 141, 3) := by decide +kernel
theorem dX9_notional_18 : decode cX9_notional 18 = .ok (.istore 4, 2) := by decide +kernel
theorem dX9_notional_20 : decode cX9_notional 20 = .ok (.aload_n 0, 1) := by decide +kernel
theorem dX9_notional_21 : decode cX9_notional 21 = .ok (.iload_n 2, 1) := by decide +kernel
theorem dX9_notional_22 : decode cX9_notional 22 = .ok (.iload_n 3, 1) := by decide +kernel
theorem dX9_notional_23 : decode cX9_notional 23 = .ok (.iconst 1, 1) := by decide +kernel
theorem dX9_notional_24 : decode cX9_notional 24 = .ok (.invokevirtual 141, 3) := by decide +kernel
theorem dX9_notional_27 : decode cX9_notional 27 = .ok (.istore 5, 2) := by decide +kernel
theorem dX9_notional_29 : decode cX9_notional 29 = .ok (.iload 4, 2) := by decide +kernel
theorem dX9_notional_31 : decode cX9_notional 31 = .ok (.iconst (-1), 1) := by decide +kernel
theorem dX9_notional_32 : decode cX9_notional 32 = .ok (.if_icmp .ne 8, 3) := by decide +kernel
theorem dX9_notional_35 : decode cX9_notional 35 = .ok (.iload 5, 2) := by decide +kernel
theorem dX9_notional_37 : decode cX9_notional 37 = .ok (.goto 21, 3) := by decide +kernel
theorem dX9_notional_40 : decode cX9_notional 40 = .ok (.iload 5, 2) := by decide +kernel
theorem dX9_notional_42 : decode cX9_notional 42 = .ok (.iconst (-1), 1) := by decide +kernel
theorem dX9_notional_43 : decode cX9_notional 43 = .ok (.if_icmp .ne 8, 3) := by decide +kernel
theorem dX9_notional_46 : decode cX9_notional 46 = .ok (.iload 4, 2) := by decide +kernel
theorem dX9_notional_48 : decode cX9_notional 48 = .ok (.goto 10, 3) := by decide +kernel
theorem dX9_notional_51 : decode cX9_notional 51 = .ok (.iload 4, 2) := by decide +kernel
theorem dX9_notional_53 : decode cX9_notional 53 = .ok (.iload 5, 2) := by decide +kernel
theorem dX9_notional_55 : decode cX9_notional 55 = .ok (.iadd, 1) := by decide +kernel
theorem dX9_notional_56 : decode cX9_notional 56 = .ok (.iconst 2, 1) := by decide +kernel
theorem dX9_notional_57 : decode cX9_notional 57 = .ok (.idiv, 1) := by decide +kernel
theorem dX9_notional_58 : decode cX9_notional 58 = .ok (.ireturn, 1) := by decide +kernel
theorem dX9_timeOf_0 : decode cX9_timeOf 0 = .ok (.bipush 10, 2) := by decide +kernel
theorem dX9_timeOf_2 : decode cX9_timeOf 2 = .ok (.iload_n 2, 1) := by decide +kernel
theorem dX9_timeOf_3 : decode cX9_timeOf 3 = .ok (.imul, 1) := by decide +kernel
theorem dX9_timeOf_4 : decode cX9_timeOf 4 = .ok (.iload_n 1, 1) := by decide +kernel
theorem dX9_timeOf_5 : decode cX9_timeOf 5 = .ok (.iadd, 1) := by decide +kernel
theorem dX9_timeOf_6 : decode cX9_timeOf 6 = .ok (.istore_n 3, 1) := by decide +kernel
theorem dX9_timeOf_7 : decode cX9_timeOf 7 = .ok (.aload_n 0, 1) := by decide +kernel
theorem dX9_timeOf_8 : decode cX9_timeOf 8 = .ok (.getfield 38, 3) := by decide +kernel
theorem dX9_timeOf_11 : decode cX9_timeOf 11 = .ok (.iload_n 3, 1) := by decide +kernel
theorem dX9_timeOf_12 : decode cX9_timeOf 12 = .ok (.iaload, 1) := by decide +kernel
theorem dX9_timeOf_13 : decode cX9_timeOf 13 = .ok (.iconst (-1), 1) := by decide +kernel
theorem dX9_timeOf_14 : decode cX9_timeOf 14 = .ok (.if_icmp .eq 12, 3) := by decide +kernel
theorem dX9_timeOf_17 : decode cX9_timeOf 17 = .ok (.aload_n 0, 1) := by decide +kernel
theorem dX9_timeOf_18 : decode cX9_timeOf 18 = .ok (.getfield 38, 3) := by decide +kernel
theorem dX9_timeOf_21 : decode cX9_timeOf 21 = .ok (.iload_n 3, 1) := by decide +kernel
theorem dX9_timeOf_22 : decode cX9_timeOf 22 = .ok (.iaload, 1) := by decide +kernel
theorem dX9_timeOf_23 : decode cX9_timeOf 23 = .ok (.goto 27, 3) := by decide +kernel
theorem dX9_timeOf_26 : decode cX9_timeOf 26 = .ok (.aload_n 0, 1) := by decide +kernel
theorem dX9_timeOf_27 : decode cX9_timeOf 27 = .ok (.getfield 34, 3) := by decide +kernel
theorem dX9_timeOf_30 : decode cX9_timeOf 30 = .ok (.iload_n 3, 1) := by decide +kernel
theorem dX9_timeOf_31 : decode cX9_timeOf 31 = .ok (.baload, 1) := by decide +kernel
theorem dX9_timeOf_32 : decode cX9_timeOf 32 = .ok (.ifCond .eq 12, 3) := by decide +kernel
theorem dX9_timeOf_35 : decode cX9_timeOf 35 = .ok (.aload_n 0, 1) := by decide +kernel
theorem dX9_timeOf_36 : decode cX9_timeOf 36 = .ok (.iload_n 1, 1) := by decide +kernel
theorem dX9_timeOf_37 : decode cX9_timeOf 37 = .ok (.iload_n 2, 1) := by decide +kernel
theorem dX9_timeOf_38 : decode cX9_timeOf 38 = .ok (.invokevirtual 145, 3) := by decide +kernel
theorem dX9_timeOf_41 : decode cX9_timeOf 41 = .ok (.goto 9, 3) := by decide +kernel
theorem dX9_timeOf_44 : decode cX9_timeOf 44 = .ok (.aload_n 0, 1) := by decide +kernel
theorem dX9_timeOf_45 : decode cX9_timeOf 45 = .ok (.iload_n 1, 1) := by decide +kernel
theorem dX9_timeOf_46 : decode cX9_timeOf 46 = .ok (.iload_n 2, 1) := by decide +kernel
theorem dX9_timeOf_47 : decode cX9_timeOf 47 = .ok (.invokevirtual 138, 3) := by decide +kernel
theorem dX9_timeOf_50 : decode cX9_timeOf 50 = .ok (.ireturn, 1) := by decide +kernel
theorem dX9_wrong_0 : decode cX9_wrong 0 = .ok (.iload_n 1, 1) := by decide +kernel
theorem dX9_wrong_1 : decode cX9_wrong 1 = .ok (.invokestatic 120, 3) := by decide +kernel
theorem dX9_wrong_4 : decode cX9_wrong 4 = .ok (.ifCond .eq 15, 3) := by decide +kernel
theorem dX9_wrong_7 : decode cX9_wrong 7 = .ok (.aload_n 0, 1) := by decide +kernel
theorem dX9_wrong_8 : decode cX9_wrong 8 = .ok (.iload_n 2, 1) := by decide +kernel
theorem dX9_wrong_9 : decode cX9_wrong 9 = .ok (.invokevirtual 95, 3) := by decide +kernel
theorem dX9_wrong_12 : decode cX9_wrong 12 = .ok (.ifCond .eq 7, 3) := by decide +kernel
theorem dX9_wrong_15 : decode cX9_wrong 15 = .ok (.iconst 1, 1) := by decide +kernel
theorem dX9_wrong_16 : decode cX9_wrong 16 = .ok (.goto 4, 3) := by decide +kernel
theorem dX9_wrong_19 : decode cX9_wrong 19 = .ok (.iconst 0, 1) := by decide +kernel
theorem dX9_wrong_20 : decode cX9_wrong 20 = .ok (.istore 4, 2) := by decide +kernel
theorem dX9_wrong_22 : decode cX9_wrong 22 = .ok (.iload 4, 2) := by decide +kernel
theorem dX9_wrong_24 : decode cX9_wrong 24 = .ok (.ifCond .ne 5, 3) := by decide +kernel
theorem dX9_wrong_27 : decode cX9_wrong 27 = .ok (.iconst 1, 1) := by decide +kernel
theorem dX9_wrong_28 : decode cX9_wrong 28 = .ok (.ireturn, 1) := by decide +kernel
theorem dX9_wrong_29 : decode cX9_wrong 29 = .ok (.aload_n 0, 1) := by decide +kernel
theorem dX9_wrong_30 : decode cX9_wrong 30 = .ok (.getfield 7, 3) := by decide +kernel
theorem dX9_wrong_33 : decode cX9_wrong 33 = .ok (.iload_n 2, 1) := by decide +kernel
theorem dX9_wrong_34 : decode cX9_wrong 34 = .ok (.iaload, 1) := by decide +kernel
theorem dX9_wrong_35 : decode cX9_wrong 35 = .ok (.iconst 2, 1) := by decide +kernel
theorem dX9_wrong_36 : decode cX9_wrong 36 = .ok (.if_icmp .ne 7, 3) := by decide +kernel
theorem dX9_wrong_39 : decode cX9_wrong 39 = .ok (.iload_n 3, 1) := by decide +kernel
theorem dX9_wrong_40 : decode cX9_wrong 40 = .ok (.ifCond .ne 7, 3) := by decide +kernel
theorem dX9_wrong_43 : decode cX9_wrong 43 = .ok (.iconst 2, 1) := by decide +kernel
theorem dX9_wrong_44 : decode cX9_wrong 44 = .ok (.goto 18, 3) := by decide +kernel
theorem dX9_wrong_47 : decode cX9_wrong 47 = .ok (.aload_n 0, 1) := by decide +kernel
theorem dX9_wrong_48 : decode cX9_wrong 48 = .ok (.iload_n 1, 1) := by decide +kernel
theorem dX9_wrong_49 : decode cX9_wrong 49 = .ok (.iload_n 2, 1) := by decide +kernel
theorem dX9_wrong_50 : decode cX9_wrong 50 = .ok (.invokevirtual 135, 3) := by decide +kernel
theorem dX9_wrong_53 : decode cX9_wrong 53 = .ok (.iconst (-1), 1) := by decide +kernel
theorem dX9_wrong_54 : decode cX9_wrong 54 = .ok (.if_icmp .ne 7, 3) := by decide +kernel
theorem dX9_wrong_57 : decode cX9_wrong 57 = .ok (.iconst 3, 1) := by decide +kernel
theorem dX9_wrong_58 : decode cX9_wrong 58 = .ok (.goto 4, 3) := by decide +kernel
theorem dX9_wrong_61 : decode cX9_wrong 61 = .ok (.iconst 0, 1) := by decide +kernel
theorem dX9_wrong_62 : decode cX9_wrong 62 = .ok (.ireturn, 1) := by decide +kernel
theorem dX9_finish_0 : decode cX9_finish 0 = .ok (.aload_n 0, 1) := by decide +kernel
theorem dX9_finish_1 : decode cX9_finish 1 = .ok (.iload_n 1, 1) := by decide +kernel
theorem dX9_finish_2 : decode cX9_finish 2 = .ok (.iload_n 2, 1) := by decide +kernel
theorem dX9_finish_3 : decode cX9_finish 3 = .ok (.iload 4, 2) := by decide +kernel
theorem dX9_finish_5 : decode cX9_finish 5 = .ok (.iconst 0, 1) := by decide +kernel
theorem dX9_finish_6 : decode cX9_finish 6 = .ok (.ldc 148, 2) := by decide +kernel
theorem dX9_finish_8 : decode cX9_finish 8 = .ok (.invokestatic 84, 3) := by decide +kernel
theorem dX9_finish_11 : decode cX9_finish 11 = .ok (.invokevirtual 149, 3) := by decide +kernel
theorem dX9_finish_14 : decode cX9_finish 14 = .ok (.istore 5, 2) := by decide +kernel
theorem dX9_finish_16 : decode cX9_finish 16 = .ok (.aload_n 0, 1) := by decide +kernel
theorem dX9_finish_17 : decode cX9_finish 17 = .ok (.iload 5, 2) := by decide +kernel
theorem dX9_finish_19 : decode cX9_finish 19 = .ok (.ifCond .le 8, 3) := by decide +kernel
theorem dX9_finish_22 : decode cX9_finish 22 = .ok (.iload 5, 2) := by decide +kernel
theorem dX9_finish_24 : decode cX9_finish 24 = .ok (.goto 19, 3) := by decide +kernel
theorem dX9_finish_27 : decode cX9_finish 27 = .ok (.iload 4, 2) := by decide +kernel
theorem dX9_finish_29 : decode cX9_finish 29 = .ok (.aload_n 0, 1) := by decide +kernel
theorem dX9_finish_30 : decode cX9_finish 30 = .ok (.iload_n 1, 1) := by decide +kernel
theorem dX9_finish_31 : decode cX9_finish 31 = .ok (.iload_n 2, 1) := by decide +kernel
theorem dX9_finish_32 : decode cX9_finish 32 = .ok (.invokevirtual 135, 3) := by decide +kernel
theorem dX9_finish_35 : decode cX9_finish 35 = .ok (.if_icmp .ge 7, 3) := by decide +kernel
theorem dX9_finish_38 : decode cX9_finish 38 = .ok (.iconst 3, 1) := by decide +kernel
theorem dX9_finish_39 : decode cX9_finish 39 = .ok (.goto 4, 3) := by decide +kernel
theorem dX9_finish_42 : decode cX9_finish 42 = .ok (.iconst 0, 1) := by decide +kernel
theorem dX9_finish_43 : decode cX9_finish 43 = .ok (.invokevirtual 92, 3) := by decide +kernel
theorem dX9_finish_46 : decode cX9_finish 46 = .ok (.ifCond .ne 4, 3) := by decide +kernel
theorem dX9_finish_49 : decode cX9_finish 49 = .ok (.return_, 1) := by decide +kernel
theorem dX9_finish_50 : decode cX9_finish 50 = .ok (.iload_n 3, 1) := by decide +kernel
theorem dX9_finish_51 : decode cX9_finish 51 = .ok (.ifCond .eq 19, 3) := by decide +kernel
theorem dX9_finish_54 : decode cX9_finish 54 = .ok (.aload_n 0, 1) := by decide +kernel
theorem dX9_finish_55 : decode cX9_finish 55 = .ok (.getfield 28, 3) := by decide +kernel
theorem dX9_finish_58 : decode cX9_finish 58 = .ok (.bipush 10, 2) := by decide +kernel
theorem dX9_finish_60 : decode cX9_finish 60 = .ok (.iload_n 2, 1) := by decide +kernel
theorem dX9_finish_61 : decode cX9_finish 61 = .ok (.imul, 1) := by decide +kernel
theorem dX9_finish_62 : decode cX9_finish 62 = .ok (.iload_n 1, 1) := by decide +kernel
theorem dX9_finish_63 : decode cX9_finish 63 = .ok (.iadd, 1) := by decide +kernel
theorem dX9_finish_64 : decode cX9_finish 64 = .ok (.iload 4, 2) := by decide +kernel
theorem dX9_finish_66 : decode cX9_finish 66 = .ok (.iastore, 1) := by decide +kernel
theorem dX9_finish_67 : decode cX9_finish 67 = .ok (.goto 16, 3) := by decide +kernel
theorem dX9_finish_70 : decode cX9_finish 70 = .ok (.aload_n 0, 1) := by decide +kernel
theorem dX9_finish_71 : decode cX9_finish 71 = .ok (.getfield 31, 3) := by decide +kernel
theorem dX9_finish_74 : decode cX9_finish 74 = .ok (.bipush 10, 2) := by decide +kernel
theorem dX9_finish_76 : decode cX9_finish 76 = .ok (.iload_n 2, 1) := by decide +kernel
theorem dX9_finish_77 : decode cX9_finish 77 = .ok (.imul, 1) := by decide +kernel
theorem dX9_finish_78 : decode cX9_finish 78 = .ok (.iload_n 1, 1) := by decide +kernel
theorem dX9_finish_79 : decode cX9_finish 79 = .ok (.iadd, 1) := by decide +kernel
theorem dX9_finish_80 : decode cX9_finish 80 = .ok (.iload 4, 2) := by decide +kernel
theorem dX9_finish_82 : decode cX9_finish 82 = .ok (.iastore, 1) := by decide +kernel
theorem dX9_finish_83 : decode cX9_finish 83 = .ok (.return_, 1) := by decide +kernel
theorem dX9_held_0 : decode cX9_held 0 = .ok (.aload_n 0, 1) := by decide +kernel
theorem dX9_held_1 : decode cX9_held 1 = .ok (.aload_n 0, 1) := by decide +kernel
theorem dX9_held_2 : decode cX9_held 2 = .ok (.iload_n 1, 1) := by decide +kernel
theorem dX9_held_3 : decode cX9_held 3 = .ok (.iload_n 2, 1) := by decide +kernel
theorem dX9_held_4 : decode cX9_held 4 = .ok (.iconst 1, 1) := by decide +kernel
theorem dX9_held_5 : decode cX9_held 5 = .ok (.invokevirtual 149, 3) := by decide +kernel
theorem dX9_held_8 : decode cX9_held 8 = .ok (.invokevirtual 92, 3) := by decide +kernel
theorem dX9_held_11 : decode cX9_held 11 = .ok (.ifCond .ne 5, 3) := by decide +kernel
theorem dX9_held_14 : decode cX9_held 14 = .ok (.iconst 0, 1) := by decide +kernel
theorem dX9_held_15 : decode cX9_held 15 = .ok (.ireturn, 1) := by decide +kernel
theorem dX9_held_16 : decode cX9_held 16 = .ok (.aload_n 0, 1) := by decide +kernel
theorem dX9_held_17 : decode cX9_held 17 = .ok (.getfield 34, 3) := by decide +kernel
theorem dX9_held_20 : decode cX9_held 20 = .ok (.bipush 10, 2) := by decide +kernel
theorem dX9_held_22 : decode cX9_held 22 = .ok (.iload_n 2, 1) := by decide +kernel
theorem dX9_held_23 : decode cX9_held 23 = .ok (.imul, 1) := by decide +kernel
theorem dX9_held_24 : decode cX9_held 24 = .ok (.iload_n 1, 1) := by decide +kernel
theorem dX9_held_25 : decode cX9_held 25 = .ok (.iadd, 1) := by decide +kernel
theorem dX9_held_26 : decode cX9_held 26 = .ok (.iload_n 3, 1) := by decide +kernel
theorem dX9_held_27 : decode cX9_held 27 = .ok (.bastore, 1) := by decide +kernel
theorem dX9_held_28 : decode cX9_held 28 = .ok (.aload_n 0, 1) := by decide +kernel
theorem dX9_held_29 : decode cX9_held 29 = .ok (.iload_n 1, 1) := by decide +kernel
theorem dX9_held_30 : decode cX9_held 30 = .ok (.iload_n 2, 1) := by decide +kernel
theorem dX9_held_31 : decode cX9_held 31 = .ok (.invokevirtual 153, 3) := by decide +kernel
theorem dX9_held_34 : decode cX9_held 34 = .ok (.ireturn, 1) := by decide +kernel
theorem dX9_award_0 : decode cX9_award 0 = .ok (.aload_n 0, 1) := by decide +kernel
theorem dX9_award_1 : decode cX9_award 1 = .ok (.aload_n 0, 1) := by decide +kernel
theorem dX9_award_2 : decode cX9_award 2 = .ok (.iload_n 1, 1) := by decide +kernel
theorem dX9_award_3 : decode cX9_award 3 = .ok (.iload_n 2, 1) := by decide +kernel
theorem dX9_award_4 : decode cX9_award 4 = .ok (.iload_n 3, 1) := by decide +kernel
theorem dX9_award_5 : decode cX9_award 5 = .ok (.iconst (-1), 1) := by decide +kernel
theorem dX9_award_6 : decode cX9_award 6 = .ok (.ldc 156, 2) := by decide +kernel
theorem dX9_award_8 : decode cX9_award 8 = .ok (.invokestatic 84, 3) := by decide +kernel
theorem dX9_award_11 : decode cX9_award 11 = .ok (.invokevirtual 149, 3) := by decide +kernel
theorem dX9_award_14 : decode cX9_award 14 = .ok (.invokevirtual 92, 3) := by decide +kernel
theorem dX9_award_17 : decode cX9_award 17 = .ok (.ifCond .ne 5, 3) := by decide +kernel
theorem dX9_award_20 : decode cX9_award 20 = .ok (.iconst 0, 1) := by decide +kernel
theorem dX9_award_21 : decode cX9_award 21 = .ok (.ireturn, 1) := by decide +kernel
theorem dX9_award_22 : decode cX9_award 22 = .ok (.aload_n 0, 1) := by decide +kernel
theorem dX9_award_23 : decode cX9_award 23 = .ok (.getfield 38, 3) := by decide +kernel
theorem dX9_award_26 : decode cX9_award 26 = .ok (.bipush 10, 2) := by decide +kernel
theorem dX9_award_28 : decode cX9_award 28 = .ok (.iload_n 2, 1) := by decide +kernel
theorem dX9_award_29 : decode cX9_award 29 = .ok (.imul, 1) := by decide +kernel
theorem dX9_award_30 : decode cX9_award 30 = .ok (.iload_n 1, 1) := by decide +kernel
theorem dX9_award_31 : decode cX9_award 31 = .ok (.iadd, 1) := by decide +kernel
theorem dX9_award_32 : decode cX9_award 32 = .ok (.iload_n 3, 1) := by decide +kernel
theorem dX9_award_33 : decode cX9_award 33 = .ok (.iastore, 1) := by decide +kernel
theorem dX9_award_34 : decode cX9_award 34 = .ok (.aload_n 0, 1) := by decide +kernel
theorem dX9_award_35 : decode cX9_award 35 = .ok (.iload_n 1, 1) := by decide +kernel
theorem dX9_award_36 : decode cX9_award 36 = .ok (.iload_n 2, 1) := by decide +kernel
theorem dX9_award_37 : decode cX9_award 37 = .ok (.invokevirtual 153, 3) := by decide +kernel
theorem dX9_award_40 : decode cX9_award 40 = .ok (.ireturn, 1) := by decide +kernel
theorem dX9_time_0 : decode cX9_time 0 = .ok (.iload_n 1, 1) := by decide +kernel
theorem dX9_time_1 : decode cX9_time 1 = .ok (.invokestatic 120, 3) := by decide +kernel
theorem dX9_time_4 : decode cX9_time 4 = .ok (.ifCond .eq 15, 3) := by decide +kernel
theorem dX9_time_7 : decode cX9_time 7 = .ok (.aload_n 0, 1) := by decide +kernel
theorem dX9_time_8 : decode cX9_time 8 = .ok (.iload_n 2, 1) := by decide +kernel
theorem dX9_time_9 : decode cX9_time 9 = .ok (.invokevirtual 95, 3) := by decide +kernel
theorem dX9_time_12 : decode cX9_time 12 = .ok (.ifCond .eq 7, 3) := by decide +kernel
theorem dX9_time_15 : decode cX9_time 15 = .ok (.iconst 1, 1) := by decide +kernel
theorem dX9_time_16 : decode cX9_time 16 = .ok (.goto 4, 3) := by decide +kernel
theorem dX9_time_19 : decode cX9_time 19 = .ok (.iconst 0, 1) := by decide +kernel
theorem dX9_time_20 : decode cX9_time 20 = .ok (.istore_n 3, 1) := by decide +kernel
theorem dX9_time_21 : decode cX9_time 21 = .ok (.aload_n 0, 1) := by decide +kernel
theorem dX9_time_22 : decode cX9_time 22 = .ok (.iload_n 3, 1) := by decide +kernel
theorem dX9_time_23 : decode cX9_time 23 = .ok (.ifCond .ne 7, 3) := by decide +kernel
theorem dX9_time_26 : decode cX9_time 26 = .ok (.iconst 1, 1) := by decide +kernel
theorem dX9_time_27 : decode cX9_time 27 = .ok (.goto 18, 3) := by decide +kernel
theorem dX9_time_30 : decode cX9_time 30 = .ok (.aload_n 0, 1) := by decide +kernel
theorem dX9_time_31 : decode cX9_time 31 = .ok (.getfield 7, 3) := by decide +kernel
theorem dX9_time_34 : decode cX9_time 34 = .ok (.iload_n 2, 1) := by decide +kernel
theorem dX9_time_35 : decode cX9_time 35 = .ok (.iaload, 1) := by decide +kernel
theorem dX9_time_36 : decode cX9_time 36 = .ok (.iconst 2, 1) := by decide +kernel
theorem dX9_time_37 : decode cX9_time 37 = .ok (.if_icmp .ne 7, 3) := by decide +kernel
theorem dX9_time_40 : decode cX9_time 40 = .ok (.iconst 0, 1) := by decide +kernel
theorem dX9_time_41 : decode cX9_time 41 = .ok (.goto 4, 3) := by decide +kernel
theorem dX9_time_44 : decode cX9_time 44 = .ok (.iconst 2, 1) := by decide +kernel
theorem dX9_time_45 : decode cX9_time 45 = .ok (.invokevirtual 92, 3) := by decide +kernel
theorem dX9_time_48 : decode cX9_time 48 = .ok (.ifCond .ne 5, 3) := by decide +kernel
theorem dX9_time_51 : decode cX9_time 51 = .ok (.iconst 0, 1) := by decide +kernel
theorem dX9_time_52 : decode cX9_time 52 = .ok (.ireturn, 1) := by decide +kernel
theorem dX9_time_53 : decode cX9_time 53 = .ok (.aload_n 0, 1) := by decide +kernel
theorem dX9_time_54 : decode cX9_time 54 = .ok (.iload_n 1, 1) := by decide +kernel
theorem dX9_time_55 : decode cX9_time 55 = .ok (.iload_n 2, 1) := by decide +kernel
theorem dX9_time_56 : decode cX9_time 56 = .ok (.invokevirtual 153, 3) := by decide +kernel
theorem dX9_time_59 : decode cX9_time 59 = .ok (.ireturn, 1) := by decide +kernel
theorem dX9_allocate_0 : decode cX9_allocate 0 = .ok (.iload_n 1, 1) := by decide +kernel
theorem dX9_allocate_1 : decode cX9_allocate 1 = .ok (.invokestatic 120, 3) := by decide +kernel
theorem dX9_allocate_4 : decode cX9_allocate 4 = .ok (.istore_n 3, 1) := by decide +kernel
theorem dX9_allocate_5 : decode cX9_allocate 5 = .ok (.iload_n 2, 1) := by decide +kernel
theorem dX9_allocate_6 : decode cX9_allocate 6 = .ok (.iconst 0, 1) := by decide +kernel
theorem dX9_allocate_7 : decode cX9_allocate 7 = .ok (.bipush 99, 2) := by decide +kernel
theorem dX9_allocate_9 : decode cX9_allocate 9 = .ok (.invokestatic 84, 3) := by decide +kernel
theorem dX9_allocate_12 : decode cX9_allocate 12 = .ok (.istore 4, 2) := by decide +kernel
theorem dX9_allocate_14 : decode cX9_allocate 14 = .ok (.iload_n 3, 1) := by decide +kernel
theorem dX9_allocate_15 : decode cX9_allocate 15 = .ok (.ifCond .eq 37, 3) := by decide +kernel
theorem dX9_allocate_18 : decode cX9_allocate 18 = .ok (.iload 4, 2) := by decide +kernel
theorem dX9_allocate_20 : decode cX9_allocate 20 = .ok (.ifCond .eq 32, 3) := by decide +kernel
theorem dX9_allocate_23 : decode cX9_allocate 23 = .ok (.aload_n 0, 1) := by decide +kernel
theorem dX9_allocate_24 : decode cX9_allocate 24 = .ok (.getfield 56, 3) := by decide +kernel
theorem dX9_allocate_27 : decode cX9_allocate 27 = .ok (.bipush 100, 2) := by decide +kernel
theorem dX9_allocate_29 : decode cX9_allocate 29 = .ok (.iload_n 1, 1) := by decide +kernel
theorem dX9_allocate_30 : decode cX9_allocate 30 = .ok (.imul, 1) := by decide +kernel
theorem dX9_allocate_31 : decode cX9_allocate 31 = .ok (.iload_n 2, 1) := by decide +kernel
theorem dX9_allocate_32 : decode cX9_allocate 32 = .ok (.iadd, 1) := by decide +kernel
theorem dX9_allocate_33 : decode cX9_allocate 33 = .ok (.baload, 1) := by decide +kernel
theorem dX9_allocate_34 : decode cX9_allocate 34 = .ok (.ifCond .ne 18, 3) := by decide +kernel
theorem dX9_allocate_37 : decode cX9_allocate 37 = .ok (.aload_n 0, 1) := by decide +kernel
theorem dX9_allocate_38 : decode cX9_allocate 38 = .ok (.getfield 62, 3) := by decide +kernel
theorem dX9_allocate_41 : decode cX9_allocate 41 = .ok (.iload_n 1, 1) := by decide +kernel
theorem dX9_allocate_42 : decode cX9_allocate 42 = .ok (.iaload, 1) := by decide +kernel
theorem dX9_allocate_43 : decode cX9_allocate 43 = .ok (.bipush 6, 2) := by decide +kernel
theorem dX9_allocate_45 : decode cX9_allocate 45 = .ok (.if_icmp .ge 7, 3) := by decide +kernel
theorem dX9_allocate_48 : decode cX9_allocate 48 = .ok (.iconst 1, 1) := by decide +kernel
theorem dX9_allocate_49 : decode cX9_allocate 49 = .ok (.goto 4, 3) := by decide +kernel
theorem dX9_allocate_52 : decode cX9_allocate 52 = .ok (.iconst 0, 1) := by decide +kernel
theorem dX9_allocate_53 : decode cX9_allocate 53 = .ok (.istore 5, 2) := by decide +kernel
theorem dX9_allocate_55 : decode cX9_allocate 55 = .ok (.aload_n 0, 1) := by decide +kernel
theorem dX9_allocate_56 : decode cX9_allocate 56 = .ok (.iload_n 3, 1) := by decide +kernel
theorem dX9_allocate_57 : decode cX9_allocate 57 = .ok (.ifCond .ne 7, 3) := by decide +kernel
theorem dX9_allocate_60 : decode cX9_allocate 60 = .ok (.iconst 1, 1) := by decide +kernel
theorem dX9_allocate_61 : decode cX9_allocate 61 = .ok (.goto 22, 3) := by decide +kernel
theorem dX9_allocate_64 : decode cX9_allocate 64 = .ok (.iload 4, 2) := by decide +kernel
theorem dX9_allocate_66 : decode cX9_allocate 66 = .ok (.ifCond .ne 7, 3) := by decide +kernel
theorem dX9_allocate_69 : decode cX9_allocate 69 = .ok (.iconst 2, 1) := by decide +kernel
theorem dX9_allocate_70 : decode cX9_allocate 70 = .ok (.goto 13, 3) := by decide +kernel
theorem dX9_allocate_73 : decode cX9_allocate 73 = .ok (.iload 5, 2) := by decide +kernel
theorem dX9_allocate_75 : decode cX9_allocate 75 = .ok (.ifCond .eq 7, 3) := by decide +kernel
theorem dX9_allocate_78 : decode cX9_allocate 78 = .ok (.iconst 0, 1) := by decide +kernel
theorem dX9_allocate_79 : decode cX9_allocate 79 = .ok (.goto 4, 3) := by decide +kernel
theorem dX9_allocate_82 : decode cX9_allocate 82 = .ok (.iconst 3, 1) := by decide +kernel
theorem dX9_allocate_83 : decode cX9_allocate 83 = .ok (.invokevirtual 92, 3) := by decide +kernel
theorem dX9_allocate_86 : decode cX9_allocate 86 = .ok (.ifCond .ne 5, 3) := by decide +kernel
theorem dX9_allocate_89 : decode cX9_allocate 89 = .ok (.iconst 0, 1) := by decide +kernel
theorem dX9_allocate_90 : decode cX9_allocate 90 = .ok (.ireturn, 1) := by decide +kernel
theorem dX9_allocate_91 : decode cX9_allocate 91 = .ok (.aload_n 0, 1) := by decide +kernel
theorem dX9_allocate_92 : decode cX9_allocate 92 = .ok (.getfield 56, 3) := by decide +kernel
theorem dX9_allocate_95 : decode cX9_allocate 95 = .ok (.bipush 100, 2) := by decide +kernel
theorem dX9_allocate_97 : decode cX9_allocate 97 = .ok (.iload_n 1, 1) := by decide +kernel
theorem dX9_allocate_98 : decode cX9_allocate 98 = .ok (.imul, 1) := by decide +kernel
theorem dX9_allocate_99 : decode cX9_allocate 99 = .ok (.iload_n 2, 1) := by decide +kernel
theorem dX9_allocate_100 : decode cX9_allocate 100 = .ok (.iadd, 1) := by decide +kernel
theorem dX9_allocate_101 : decode cX9_allocate 101 = .ok (.iconst 1, 1) := by decide +kernel
theorem dX9_allocate_102 : decode cX9_allocate 102 = .ok (.bastore, 1) := by decide +kernel
theorem dX9_allocate_103 : decode cX9_allocate 103 = .ok (.aload_n 0, 1) := by decide +kernel
theorem dX9_allocate_104 : decode cX9_allocate 104 = .ok (.getfield 62, 3) := by decide +kernel
theorem dX9_allocate_107 : decode cX9_allocate 107 = .ok (.iload_n 1, 1) := by decide +kernel
theorem dX9_allocate_108 : decode cX9_allocate 108 = .ok (.dup2, 1) := by decide +kernel
theorem dX9_allocate_109 : decode cX9_allocate 109 = .ok (.iaload, 1) := by decide +kernel
theorem dX9_allocate_110 : decode cX9_allocate 110 = .ok (.iconst 1, 1) := by decide +kernel
theorem dX9_allocate_111 : decode cX9_allocate 111 = .ok (.iadd, 1) := by decide +kernel
theorem dX9_allocate_112 : decode cX9_allocate 112 = .ok (.iastore, 1) := by decide +kernel
theorem dX9_allocate_113 : decode cX9_allocate 113 = .ok (.aload_n 0, 1) := by decide +kernel
theorem dX9_allocate_114 : decode cX9_allocate 114 = .ok (.getfield 62, 3) := by decide +kernel
theorem dX9_allocate_117 : decode cX9_allocate 117 = .ok (.iload_n 1, 1) := by decide +kernel
theorem dX9_allocate_118 : decode cX9_allocate 118 = .ok (.iaload, 1) := by decide +kernel
theorem dX9_allocate_119 : decode cX9_allocate 119 = .ok (.ireturn, 1) := by decide +kernel
theorem dX9_seen_0 : decode cX9_seen 0 = .ok (.aload_n 0, 1) := by decide +kernel
theorem dX9_seen_1 : decode cX9_seen 1 = .ok (.iload_n 1, 1) := by decide +kernel
theorem dX9_seen_2 : decode cX9_seen 2 = .ok (.invokestatic 120, 3) := by decide +kernel
theorem dX9_seen_5 : decode cX9_seen 5 = .ok (.ifCond .ne 7, 3) := by decide +kernel
theorem dX9_seen_8 : decode cX9_seen 8 = .ok (.iconst 1, 1) := by decide +kernel
theorem dX9_seen_9 : decode cX9_seen 9 = .ok (.goto 18, 3) := by decide +kernel
theorem dX9_seen_12 : decode cX9_seen 12 = .ok (.iload_n 2, 1) := by decide +kernel
theorem dX9_seen_13 : decode cX9_seen 13 = .ok (.iconst 0, 1) := by decide +kernel
theorem dX9_seen_14 : decode cX9_seen 14 = .ok (.bipush 99, 2) := by decide +kernel
theorem dX9_seen_16 : decode cX9_seen 16 = .ok (.invokestatic 84, 3) := by decide +kernel
theorem dX9_seen_19 : decode cX9_seen 19 = .ok (.ifCond .eq 7, 3) := by decide +kernel
theorem dX9_seen_22 : decode cX9_seen 22 = .ok (.iconst 0, 1) := by decide +kernel
theorem dX9_seen_23 : decode cX9_seen 23 = .ok (.goto 4, 3) := by decide +kernel
theorem dX9_seen_26 : decode cX9_seen 26 = .ok (.iconst 2, 1) := by decide +kernel
theorem dX9_seen_27 : decode cX9_seen 27 = .ok (.invokevirtual 92, 3) := by decide +kernel
theorem dX9_seen_30 : decode cX9_seen 30 = .ok (.ifCond .ne 5, 3) := by decide +kernel
theorem dX9_seen_33 : decode cX9_seen 33 = .ok (.iconst 0, 1) := by decide +kernel
theorem dX9_seen_34 : decode cX9_seen 34 = .ok (.ireturn, 1) := by decide +kernel
theorem dX9_seen_35 : decode cX9_seen 35 = .ok (.bipush 100, 2) := by decide +kernel
theorem dX9_seen_37 : decode cX9_seen 37 = .ok (.iload_n 1, 1) := by decide +kernel
theorem dX9_seen_38 : decode cX9_seen 38 = .ok (.imul, 1) := by decide +kernel
theorem dX9_seen_39 : decode cX9_seen 39 = .ok (.iload_n 2, 1) := by decide +kernel
theorem dX9_seen_40 : decode cX9_seen 40 = .ok (.iadd, 1) := by decide +kernel
theorem dX9_seen_41 : decode cX9_seen 41 = .ok (.istore_n 3, 1) := by decide +kernel
theorem dX9_seen_42 : decode cX9_seen 42 = .ok (.aload_n 0, 1) := by decide +kernel
theorem dX9_seen_43 : decode cX9_seen 43 = .ok (.getfield 56, 3) := by decide +kernel
theorem dX9_seen_46 : decode cX9_seen 46 = .ok (.iload_n 3, 1) := by decide +kernel
theorem dX9_seen_47 : decode cX9_seen 47 = .ok (.baload, 1) := by decide +kernel
theorem dX9_seen_48 : decode cX9_seen 48 = .ok (.ifCond .ne 12, 3) := by decide +kernel
theorem dX9_seen_51 : decode cX9_seen 51 = .ok (.aload_n 0, 1) := by decide +kernel
theorem dX9_seen_52 : decode cX9_seen 52 = .ok (.getfield 59, 3) := by decide +kernel
theorem dX9_seen_55 : decode cX9_seen 55 = .ok (.iload_n 3, 1) := by decide +kernel
theorem dX9_seen_56 : decode cX9_seen 56 = .ok (.baload, 1) := by decide +kernel
theorem dX9_seen_57 : decode cX9_seen 57 = .ok (.ifCond .eq 7, 3) := by decide +kernel
theorem dX9_seen_60 : decode cX9_seen 60 = .ok (.iconst 0, 1) := by decide +kernel
theorem dX9_seen_61 : decode cX9_seen 61 = .ok (.goto 6, 3) := by decide +kernel
theorem dX9_seen_64 : decode cX9_seen 64 = .ok (.sipush 600, 3) := by decide +kernel
theorem dX9_seen_67 : decode cX9_seen 67 = .ok (.istore 4, 2) := by decide +kernel
theorem dX9_seen_69 : decode cX9_seen 69 = .ok (.aload_n 0, 1) := by decide +kernel
theorem dX9_seen_70 : decode cX9_seen 70 = .ok (.getfield 59, 3) := by decide +kernel
theorem dX9_seen_73 : decode cX9_seen 73 = .ok (.iload_n 3, 1) := by decide +kernel
theorem dX9_seen_74 : decode cX9_seen 74 = .ok (.aload_n 0, 1) := by decide +kernel
theorem dX9_seen_75 : decode cX9_seen 75 = .ok (.getfield 59, 3) := by decide +kernel
theorem dX9_seen_78 : decode cX9_seen 78 = .ok (.iload_n 3, 1) := by decide +kernel
theorem dX9_seen_79 : decode cX9_seen 79 = .ok (.baload, 1) := by decide +kernel
theorem dX9_seen_80 : decode cX9_seen 80 = .ok (.ifCond .ne 8, 3) := by decide +kernel
theorem dX9_seen_83 : decode cX9_seen 83 = .ok (.iload 4, 2) := by decide +kernel
theorem dX9_seen_85 : decode cX9_seen 85 = .ok (.ifCond .le 7, 3) := by decide +kernel
theorem dX9_seen_88 : decode cX9_seen 88 = .ok (.iconst 1, 1) := by decide +kernel
theorem dX9_seen_89 : decode cX9_seen 89 = .ok (.goto 4, 3) := by decide +kernel
theorem dX9_seen_92 : decode cX9_seen 92 = .ok (.iconst 0, 1) := by decide +kernel
theorem dX9_seen_93 : decode cX9_seen 93 = .ok (.bastore, 1) := by decide +kernel
theorem dX9_seen_94 : decode cX9_seen 94 = .ok (.aload_n 0, 1) := by decide +kernel
theorem dX9_seen_95 : decode cX9_seen 95 = .ok (.getfield 41, 3) := by decide +kernel
theorem dX9_seen_98 : decode cX9_seen 98 = .ok (.iload_n 1, 1) := by decide +kernel
theorem dX9_seen_99 : decode cX9_seen 99 = .ok (.dup2, 1) := by decide +kernel
theorem dX9_seen_100 : decode cX9_seen 100 = .ok (.iaload, 1) := by decide +kernel
theorem dX9_seen_101 : decode cX9_seen 101 = .ok (.iload 4, 2) := by decide +kernel
theorem dX9_seen_103 : decode cX9_seen 103 = .ok (.iadd, 1) := by decide +kernel
theorem dX9_seen_104 : decode cX9_seen 104 = .ok (.iastore, 1) := by decide +kernel
theorem dX9_seen_105 : decode cX9_seen 105 = .ok (.iload 4, 2) := by decide +kernel
theorem dX9_seen_107 : decode cX9_seen 107 = .ok (.ireturn, 1) := by decide +kernel
theorem dX9_retire_0 : decode cX9_retire 0 = .ok (.iload_n 1, 1) := by decide +kernel
theorem dX9_retire_1 : decode cX9_retire 1 = .ok (.invokestatic 120, 3) := by decide +kernel
theorem dX9_retire_4 : decode cX9_retire 4 = .ok (.istore_n 3, 1) := by decide +kernel
theorem dX9_retire_5 : decode cX9_retire 5 = .ok (.aload_n 0, 1) := by decide +kernel
theorem dX9_retire_6 : decode cX9_retire 6 = .ok (.iload_n 3, 1) := by decide +kernel
theorem dX9_retire_7 : decode cX9_retire 7 = .ok (.ifCond .ne 7, 3) := by decide +kernel
theorem dX9_retire_10 : decode cX9_retire 10 = .ok (.iconst 1, 1) := by decide +kernel
theorem dX9_retire_11 : decode cX9_retire 11 = .ok (.goto 26, 3) := by decide +kernel
theorem dX9_retire_14 : decode cX9_retire 14 = .ok (.aload_n 0, 1) := by decide +kernel
theorem dX9_retire_15 : decode cX9_retire 15 = .ok (.getfield 50, 3) := by decide +kernel
theorem dX9_retire_18 : decode cX9_retire 18 = .ok (.iload_n 1, 1) := by decide +kernel
theorem dX9_retire_19 : decode cX9_retire 19 = .ok (.baload, 1) := by decide +kernel
theorem dX9_retire_20 : decode cX9_retire 20 = .ok (.ifCond .ne 12, 3) := by decide +kernel
theorem dX9_retire_23 : decode cX9_retire 23 = .ok (.aload_n 0, 1) := by decide +kernel
theorem dX9_retire_24 : decode cX9_retire 24 = .ok (.getfield 47, 3) := by decide +kernel
theorem dX9_retire_27 : decode cX9_retire 27 = .ok (.iload_n 1, 1) := by decide +kernel
theorem dX9_retire_28 : decode cX9_retire 28 = .ok (.baload, 1) := by decide +kernel
theorem dX9_retire_29 : decode cX9_retire 29 = .ok (.ifCond .eq 7, 3) := by decide +kernel
theorem dX9_retire_32 : decode cX9_retire 32 = .ok (.iconst 2, 1) := by decide +kernel
theorem dX9_retire_33 : decode cX9_retire 33 = .ok (.goto 4, 3) := by decide +kernel
theorem dX9_retire_36 : decode cX9_retire 36 = .ok (.iconst 0, 1) := by decide +kernel
theorem dX9_retire_37 : decode cX9_retire 37 = .ok (.invokevirtual 92, 3) := by decide +kernel
theorem dX9_retire_40 : decode cX9_retire 40 = .ok (.ifCond .eq 17, 3) := by decide +kernel
theorem dX9_retire_43 : decode cX9_retire 43 = .ok (.aload_n 0, 1) := by decide +kernel
theorem dX9_retire_44 : decode cX9_retire 44 = .ok (.getfield 50, 3) := by decide +kernel
theorem dX9_retire_47 : decode cX9_retire 47 = .ok (.iload_n 1, 1) := by decide +kernel
theorem dX9_retire_48 : decode cX9_retire 48 = .ok (.iconst 1, 1) := by decide +kernel
theorem dX9_retire_49 : decode cX9_retire 49 = .ok (.bastore, 1) := by decide +kernel
theorem dX9_retire_50 : decode cX9_retire 50 = .ok (.aload_n 0, 1) := by decide +kernel
theorem dX9_retire_51 : decode cX9_retire 51 = .ok (.getfield 53, 3) := by decide +kernel
theorem dX9_retire_54 : decode cX9_retire 54 = .ok (.iload_n 1, 1) := by decide +kernel
theorem dX9_retire_55 : decode cX9_retire 55 = .ok (.iload_n 2, 1) := by decide +kernel
theorem dX9_retire_56 : decode cX9_retire 56 = .ok (.bastore, 1) := by decide +kernel
theorem dX9_retire_57 : decode cX9_retire 57 = .ok (.return_, 1) := by decide +kernel
theorem dX9_bestOf_0 : decode cX9_bestOf 0 = .ok (.iconst (-1), 1) := by decide +kernel
theorem dX9_bestOf_1 : decode cX9_bestOf 1 = .ok (.istore_n 2, 1) := by decide +kernel
theorem dX9_bestOf_2 : decode cX9_bestOf 2 = .ok (.iconst 0, 1) := by decide +kernel
theorem dX9_bestOf_3 : decode cX9_bestOf 3 = .ok (.istore_n 3, 1) := by decide +kernel
theorem dX9_bestOf_4 : decode cX9_bestOf 4 = .ok (.iload_n 3, 1) := by decide +kernel
theorem dX9_bestOf_5 : decode cX9_bestOf 5 = .ok (.bipush 10, 2) := by decide +kernel
theorem dX9_bestOf_7 : decode cX9_bestOf 7 = .ok (.if_icmp .ge 41, 3) := by decide +kernel
theorem dX9_bestOf_10 : decode cX9_bestOf 10 = .ok (.aload_n 0, 1) := by decide +kernel
theorem dX9_bestOf_11 : decode cX9_bestOf 11 = .ok (.iload_n 3, 1) := by decide +kernel
theorem dX9_bestOf_12 : decode cX9_bestOf 12 = .ok (.iload_n 1, 1) := by decide +kernel
theorem dX9_bestOf_13 : decode cX9_bestOf 13 = .ok (.invokevirtual 153, 3) := by decide +kernel
theorem dX9_bestOf_16 : decode cX9_bestOf 16 = .ok (.istore 4, 2) := by decide +kernel
theorem dX9_bestOf_18 : decode cX9_bestOf 18 = .ok (.iload 4, 2) := by decide +kernel
theorem dX9_bestOf_20 : decode cX9_bestOf 20 = .ok (.iconst (-1), 1) := by decide +kernel
theorem dX9_bestOf_21 : decode cX9_bestOf 21 = .ok (.if_icmp .eq 19, 3) := by decide +kernel
theorem dX9_bestOf_24 : decode cX9_bestOf 24 = .ok (.iload_n 2, 1) := by decide +kernel
theorem dX9_bestOf_25 : decode cX9_bestOf 25 = .ok (.iconst (-1), 1) := by decide +kernel
theorem dX9_bestOf_26 : decode cX9_bestOf 26 = .ok (.if_icmp .eq 9, 3) := by decide +kernel
theorem dX9_bestOf_29 : decode cX9_bestOf 29 = .ok (.iload 4, 2) := by decide +kernel
theorem dX9_bestOf_31 : decode cX9_bestOf 31 = .ok (.iload_n 2, 1) := by decide +kernel
theorem dX9_bestOf_32 : decode cX9_bestOf 32 = .ok (.if_icmp .ge 8, 3) := by decide +kernel
theorem dX9_bestOf_35 : decode cX9_bestOf 35 = .ok (.iload 4, 2) := by decide +kernel
theorem dX9_bestOf_37 : decode cX9_bestOf 37 = .ok (.goto 4, 3) := by decide +kernel
theorem dX9_bestOf_40 : decode cX9_bestOf 40 = .ok (.iload_n 2, 1) := by decide +kernel
theorem dX9_bestOf_41 : decode cX9_bestOf 41 = .ok (.istore_n 2, 1) := by decide +kernel
theorem dX9_bestOf_42 : decode cX9_bestOf 42 = .ok (.iinc 3 1, 3) := by decide +kernel
theorem dX9_bestOf_45 : decode cX9_bestOf 45 = .ok (.goto (-41), 3) := by decide +kernel
theorem dX9_bestOf_48 : decode cX9_bestOf 48 = .ok (.iload_n 2, 1) := by decide +kernel
theorem dX9_bestOf_49 : decode cX9_bestOf 49 = .ok (.ireturn, 1) := by decide +kernel
theorem dX9_totalOf_0 : decode cX9_totalOf 0 = .ok (.aload_n 0, 1) := by decide +kernel
theorem dX9_totalOf_1 : decode cX9_totalOf 1 = .ok (.getfield 41, 3) := by decide +kernel
theorem dX9_totalOf_4 : decode cX9_totalOf 4 = .ok (.iload_n 1, 1) := by decide +kernel
theorem dX9_totalOf_5 : decode cX9_totalOf 5 = .ok (.iaload, 1) := by decide +kernel
theorem dX9_totalOf_6 : decode cX9_totalOf 6 = .ok (.istore_n 2, 1) := by decide +kernel
theorem dX9_totalOf_7 : decode cX9_totalOf 7 = .ok (.iconst 0, 1) := by decide +kernel
theorem dX9_totalOf_8 : decode cX9_totalOf 8 = .ok (.istore_n 3, 1) := by decide +kernel
theorem dX9_totalOf_9 : decode cX9_totalOf 9 = .ok (.iload_n 3, 1) := by decide +kernel
theorem dX9_totalOf_10 : decode cX9_totalOf 10 = .ok (.aload_n 0, 1) := by decide +kernel
theorem dX9_totalOf_11 : decode cX9_totalOf 11 = .ok (.getfield 77, 3) := by decide +kernel
theorem dX9_totalOf_14 : decode cX9_totalOf 14 = .ok (.if_icmp .ge 64, 3) := by decide +kernel
theorem dX9_totalOf_17 : decode cX9_totalOf 17 = .ok (.aload_n 0, 1) := by decide +kernel
theorem dX9_totalOf_18 : decode cX9_totalOf 18 = .ok (.getfield 7, 3) := by decide +kernel
theorem dX9_totalOf_21 : decode cX9_totalOf 21 = .ok (.iload_n 3, 1) := by decide +kernel
theorem dX9_totalOf_22 : decode cX9_totalOf 22 = .ok (.iaload, 1) := by decide +kernel
theorem dX9_totalOf_23 : decode cX9_totalOf 23 = .ok (.iconst 2, 1) := by decide +kernel
theorem dX9_totalOf_24 : decode cX9_totalOf 24 = .ok (.if_icmp .ne 48, 3) := by decide +kernel
theorem dX9_totalOf_27 : decode cX9_totalOf 27 = .ok (.aload_n 0, 1) := by decide +kernel
theorem dX9_totalOf_28 : decode cX9_totalOf 28 = .ok (.iload_n 1, 1) := by decide +kernel
theorem dX9_totalOf_29 : decode cX9_totalOf 29 = .ok (.iload_n 3, 1) := by decide +kernel
theorem dX9_totalOf_30 : decode cX9_totalOf 30 = .ok (.invokevirtual 153, 3) := by decide +kernel
theorem dX9_totalOf_33 : decode cX9_totalOf 33 = .ok (.istore 4, 2) := by decide +kernel
theorem dX9_totalOf_35 : decode cX9_totalOf 35 = .ok (.aload_n 0, 1) := by decide +kernel
theorem dX9_totalOf_36 : decode cX9_totalOf 36 = .ok (.iload_n 3, 1) := by decide +kernel
theorem dX9_totalOf_37 : decode cX9_totalOf 37 = .ok (.invokevirtual 157, 3) := by decide +kernel
theorem dX9_totalOf_40 : decode cX9_totalOf 40 = .ok (.istore 5, 2) := by decide +kernel
theorem dX9_totalOf_42 : decode cX9_totalOf 42 = .ok (.iload_n 2, 1) := by decide +kernel
theorem dX9_totalOf_43 : decode cX9_totalOf 43 = .ok (.iload 4, 2) := by decide +kernel
theorem dX9_totalOf_45 : decode cX9_totalOf 45 = .ok (.iconst (-1), 1) := by decide +kernel
theorem dX9_totalOf_46 : decode cX9_totalOf 46 = .ok (.if_icmp .eq 8, 3) := by decide +kernel
theorem dX9_totalOf_49 : decode cX9_totalOf 49 = .ok (.iload 4, 2) := by decide +kernel
theorem dX9_totalOf_51 : decode cX9_totalOf 51 = .ok (.goto 19, 3) := by decide +kernel
theorem dX9_totalOf_54 : decode cX9_totalOf 54 = .ok (.iload 5, 2) := by decide +kernel
theorem dX9_totalOf_56 : decode cX9_totalOf 56 = .ok (.iconst (-1), 1) := by decide +kernel
theorem dX9_totalOf_57 : decode cX9_totalOf 57 = .ok (.if_icmp .ne 7, 3) := by decide +kernel
theorem dX9_totalOf_60 : decode cX9_totalOf 60 = .ok (.iconst 0, 1) := by decide +kernel
theorem dX9_totalOf_61 : decode cX9_totalOf 61 = .ok (.goto 9, 3) := by decide +kernel
theorem dX9_totalOf_64 : decode cX9_totalOf 64 = .ok (.iload 5, 2) := by decide +kernel
theorem dX9_totalOf_66 : decode cX9_totalOf 66 = .ok (.sipush 6000, 3) := by decide +kernel
theorem dX9_totalOf_69 : decode cX9_totalOf 69 = .ok (.iadd, 1) := by decide +kernel
theorem dX9_totalOf_70 : decode cX9_totalOf 70 = .ok (.iadd, 1) := by decide +kernel
theorem dX9_totalOf_71 : decode cX9_totalOf 71 = .ok (.istore_n 2, 1) := by decide +kernel
theorem dX9_totalOf_72 : decode cX9_totalOf 72 = .ok (.iinc 3 1, 3) := by decide +kernel
theorem dX9_totalOf_75 : decode cX9_totalOf 75 = .ok (.goto (-66), 3) := by decide +kernel
theorem dX9_totalOf_78 : decode cX9_totalOf 78 = .ok (.iload_n 2, 1) := by decide +kernel
theorem dX9_totalOf_79 : decode cX9_totalOf 79 = .ok (.ireturn, 1) := by decide +kernel
theorem dX9_isRanked_0 : decode cX9_isRanked 0 = .ok (.aload_n 0, 1) := by decide +kernel
theorem dX9_isRanked_1 : decode cX9_isRanked 1 = .ok (.getfield 22, 3) := by decide +kernel
theorem dX9_isRanked_4 : decode cX9_isRanked 4 = .ok (.iload_n 1, 1) := by decide +kernel
theorem dX9_isRanked_5 : decode cX9_isRanked 5 = .ok (.iaload, 1) := by decide +kernel
theorem dX9_isRanked_6 : decode cX9_isRanked 6 = .ok (.iconst (-1), 1) := by decide +kernel
theorem dX9_isRanked_7 : decode cX9_isRanked 7 = .ok (.if_icmp .eq 25, 3) := by decide +kernel
theorem dX9_isRanked_10 : decode cX9_isRanked 10 = .ok (.aload_n 0, 1) := by decide +kernel
theorem dX9_isRanked_11 : decode cX9_isRanked 11 = .ok (.getfield 47, 3) := by decide +kernel
theorem dX9_isRanked_14 : decode cX9_isRanked 14 = .ok (.iload_n 1, 1) := by decide +kernel
theorem dX9_isRanked_15 : decode cX9_isRanked 15 = .ok (.baload, 1) := by decide +kernel
theorem dX9_isRanked_16 : decode cX9_isRanked 16 = .ok (.ifCond .ne 16, 3) := by decide +kernel
theorem dX9_isRanked_19 : decode cX9_isRanked 19 = .ok (.aload_n 0, 1) := by decide +kernel
theorem dX9_isRanked_20 : decode cX9_isRanked 20 = .ok (.getfield 50, 3) := by decide +kernel
theorem dX9_isRanked_23 : decode cX9_isRanked 23 = .ok (.iload_n 1, 1) := by decide +kernel
theorem dX9_isRanked_24 : decode cX9_isRanked 24 = .ok (.baload, 1) := by decide +kernel
theorem dX9_isRanked_25 : decode cX9_isRanked 25 = .ok (.ifCond .ne 7, 3) := by decide +kernel
theorem dX9_isRanked_28 : decode cX9_isRanked 28 = .ok (.iconst 1, 1) := by decide +kernel
theorem dX9_isRanked_29 : decode cX9_isRanked 29 = .ok (.goto 4, 3) := by decide +kernel
theorem dX9_isRanked_32 : decode cX9_isRanked 32 = .ok (.iconst 0, 1) := by decide +kernel
theorem dX9_isRanked_33 : decode cX9_isRanked 33 = .ok (.ireturn, 1) := by decide +kernel
theorem dX9_isAhead_0 : decode cX9_isAhead 0 = .ok (.aload_n 0, 1) := by decide +kernel
theorem dX9_isAhead_1 : decode cX9_isAhead 1 = .ok (.getfield 71, 3) := by decide +kernel
theorem dX9_isAhead_4 : decode cX9_isAhead 4 = .ok (.iload_n 1, 1) := by decide +kernel
theorem dX9_isAhead_5 : decode cX9_isAhead 5 = .ok (.iaload, 1) := by decide +kernel
theorem dX9_isAhead_6 : decode cX9_isAhead 6 = .ok (.aload_n 0, 1) := by decide +kernel
theorem dX9_isAhead_7 : decode cX9_isAhead 7 = .ok (.getfield 71, 3) := by decide +kernel
theorem dX9_isAhead_10 : decode cX9_isAhead 10 = .ok (.iload_n 2, 1) := by decide +kernel
theorem dX9_isAhead_11 : decode cX9_isAhead 11 = .ok (.iaload, 1) := by decide +kernel
theorem dX9_isAhead_12 : decode cX9_isAhead 12 = .ok (.isub, 1) := by decide +kernel
theorem dX9_isAhead_13 : decode cX9_isAhead 13 = .ok (.istore_n 3, 1) := by decide +kernel
theorem dX9_isAhead_14 : decode cX9_isAhead 14 = .ok (.iconst 0, 1) := by decide +kernel
theorem dX9_isAhead_15 : decode cX9_isAhead 15 = .ok (.istore 4, 2) := by decide +kernel
theorem dX9_isAhead_17 : decode cX9_isAhead 17 = .ok (.iload 4, 2) := by decide +kernel
theorem dX9_isAhead_19 : decode cX9_isAhead 19 = .ok (.aload_n 0, 1) := by decide +kernel
theorem dX9_isAhead_20 : decode cX9_isAhead 20 = .ok (.getfield 77, 3) := by decide +kernel
theorem dX9_isAhead_23 : decode cX9_isAhead 23 = .ok (.if_icmp .ge 70, 3) := by decide +kernel
theorem dX9_isAhead_26 : decode cX9_isAhead 26 = .ok (.iload_n 3, 1) := by decide +kernel
theorem dX9_isAhead_27 : decode cX9_isAhead 27 = .ok (.ifCond .ne 66, 3) := by decide +kernel
theorem dX9_isAhead_30 : decode cX9_isAhead 30 = .ok (.aload_n 0, 1) := by decide +kernel
theorem dX9_isAhead_31 : decode cX9_isAhead 31 = .ok (.getfield 7, 3) := by decide +kernel
theorem dX9_isAhead_34 : decode cX9_isAhead 34 = .ok (.iload 4, 2) := by decide +kernel
theorem dX9_isAhead_36 : decode cX9_isAhead 36 = .ok (.iaload, 1) := by decide +kernel
theorem dX9_isAhead_37 : decode cX9_isAhead 37 = .ok (.iconst 2, 1) := by decide +kernel
theorem dX9_isAhead_38 : decode cX9_isAhead 38 = .ok (.if_icmp .ne 49, 3) := by decide +kernel
theorem dX9_isAhead_41 : decode cX9_isAhead 41 = .ok (.aload_n 0, 1) := by decide +kernel
theorem dX9_isAhead_42 : decode cX9_isAhead 42 = .ok (.iload_n 1, 1) := by decide +kernel
theorem dX9_isAhead_43 : decode cX9_isAhead 43 = .ok (.iload 4, 2) := by decide +kernel
theorem dX9_isAhead_45 : decode cX9_isAhead 45 = .ok (.invokevirtual 153, 3) := by decide +kernel
theorem dX9_isAhead_48 : decode cX9_isAhead 48 = .ok (.istore 5, 2) := by decide +kernel
theorem dX9_isAhead_50 : decode cX9_isAhead 50 = .ok (.aload_n 0, 1) := by decide +kernel
theorem dX9_isAhead_51 : decode cX9_isAhead 51 = .ok (.iload_n 2, 1) := by decide +kernel
theorem dX9_isAhead_52 : decode cX9_isAhead 52 = .ok (.iload 4, 2) := by decide +kernel
theorem dX9_isAhead_54 : decode cX9_isAhead 54 = .ok (.invokevirtual 153, 3) := by decide +kernel
theorem dX9_isAhead_57 : decode cX9_isAhead 57 = .ok (.istore 6, 2) := by decide +kernel
theorem dX9_isAhead_59 : decode cX9_isAhead 59 = .ok (.iload 5, 2) := by decide +kernel
theorem dX9_isAhead_61 : decode cX9_isAhead 61 = .ok (.iconst (-1), 1) := by decide +kernel
theorem dX9_isAhead_62 : decode cX9_isAhead 62 = .ok (.if_icmp .ne 8, 3) := by decide +kernel
theorem dX9_isAhead_65 : decode cX9_isAhead 65 = .ok (.ldc 160, 2) := by decide +kernel
theorem dX9_isAhead_67 : decode cX9_isAhead 67 = .ok (.goto 5, 3) := by decide +kernel
theorem dX9_isAhead_70 : decode cX9_isAhead 70 = .ok (.iload 5, 2) := by decide +kernel
theorem dX9_isAhead_72 : decode cX9_isAhead 72 = .ok (.iload 6, 2) := by decide +kernel
theorem dX9_isAhead_74 : decode cX9_isAhead 74 = .ok (.iconst (-1), 1) := by decide +kernel
theorem dX9_isAhead_75 : decode cX9_isAhead 75 = .ok (.if_icmp .ne 8, 3) := by decide +kernel
theorem dX9_isAhead_78 : decode cX9_isAhead 78 = .ok (.ldc 160, 2) := by decide +kernel
theorem dX9_isAhead_80 : decode cX9_isAhead 80 = .ok (.goto 5, 3) := by decide +kernel
theorem dX9_isAhead_83 : decode cX9_isAhead 83 = .ok (.iload 6, 2) := by decide +kernel
theorem dX9_isAhead_85 : decode cX9_isAhead 85 = .ok (.isub, 1) := by decide +kernel
theorem dX9_isAhead_86 : decode cX9_isAhead 86 = .ok (.istore_n 3, 1) := by decide +kernel
theorem dX9_isAhead_87 : decode cX9_isAhead 87 = .ok (.iinc 4 1, 3) := by decide +kernel
theorem dX9_isAhead_90 : decode cX9_isAhead 90 = .ok (.goto (-73), 3) := by decide +kernel
theorem dX9_isAhead_93 : decode cX9_isAhead 93 = .ok (.iload_n 3, 1) := by decide +kernel
theorem dX9_isAhead_94 : decode cX9_isAhead 94 = .ok (.ifCond .lt 12, 3) := by decide +kernel
theorem dX9_isAhead_97 : decode cX9_isAhead 97 = .ok (.iload_n 3, 1) := by decide +kernel
theorem dX9_isAhead_98 : decode cX9_isAhead 98 = .ok (.ifCond .ne 12, 3) := by decide +kernel
theorem dX9_isAhead_101 : decode cX9_isAhead 101 = .ok (.iload_n 1, 1) := by decide +kernel
theorem dX9_isAhead_102 : decode cX9_isAhead 102 = .ok (.iload_n 2, 1) := by decide +kernel
theorem dX9_isAhead_103 : decode cX9_isAhead 103 = .ok (.if_icmp .ge 7, 3) := by decide +kernel
theorem dX9_isAhead_106 : decode cX9_isAhead 106 = .ok (.iconst 1, 1) := by decide +kernel
theorem dX9_isAhead_107 : decode cX9_isAhead 107 = .ok (.goto 4, 3) := by decide +kernel
theorem dX9_isAhead_110 : decode cX9_isAhead 110 = .ok (.iconst 0, 1) := by decide +kernel
theorem dX9_isAhead_111 : decode cX9_isAhead 111 = .ok (.ireturn, 1) := by decide +kernel
theorem dX9_laysRanks_0 : decode cX9_laysRanks 0 = .ok (.iconst 0, 1) := by decide +kernel
theorem dX9_laysRanks_1 : decode cX9_laysRanks 1 = .ok (.istore_n 2, 1) := by decide +kernel
theorem dX9_laysRanks_2 : decode cX9_laysRanks 2 = .ok (.iload_n 2, 1) := by decide +kernel
theorem dX9_laysRanks_3 : decode cX9_laysRanks 3 = .ok (.bipush 10, 2) := by decide +kernel
theorem dX9_laysRanks_5 : decode cX9_laysRanks 5 = .ok (.if_icmp .ge 20, 3) := by decide +kernel
theorem dX9_laysRanks_8 : decode cX9_laysRanks 8 = .ok (.aload_n 0, 1) := by decide +kernel
theorem dX9_laysRanks_9 : decode cX9_laysRanks 9 = .ok (.getfield 71, 3) := by decide +kernel
theorem dX9_laysRanks_12 : decode cX9_laysRanks 12 = .ok (.iload_n 2, 1) := by decide +kernel
theorem dX9_laysRanks_13 : decode cX9_laysRanks 13 = .ok (.aload_n 0, 1) := by decide +kernel
theorem dX9_laysRanks_14 : decode cX9_laysRanks 14 = .ok (.iload_n 2, 1) := by decide +kernel
theorem dX9_laysRanks_15 : decode cX9_laysRanks 15 = .ok (.invokevirtual 161, 3) := by decide +kernel
theorem dX9_laysRanks_18 : decode cX9_laysRanks 18 = .ok (.iastore, 1) := by decide +kernel
theorem dX9_laysRanks_19 : decode cX9_laysRanks 19 = .ok (.iinc 2 1, 3) := by decide +kernel
theorem dX9_laysRanks_22 : decode cX9_laysRanks 22 = .ok (.goto (-20), 3) := by decide +kernel
theorem dX9_laysRanks_25 : decode cX9_laysRanks 25 = .ok (.iconst 0, 1) := by decide +kernel
theorem dX9_laysRanks_26 : decode cX9_laysRanks 26 = .ok (.istore_n 2, 1) := by decide +kernel
theorem dX9_laysRanks_27 : decode cX9_laysRanks 27 = .ok (.iload_n 2, 1) := by decide +kernel
theorem dX9_laysRanks_28 : decode cX9_laysRanks 28 = .ok (.bipush 10, 2) := by decide +kernel
theorem dX9_laysRanks_30 : decode cX9_laysRanks 30 = .ok (.if_icmp .ge 96, 3) := by decide +kernel
theorem dX9_laysRanks_33 : decode cX9_laysRanks 33 = .ok (.aload_n 0, 1) := by decide +kernel
theorem dX9_laysRanks_34 : decode cX9_laysRanks 34 = .ok (.getfield 68, 3) := by decide +kernel
theorem dX9_laysRanks_37 : decode cX9_laysRanks 37 = .ok (.iload_n 2, 1) := by decide +kernel
theorem dX9_laysRanks_38 : decode cX9_laysRanks 38 = .ok (.iload_n 1, 1) := by decide +kernel
theorem dX9_laysRanks_39 : decode cX9_laysRanks 39 = .ok (.ifCond .ne 11, 3) := by decide +kernel
theorem dX9_laysRanks_42 : decode cX9_laysRanks 42 = .ok (.aload_n 0, 1) := by decide +kernel
theorem dX9_laysRanks_43 : decode cX9_laysRanks 43 = .ok (.iload_n 2, 1) := by decide +kernel
theorem dX9_laysRanks_44 : decode cX9_laysRanks 44 = .ok (.invokevirtual 164, 3) := by decide +kernel
theorem dX9_laysRanks_47 : decode cX9_laysRanks 47 = .ok (.ifCond .eq 7, 3) := by decide +kernel
theorem dX9_laysRanks_50 : decode cX9_laysRanks 50 = .ok (.iconst 0, 1) := by decide +kernel
theorem dX9_laysRanks_51 : decode cX9_laysRanks 51 = .ok (.goto 4, 3) := by decide +kernel
theorem dX9_laysRanks_54 : decode cX9_laysRanks 54 = .ok (.iconst (-1), 1) := by decide +kernel
theorem dX9_laysRanks_55 : decode cX9_laysRanks 55 = .ok (.iastore, 1) := by decide +kernel
theorem dX9_laysRanks_56 : decode cX9_laysRanks 56 = .ok (.iconst 0, 1) := by decide +kernel
theorem dX9_laysRanks_57 : decode cX9_laysRanks 57 = .ok (.istore_n 3, 1) := by decide +kernel
theorem dX9_laysRanks_58 : decode cX9_laysRanks 58 = .ok (.iload_n 3, 1) := by decide +kernel
theorem dX9_laysRanks_59 : decode cX9_laysRanks 59 = .ok (.bipush 10, 2) := by decide +kernel
theorem dX9_laysRanks_61 : decode cX9_laysRanks 61 = .ok (.if_icmp .ge 59, 3) := by decide +kernel
theorem dX9_laysRanks_64 : decode cX9_laysRanks 64 = .ok (.aload_n 0, 1) := by decide +kernel
theorem dX9_laysRanks_65 : decode cX9_laysRanks 65 = .ok (.getfield 68, 3) := by decide +kernel
theorem dX9_laysRanks_68 : decode cX9_laysRanks 68 = .ok (.iload_n 2, 1) := by decide +kernel
theorem dX9_laysRanks_69 : decode cX9_laysRanks 69 = .ok (.iaload, 1) := by decide +kernel
theorem dX9_laysRanks_70 : decode cX9_laysRanks 70 = .ok (.iconst (-1), 1) := by decide +kernel
theorem dX9_laysRanks_71 : decode cX9_laysRanks 71 = .ok (.if_icmp .eq 49, 3) := by decide +kernel
theorem dX9_laysRanks_74 : decode cX9_laysRanks 74 = .ok (.aload_n 0, 1) := by decide +kernel
theorem dX9_laysRanks_75 : decode cX9_laysRanks 75 = .ok (.getfield 68, 3) := by decide +kernel
theorem dX9_laysRanks_78 : decode cX9_laysRanks 78 = .ok (.iload_n 2, 1) := by decide +kernel
theorem dX9_laysRanks_79 : decode cX9_laysRanks 79 = .ok (.dup2, 1) := by decide +kernel
theorem dX9_laysRanks_80 : decode cX9_laysRanks 80 = .ok (.iaload, 1) := by decide +kernel
theorem dX9_laysRanks_81 : decode cX9_laysRanks 81 = .ok (.iload_n 3, 1) := by decide +kernel
theorem dX9_laysRanks_82 : decode cX9_laysRanks 82 = .ok (.iload_n 2, 1) := by decide +kernel
theorem dX9_laysRanks_83 : decode cX9_laysRanks 83 = .ok (.if_icmp .eq 28, 3) := by decide +kernel
theorem dX9_laysRanks_86 : decode cX9_laysRanks 86 = .ok (.iload_n 1, 1) := by decide +kernel
theorem dX9_laysRanks_87 : decode cX9_laysRanks 87 = .ok (.ifCond .ne 11, 3) := by decide +kernel
theorem dX9_laysRanks_90 : decode cX9_laysRanks 90 = .ok (.aload_n 0, 1) := by decide +kernel
theorem dX9_laysRanks_91 : decode cX9_laysRanks 91 = .ok (.iload_n 3, 1) := by decide +kernel
theorem dX9_laysRanks_92 : decode cX9_laysRanks 92 = .ok (.invokevirtual 164, 3) := by decide +kernel
theorem dX9_laysRanks_95 : decode cX9_laysRanks 95 = .ok (.ifCond .eq 16, 3) := by decide +kernel
theorem dX9_laysRanks_98 : decode cX9_laysRanks 98 = .ok (.aload_n 0, 1) := by decide +kernel
theorem dX9_laysRanks_99 : decode cX9_laysRanks 99 = .ok (.iload_n 3, 1) := by decide +kernel
theorem dX9_laysRanks_100 : decode cX9_laysRanks 100 = .ok (.iload_n 2, 1) := by decide +kernel
theorem dX9_laysRanks_101 : decode cX9_laysRanks 101 = .ok (.invokevirtual 167, 3) := by decide +kernel
theorem dX9_laysRanks_104 : decode cX9_laysRanks 104 = .ok (.ifCond .eq 7, 3) := by decide +kernel
theorem dX9_laysRanks_107 : decode cX9_laysRanks 107 = .ok (.iconst 1, 1) := by decide +kernel
theorem dX9_laysRanks_108 : decode cX9_laysRanks 108 = .ok (.goto 4, 3) := by decide +kernel
theorem dX9_laysRanks_111 : decode cX9_laysRanks 111 = .ok (.iconst 0, 1) := by decide +kernel
theorem dX9_laysRanks_112 : decode cX9_laysRanks 112 = .ok (.iadd, 1) := by decide +kernel
theorem dX9_laysRanks_113 : decode cX9_laysRanks 113 = .ok (.iastore, 1) := by decide +kernel
theorem dX9_laysRanks_114 : decode cX9_laysRanks 114 = .ok (.iinc 3 1, 3) := by decide +kernel
theorem dX9_laysRanks_117 : decode cX9_laysRanks 117 = .ok (.goto (-59), 3) := by decide +kernel
theorem dX9_laysRanks_120 : decode cX9_laysRanks 120 = .ok (.iinc 2 1, 3) := by decide +kernel
theorem dX9_laysRanks_123 : decode cX9_laysRanks 123 = .ok (.goto (-96), 3) := by decide +kernel
theorem dX9_laysRanks_126 : decode cX9_laysRanks 126 = .ok (.return_, 1) := by decide +kernel
theorem dX9_withRank_0 : decode cX9_withRank 0 = .ok (.iconst (-1), 1) := by decide +kernel
theorem dX9_withRank_1 : decode cX9_withRank 1 = .ok (.istore_n 2, 1) := by decide +kernel
theorem dX9_withRank_2 : decode cX9_withRank 2 = .ok (.iconst 0, 1) := by decide +kernel
theorem dX9_withRank_3 : decode cX9_withRank 3 = .ok (.istore_n 3, 1) := by decide +kernel
theorem dX9_withRank_4 : decode cX9_withRank 4 = .ok (.iload_n 3, 1) := by decide +kernel
theorem dX9_withRank_5 : decode cX9_withRank 5 = .ok (.bipush 10, 2) := by decide +kernel
theorem dX9_withRank_7 : decode cX9_withRank 7 = .ok (.if_icmp .ge 25, 3) := by decide +kernel
theorem dX9_withRank_10 : decode cX9_withRank 10 = .ok (.aload_n 0, 1) := by decide +kernel
theorem dX9_withRank_11 : decode cX9_withRank 11 = .ok (.getfield 68, 3) := by decide +kernel
theorem dX9_withRank_14 : decode cX9_withRank 14 = .ok (.iload_n 3, 1) := by decide +kernel
theorem dX9_withRank_15 : decode cX9_withRank 15 = .ok (.iaload, 1) := by decide +kernel
theorem dX9_withRank_16 : decode cX9_withRank 16 = .ok (.iload_n 1, 1) := by decide +kernel
theorem dX9_withRank_17 : decode cX9_withRank 17 = .ok (.if_icmp .ne 7, 3) := by decide +kernel
theorem dX9_withRank_20 : decode cX9_withRank 20 = .ok (.iload_n 3, 1) := by decide +kernel
theorem dX9_withRank_21 : decode cX9_withRank 21 = .ok (.goto 4, 3) := by decide +kernel
theorem dX9_withRank_24 : decode cX9_withRank 24 = .ok (.iload_n 2, 1) := by decide +kernel
theorem dX9_withRank_25 : decode cX9_withRank 25 = .ok (.istore_n 2, 1) := by decide +kernel
theorem dX9_withRank_26 : decode cX9_withRank 26 = .ok (.iinc 3 1, 3) := by decide +kernel
theorem dX9_withRank_29 : decode cX9_withRank 29 = .ok (.goto (-25), 3) := by decide +kernel
theorem dX9_withRank_32 : decode cX9_withRank 32 = .ok (.iload_n 2, 1) := by decide +kernel
theorem dX9_withRank_33 : decode cX9_withRank 33 = .ok (.ireturn, 1) := by decide +kernel
theorem dX9_car_0 : decode cX9_car 0 = .ok (.aload_n 0, 1) := by decide +kernel
theorem dX9_car_1 : decode cX9_car 1 = .ok (.iload_n 1, 1) := by decide +kernel
theorem dX9_car_2 : decode cX9_car 2 = .ok (.invokestatic 120, 3) := by decide +kernel
theorem dX9_car_5 : decode cX9_car 5 = .ok (.ifCond .ne 7, 3) := by decide +kernel
theorem dX9_car_8 : decode cX9_car 8 = .ok (.iconst 1, 1) := by decide +kernel
theorem dX9_car_9 : decode cX9_car 9 = .ok (.goto 17, 3) := by decide +kernel
theorem dX9_car_12 : decode cX9_car 12 = .ok (.iload_n 2, 1) := by decide +kernel
theorem dX9_car_13 : decode cX9_car 13 = .ok (.iconst 0, 1) := by decide +kernel
theorem dX9_car_14 : decode cX9_car 14 = .ok (.iconst 5, 1) := by decide +kernel
theorem dX9_car_15 : decode cX9_car 15 = .ok (.invokestatic 84, 3) := by decide +kernel
theorem dX9_car_18 : decode cX9_car 18 = .ok (.ifCond .eq 7, 3) := by decide +kernel
theorem dX9_car_21 : decode cX9_car 21 = .ok (.iconst 0, 1) := by decide +kernel
theorem dX9_car_22 : decode cX9_car 22 = .ok (.goto 4, 3) := by decide +kernel
theorem dX9_car_25 : decode cX9_car 25 = .ok (.iconst 2, 1) := by decide +kernel
theorem dX9_car_26 : decode cX9_car 26 = .ok (.invokevirtual 92, 3) := by decide +kernel
theorem dX9_car_29 : decode cX9_car 29 = .ok (.ifCond .ne 5, 3) := by decide +kernel
theorem dX9_car_32 : decode cX9_car 32 = .ok (.iconst 0, 1) := by decide +kernel
theorem dX9_car_33 : decode cX9_car 33 = .ok (.ireturn, 1) := by decide +kernel
theorem dX9_car_34 : decode cX9_car 34 = .ok (.iload_n 2, 1) := by decide +kernel
theorem dX9_car_35 : decode cX9_car 35 = .ok (.iconst 4, 1) := by decide +kernel
theorem dX9_car_36 : decode cX9_car 36 = .ok (.if_icmp .ge 67, 3) := by decide +kernel
theorem dX9_car_39 : decode cX9_car 39 = .ok (.iload_n 2, 1) := by decide +kernel
theorem dX9_car_40 : decode cX9_car 40 = .ok (.ifCond .ne 12, 3) := by decide +kernel
theorem dX9_car_43 : decode cX9_car 43 = .ok (.aload_n 0, 1) := by decide +kernel
theorem dX9_car_44 : decode cX9_car 44 = .ok (.getfield 41, 3) := by decide +kernel
theorem dX9_car_47 : decode cX9_car 47 = .ok (.iload_n 1, 1) := by decide +kernel
theorem dX9_car_48 : decode cX9_car 48 = .ok (.iaload, 1) := by decide +kernel
theorem dX9_car_49 : decode cX9_car 49 = .ok (.goto 53, 3) := by decide +kernel
theorem dX9_car_52 : decode cX9_car 52 = .ok (.iload_n 2, 1) := by decide +kernel
theorem dX9_car_53 : decode cX9_car 53 = .ok (.iconst 1, 1) := by decide +kernel
theorem dX9_car_54 : decode cX9_car 54 = .ok (.if_icmp .ne 12, 3) := by decide +kernel
theorem dX9_car_57 : decode cX9_car 57 = .ok (.aload_n 0, 1) := by decide +kernel
theorem dX9_car_58 : decode cX9_car 58 = .ok (.getfield 44, 3) := by decide +kernel
theorem dX9_car_61 : decode cX9_car 61 = .ok (.iload_n 1, 1) := by decide +kernel
theorem dX9_car_62 : decode cX9_car 62 = .ok (.iaload, 1) := by decide +kernel
theorem dX9_car_63 : decode cX9_car 63 = .ok (.goto 39, 3) := by decide +kernel
theorem dX9_car_66 : decode cX9_car 66 = .ok (.iload_n 2, 1) := by decide +kernel
theorem dX9_car_67 : decode cX9_car 67 = .ok (.iconst 2, 1) := by decide +kernel
theorem dX9_car_68 : decode cX9_car 68 = .ok (.if_icmp .ne 20, 3) := by decide +kernel
theorem dX9_car_71 : decode cX9_car 71 = .ok (.aload_n 0, 1) := by decide +kernel
theorem dX9_car_72 : decode cX9_car 72 = .ok (.getfield 47, 3) := by decide +kernel
theorem dX9_car_75 : decode cX9_car 75 = .ok (.iload_n 1, 1) := by decide +kernel
theorem dX9_car_76 : decode cX9_car 76 = .ok (.baload, 1) := by decide +kernel
theorem dX9_car_77 : decode cX9_car 77 = .ok (.ifCond .eq 7, 3) := by decide +kernel
theorem dX9_car_80 : decode cX9_car 80 = .ok (.iconst 1, 1) := by decide +kernel
theorem dX9_car_81 : decode cX9_car 81 = .ok (.goto 21, 3) := by decide +kernel
theorem dX9_car_84 : decode cX9_car 84 = .ok (.iconst 0, 1) := by decide +kernel
theorem dX9_car_85 : decode cX9_car 85 = .ok (.goto 17, 3) := by decide +kernel
theorem dX9_car_88 : decode cX9_car 88 = .ok (.aload_n 0, 1) := by decide +kernel
theorem dX9_car_89 : decode cX9_car 89 = .ok (.getfield 50, 3) := by decide +kernel
theorem dX9_car_92 : decode cX9_car 92 = .ok (.iload_n 1, 1) := by decide +kernel
theorem dX9_car_93 : decode cX9_car 93 = .ok (.baload, 1) := by decide +kernel
theorem dX9_car_94 : decode cX9_car 94 = .ok (.ifCond .eq 7, 3) := by decide +kernel
theorem dX9_car_97 : decode cX9_car 97 = .ok (.iconst 1, 1) := by decide +kernel
theorem dX9_car_98 : decode cX9_car 98 = .ok (.goto 4, 3) := by decide +kernel
theorem dX9_car_101 : decode cX9_car 101 = .ok (.iconst 0, 1) := by decide +kernel
theorem dX9_car_102 : decode cX9_car 102 = .ok (.ireturn, 1) := by decide +kernel
theorem dX9_car_103 : decode cX9_car 103 = .ok (.aload_n 0, 1) := by decide +kernel
theorem dX9_car_104 : decode cX9_car 104 = .ok (.iconst 0, 1) := by decide +kernel
theorem dX9_car_105 : decode cX9_car 105 = .ok (.invokevirtual 101, 3) := by decide +kernel
theorem dX9_car_108 : decode cX9_car 108 = .ok (.iload_n 2, 1) := by decide +kernel
theorem dX9_car_109 : decode cX9_car 109 = .ok (.iconst 4, 1) := by decide +kernel
theorem dX9_car_110 : decode cX9_car 110 = .ok (.if_icmp .ne 11, 3) := by decide +kernel
theorem dX9_car_113 : decode cX9_car 113 = .ok (.aload_n 0, 1) := by decide +kernel
theorem dX9_car_114 : decode cX9_car 114 = .ok (.iload_n 1, 1) := by decide +kernel
theorem dX9_car_115 : decode cX9_car 115 = .ok (.invokevirtual 161, 3) := by decide +kernel
theorem dX9_car_118 : decode cX9_car 118 = .ok (.goto 9, 3) := by decide +kernel
theorem dX9_car_121 : decode cX9_car 121 = .ok (.aload_n 0, 1) := by decide +kernel
theorem dX9_car_122 : decode cX9_car 122 = .ok (.getfield 68, 3) := by decide +kernel
theorem dX9_car_125 : decode cX9_car 125 = .ok (.iload_n 1, 1) := by decide +kernel
theorem dX9_car_126 : decode cX9_car 126 = .ok (.iaload, 1) := by decide +kernel
theorem dX9_car_127 : decode cX9_car 127 = .ok (.ireturn, 1) := by decide +kernel
theorem dX9_totalAnew_0 : decode cX9_totalAnew 0 = .ok (.aload_n 0, 1) := by decide +kernel
theorem dX9_totalAnew_1 : decode cX9_totalAnew 1 = .ok (.iload_n 1, 1) := by decide +kernel
theorem dX9_totalAnew_2 : decode cX9_totalAnew 2 = .ok (.invokestatic 120, 3) := by decide +kernel
theorem dX9_totalAnew_5 : decode cX9_totalAnew 5 = .ok (.ifCond .eq 7, 3) := by decide +kernel
theorem dX9_totalAnew_8 : decode cX9_totalAnew 8 = .ok (.iconst 0, 1) := by decide +kernel
theorem dX9_totalAnew_9 : decode cX9_totalAnew 9 = .ok (.goto 4, 3) := by decide +kernel
theorem dX9_totalAnew_12 : decode cX9_totalAnew 12 = .ok (.iconst 1, 1) := by decide +kernel
theorem dX9_totalAnew_13 : decode cX9_totalAnew 13 = .ok (.invokevirtual 92, 3) := by decide +kernel
theorem dX9_totalAnew_16 : decode cX9_totalAnew 16 = .ok (.ifCond .eq 11, 3) := by decide +kernel
theorem dX9_totalAnew_19 : decode cX9_totalAnew 19 = .ok (.aload_n 0, 1) := by decide +kernel
theorem dX9_totalAnew_20 : decode cX9_totalAnew 20 = .ok (.iload_n 1, 1) := by decide +kernel
theorem dX9_totalAnew_21 : decode cX9_totalAnew 21 = .ok (.invokevirtual 161, 3) := by decide +kernel
theorem dX9_totalAnew_24 : decode cX9_totalAnew 24 = .ok (.goto 4, 3) := by decide +kernel
theorem dX9_totalAnew_27 : decode cX9_totalAnew 27 = .ok (.iconst 0, 1) := by decide +kernel
theorem dX9_totalAnew_28 : decode cX9_totalAnew 28 = .ok (.ireturn, 1) := by decide +kernel
theorem dX9_ranked_0 : decode cX9_ranked 0 = .ok (.aload_n 0, 1) := by decide +kernel
theorem dX9_ranked_1 : decode cX9_ranked 1 = .ok (.iload_n 1, 1) := by decide +kernel
theorem dX9_ranked_2 : decode cX9_ranked 2 = .ok (.iconst 0, 1) := by decide +kernel
theorem dX9_ranked_3 : decode cX9_ranked 3 = .ok (.bipush 9, 2) := by decide +kernel
theorem dX9_ranked_5 : decode cX9_ranked 5 = .ok (.invokestatic 84, 3) := by decide +kernel
theorem dX9_ranked_8 : decode cX9_ranked 8 = .ok (.ifCond .eq 7, 3) := by decide +kernel
theorem dX9_ranked_11 : decode cX9_ranked 11 = .ok (.iconst 0, 1) := by decide +kernel
theorem dX9_ranked_12 : decode cX9_ranked 12 = .ok (.goto 4, 3) := by decide +kernel
theorem dX9_ranked_15 : decode cX9_ranked 15 = .ok (.iconst 1, 1) := by decide +kernel
theorem dX9_ranked_16 : decode cX9_ranked 16 = .ok (.invokevirtual 92, 3) := by decide +kernel
theorem dX9_ranked_19 : decode cX9_ranked 19 = .ok (.ifCond .ne 5, 3) := by decide +kernel
theorem dX9_ranked_22 : decode cX9_ranked 22 = .ok (.iconst 0, 1) := by decide +kernel
theorem dX9_ranked_23 : decode cX9_ranked 23 = .ok (.ireturn, 1) := by decide +kernel
theorem dX9_ranked_24 : decode cX9_ranked 24 = .ok (.aload_n 0, 1) := by decide +kernel
theorem dX9_ranked_25 : decode cX9_ranked 25 = .ok (.iconst 0, 1) := by decide +kernel
theorem dX9_ranked_26 : decode cX9_ranked 26 = .ok (.invokevirtual 101, 3) := by decide +kernel
theorem dX9_ranked_29 : decode cX9_ranked 29 = .ok (.aload_n 0, 1) := by decide +kernel
theorem dX9_ranked_30 : decode cX9_ranked 30 = .ok (.iload_n 1, 1) := by decide +kernel
theorem dX9_ranked_31 : decode cX9_ranked 31 = .ok (.invokevirtual 109, 3) := by decide +kernel
theorem dX9_ranked_34 : decode cX9_ranked 34 = .ok (.ireturn, 1) := by decide +kernel
theorem dX9_close_0 : decode cX9_close 0 = .ok (.aload_n 0, 1) := by decide +kernel
theorem dX9_close_1 : decode cX9_close 1 = .ok (.aload_n 0, 1) := by decide +kernel
theorem dX9_close_2 : decode cX9_close 2 = .ok (.getfield 171, 3) := by decide +kernel
theorem dX9_close_5 : decode cX9_close 5 = .ok (.bipush 6, 2) := by decide +kernel
theorem dX9_close_7 : decode cX9_close 7 = .ok (.if_icmp .eq 13, 3) := by decide +kernel
theorem dX9_close_10 : decode cX9_close 10 = .ok (.aload_n 0, 1) := by decide +kernel
theorem dX9_close_11 : decode cX9_close 11 = .ok (.getfield 19, 3) := by decide +kernel
theorem dX9_close_14 : decode cX9_close 14 = .ok (.iconst 0, 1) := by decide +kernel
theorem dX9_close_15 : decode cX9_close 15 = .ok (.iaload, 1) := by decide +kernel
theorem dX9_close_16 : decode cX9_close 16 = .ok (.iconst (-1), 1) := by decide +kernel
theorem dX9_close_17 : decode cX9_close 17 = .ok (.if_icmp .ne 7, 3) := by decide +kernel
theorem dX9_close_20 : decode cX9_close 20 = .ok (.iconst 1, 1) := by decide +kernel
theorem dX9_close_21 : decode cX9_close 21 = .ok (.goto 4, 3) := by decide +kernel
theorem dX9_close_24 : decode cX9_close 24 = .ok (.iconst 0, 1) := by decide +kernel
theorem dX9_close_25 : decode cX9_close 25 = .ok (.invokevirtual 92, 3) := by decide +kernel
theorem dX9_close_28 : decode cX9_close 28 = .ok (.ifCond .ne 5, 3) := by decide +kernel
theorem dX9_close_31 : decode cX9_close 31 = .ok (.iconst 0, 1) := by decide +kernel
theorem dX9_close_32 : decode cX9_close 32 = .ok (.ireturn, 1) := by decide +kernel
theorem dX9_close_33 : decode cX9_close 33 = .ok (.aload_n 0, 1) := by decide +kernel
theorem dX9_close_34 : decode cX9_close 34 = .ok (.iconst 0, 1) := by decide +kernel
theorem dX9_close_35 : decode cX9_close 35 = .ok (.invokevirtual 101, 3) := by decide +kernel
theorem dX9_close_38 : decode cX9_close 38 = .ok (.iconst 0, 1) := by decide +kernel
theorem dX9_close_39 : decode cX9_close 39 = .ok (.istore_n 1, 1) := by decide +kernel
theorem dX9_close_40 : decode cX9_close 40 = .ok (.iload_n 1, 1) := by decide +kernel
theorem dX9_close_41 : decode cX9_close 41 = .ok (.bipush 10, 2) := by decide +kernel
theorem dX9_close_43 : decode cX9_close 43 = .ok (.if_icmp .ge 29, 3) := by decide +kernel
theorem dX9_close_46 : decode cX9_close 46 = .ok (.aload_n 0, 1) := by decide +kernel
theorem dX9_close_47 : decode cX9_close 47 = .ok (.getfield 65, 3) := by decide +kernel
